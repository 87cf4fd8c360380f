/-! ===== the two rows that are made late ===== -/
def qalw (h : qH) : qH := (fun a b => if a = 225 then 0 else h.1 a b, true, h.2.2)
def qalo (h : qH) : qH := (fun a b => if a = 226 then 0 else h.1 a b, h.2.1, true, h.2.2.2)
theorem q_Pm {D : va_G} {cl : List vw_C} {w1 w2 : va_W} {H : Heap} (hm : ∀ e ∈ w2, e ∈ w1) (h : va_P D cl w1 H) : va_P D cl w2 H := by
  intro k q hk
  obtain ⟨i, hi⟩ := List.getElem?_of_mem (hm q (List.mem_of_getElem? hk))
  exact h i q hi
theorem q_Dm {A : Nat → Prop} {ids : List Nat} {ad : Nat → Nat} {f : Nat → va_E} (hn : ids.Nodup) (hi : ∀ i ∈ ids, ∀ j ∈ ids, ad i = ad j → i = j) (hA : ∀ i ∈ ids, A (ad i)) : va_D A (qWl ids ad f) := by
  refine ⟨fun i j p q h1 h2 he => ?_, fun k q hk => ?_⟩
  · unfold qWl at h1 h2
    rw [List.getElem?_map] at h1 h2
    cases e1 : ids[i]? with
    | none => rw [e1] at h1; cases h1
    | some a =>
      cases e2 : ids[j]? with
      | none => rw [e2] at h2; cases h2
      | some b =>
        rw [e1] at h1
        rw [e2] at h2
        cases h1
        cases h2
        have hab := hi a (List.mem_of_getElem? e1) b (List.mem_of_getElem? e2) he
        subst hab
        have l1 := List.getElem?_eq_some_iff.mp e1
        have l2 := List.getElem?_eq_some_iff.mp e2
        exact (List.getElem_inj hn).mp (l1.2.trans l2.2.symm)
  · unfold qWl at hk
    rw [List.getElem?_map] at hk
    cases e1 : ids[k]? with
    | none => rw [e1] at hk; cases hk
    | some a =>
      rw [e1] at hk
      cases hk
      exact hA a (List.mem_of_getElem? e1)
theorem q_new {A : Nat → Prop} {ws : va_W} {q : Nat} {e : va_E} (hD : va_D A (ws ++ [(q, e)])) : A q ∧ ∀ x ∈ ws, ¬ q = x.1 := by
  refine ⟨hD.2 ws.length (q, e) (by simp), fun x hx he => ?_⟩
  obtain ⟨b, hb⟩ := List.getElem?_of_mem hx
  have hbl := (List.getElem?_eq_some_iff.mp hb).1
  have := hD.1 ws.length b (q, e) x (by simp) (by rw [List.getElem?_append_left hbl]; exact hb) he
  omega
theorem q_inj {D : va_G} {aC : Nat → ClassId} {A : Nat → Prop} {ad : Nat → Nat} {h : qH} {H : Heap} (hR : qRep D aC A ad h H) : ∀ i ∈ qids h, ∀ j ∈ qids h, ad i = ad j → i = j := by
  intro i hi j hj he
  obtain ⟨a, ha⟩ := List.getElem?_of_mem hi
  obtain ⟨b, hb⟩ := List.getElem?_of_mem hj
  have := hR.2.1 a b (ad i, qent aC ad h i) (ad j, qent aC ad h j) (by simp [qWl, ha]) (by simp [qWl, hb]) he
  subst this
  exact Option.some.inj (ha.symm.trans hb)
theorem q_in {D : va_G} {aC : Nat → ClassId} {A : Nat → Prop} {ad : Nat → Nat} {h : qH} {H : Heap} (hR : qRep D aC A ad h H) : ∀ i ∈ qids h, A (ad i) ∧ ad i < H.size := by
  intro i hi
  obtain ⟨a, ha⟩ := List.getElem?_of_mem hi
  have e : (qWl (qids h) ad (qent aC ad h))[a]? = some (ad i, qent aC ad h i) := by simp [qWl, ha]
  exact ⟨hR.2.2 a _ e, (hR.1 a _ e).lt⟩
/-- no field, no row names a late row but the drift's two -/
theorem q_far : ∀ i, i < 225 → ∀ k, k < 39 → ∀ o, qO (qK i).1 k = some o → i + o < 225 := by
  have h : (List.range 225).all (fun i => (List.range 39).all (fun k => match qO (qK i).1 k with | some o => decide (i + o < 225) | none => true)) = true := by decide +kernel
  intro i hi k hk o ho
  have h1 := List.all_eq_true.mp h i (List.mem_range.mpr hi)
  have h2 := List.all_eq_true.mp h1 k (List.mem_range.mpr hk)
  rw [ho] at h2
  exact of_decide_eq_true h2
theorem q_farE : ∀ i, i < 225 → 24 < (qK i).1 → ∀ j, j < (qK i).2 → qEl i j < 225 := by
  have h : (List.range 225).all (fun i => !(decide (24 < (qK i).1)) || (List.range (qK i).2).all (fun j => decide (qEl i j < 225))) = true := by decide +kernel
  intro i hi hk j hj
  have h1 := List.all_eq_true.mp h i (List.mem_range.mpr hi)
  rw [Bool.or_eq_true] at h1
  rcases h1 with h1 | h1
  · simp at h1
    omega
  · exact of_decide_eq_true (List.all_eq_true.mp h1 j (List.mem_range.mpr hj))
theorem q_n39 : ∀ i, i < 225 → (qK i).1 < 20 → (qK i).2 ≤ 39 := by
  have h : (List.range 225).all (fun i => !(decide ((qK i).1 < 20)) || decide ((qK i).2 ≤ 39)) = true := by decide +kernel
  intro i hi hk
  have h1 := List.all_eq_true.mp h i (List.mem_range.mpr hi)
  simpa [hk] using h1
theorem q_4 : ∀ i, i < 225 → (qK i).1 = 2 → i = 4 := by
  have h : (List.range 225).all (fun i => !(decide ((qK i).1 = 2)) || decide (i = 4)) = true := by decide +kernel
  intro i hi hk
  have h1 := List.all_eq_true.mp h i (List.mem_range.mpr hi)
  simpa [hk] using h1

theorem qent_w {aC : Nat → ClassId} {ad : Nat → Nat} {h : qH} {q i : Nat} (hi : i < 225) (h4 : ¬ i = 4) : qent aC (fun j => if j = 225 then q else ad j) (qalw h) i = qent aC ad h i := by
  have n1 : ¬ i = 225 := by omega
  have e1 : (qalw h).1 i = h.1 i := by funext b; simp [qalw, n1]
  have hD : ¬ (qK i).1 = 2 := fun e => h4 (q_4 i hi e)
  by_cases hc : (qK i).1 < 20
  · have e2 : qfl (fun j => if j = 225 then q else ad j) (qalw h) i = qfl ad h i := by
      unfold qfl
      refine List.map_congr_left (fun k hk => ?_)
      have hk1 : k < (qK i).2 := List.mem_range.mp hk
      have hk2 := q_n39 i hi hc
      unfold qfv
      rw [e1]
      by_cases ht : qT (qK i).1 k < 2
      · simp [ht]
      · simp only [ht, if_false]
        have eF : qF (qalw h) i k = qF h i k := by
          unfold qF
          simp only [hD, false_and, if_false]
          rfl
        rw [eF]
        have nF : ∀ j, qF h i k = some j → ¬ j = 225 := by
          intro j hj
          unfold qF at hj
          simp only [hD, false_and, if_false] at hj
          split at hj
          · split at hj <;> (cases hj; decide)
          · cases ho : qO (qK i).1 k with
            | none => rw [ho] at hj; cases hj
            | some o =>
              rw [ho] at hj
              cases hj
              have := q_far i hi k (by omega) o ho
              show ¬ i + o = 225
              omega
        cases hq : qF h i k with
        | none => rfl
        | some j => simp [nF j hq]
    unfold qent
    rw [if_pos hc, if_pos hc, e2]
  · unfold qent
    rw [if_neg hc, if_neg hc, e1]
    by_cases h24 : (qK i).1 = 24
    · rw [if_pos h24, if_pos h24]
    · rw [if_neg h24, if_neg h24]
      by_cases hl : (qK i).1 < 24
      · rw [if_pos hl, if_pos hl]
      · rw [if_neg hl, if_neg hl]
        congr 7
        funext j
        by_cases hj : j < (qK i).2
        · have := q_farE i hi (by omega) j hj
          have n2 : ¬ qEl i j = 225 := by omega
          simp [hj, n2]
        · simp [hj]
set_option maxHeartbeats 2000000 in
theorem S_alw {L : Nat} {xs : Nat → Int32} {cc : ByteArray} {own : String} {nL d rk pc pc1 pc' index : Nat} {lv : List (Nat × qV)} {st : List qV} {h : qH} {x : Option (Int × qH)} (hf : ¬ h.2.1 = true) (hC : qCl 2 RX2 TX2 7 tyX2) (hw : Cond.fieldLink own index (TX2 4).1 (TX2 4).2.1 (TX2 4).2.2.1 ∈ lw_tbl) (hd1 : decode cc pc = .ok (.newarray .byte, 2)) (hd2 : decode cc pc1 = .ok (.putfield index, 3)) (hp1 : pc + 2 = pc1) (hp2 : pc1 + 3 = pc') (k : qS L xs cc own nL d rk pc' lv st (qalw h) x) : qS L xs cc own nL d rk pc lv (qi 6480 :: qr 4 :: st) h x := by
  have hM : qM h (qalw h) := ⟨fun _ => rfl, fun g => g⟩
  have hP0 : qp h = qp (qalw h) + 1 := by unfold qp qalw; simp [hf]; try omega
  have hS0 : qs h = qs (qalw h) + 6480 := by unfold qs qalw; simp [hf]; try omega
  intro r h' hx
  have hM2 := (k r h' hx).1
  refine ⟨hM.tr hM2, ?_⟩
  have p2 := hM2.p
  have s2 := hM2.s
  intro p l e R s m args below meth c H locs cells slots Q D aC A ad Kc Ks ls hE adE B hRc hRs hret
  obtain ⟨hii, hRm, hG, ⟨hl, hlk, hsk⟩, hHk, hRep, hcs, hag⟩ := B
  obtain ⟨hx0, hb, hml, hown⟩ := id hii
  subst hp1
  subst hp2
  obtain ⟨-, hsk⟩ := List.forall_mem_cons.mp hsk
  obtain ⟨-, hsk⟩ := List.forall_mem_cons.mp hsk
  obtain ⟨c1, c2, c3, c4, c5⟩ := hC
  have hi4 : qK 4 = (2, 7) := by decide +kernel
  have hmem4 : 4 ∈ qids h := qids_mem.mpr (Or.inl (by decide))
  obtain ⟨z, hz1, hz2⟩ := qWl_at (ad := ad) (f := qent aC ad h) (qids_nodup h) hmem4
  have hzl := (List.getElem?_eq_some_iff.mp hz1).1
  have hw68 : (Cond.arrayClass .byte) ∈ lw_tbl := tw_142
  refine va_newa (atype := .byte) (ty := .byte) (n := Int32.ofInt 6480) (N' := 6480) (a0 := (6480, .inl (fun _ => 0))) hx0 hb (qNw_use rfl (hG.1 _ hw68 rfl)) rfl hG.2.1 hRep.1.1 hRep.1.2 hRep.2 hG.2.2.1 (fun cA => rfl) (by decide) (by decide) (by decide) (by omega) (by omega) hd1 (fun q cA H1 hK1 hP1 hD1 hS1 => ?_)
  have ecA : cA = aC 1 := by
    have g1 : s.vm.findClass ("[" ++ (FieldType.byte).toString) = some cA := (hK1.2 9 (cA, .byte) rfl).2
    have g2 : s.vm.findClass ("[" ++ (FieldType.byte).toString) = some (aC 1) := (hG.2.1.2 1 (aC 1, .byte) rfl).2
    exact Option.some.inj (g1.symm.trans g2)
  subst ecA
  have hz3 : (qWl (qids h) ad (qent aC ad h) ++ [(q, (.inl (aC 1, 6480, .inl (fun _ => 0)) : va_E))])[z]? = some (ad 4, .inr (2, qfl ad h 4)) := by
    rw [List.getElem?_append_left hzl, hz1, qent_obj hi4 c2]
  refine va_put (Ts := u_ws RX2 TX2 7) (v := .ref q) hx0 hb (fun w hw => qNw_use (c3 w hw).2 (hG.1 w (c3 w hw).1 (c3 w hw).2)) (fun _ h => h) tyX2 c5 c4 hown hK1 hP1 hD1 hS1 z hz3 c1 4 (by decide) (qNw_use rfl (hG.1 _ hw rfl)) (fun _ h => h) rfl (c5 4 (by decide)) rfl rfl (by rw [qfl_len hi4]; decide) hd2 (fun H2 locs2 hP2 hD2 hS2 => ?_)
  rw [List.set_append_left _ _ hzl, hz2] at hP2 hD2
  have nid : 225 ∉ qids h := by rw [qids_mem]; simp [hf]
  have agr : ∀ i, qlv h i → (fun j => if j = 225 then q else ad j) i = ad i := by
    intro i hi
    have n1 : ¬ i = 225 := by
      rintro rfl
      rcases hi with g | g | g | g
      · omega
      · omega
      · exact hf g.2
      · omega
    simp [n1]
  have e4 : qent aC (fun j => if j = 225 then q else ad j) (qalw h) 4 = .inr (2, (qfl ad h 4).set 4 (.ref q)) := by
    rw [qent_obj hi4 c2]
    congr 2
    apply List.ext_getElem?
    intro n
    by_cases hn : n < 7
    · rw [qfl_at hi4 hn]
      rcases (show n = 0 ∨ n = 1 ∨ n = 2 ∨ n = 3 ∨ n = 4 ∨ n = 5 ∨ n = 6 by omega) with rfl | rfl | rfl | rfl | rfl | rfl | rfl
      · rw [List.getElem?_set_ne (by decide), qfl_at hi4 (by decide)]; unfold qfv qF qalw; rw [hi4]; first | rfl | (simp [qT, qTL, qO, qOL]; done) | (by_cases hh : h.2.1 = true <;> by_cases hh2 : h.2.2.1 = true <;> simp [hh, hh2, qT, qTL, qO, qOL])
      · rw [List.getElem?_set_ne (by decide), qfl_at hi4 (by decide)]; unfold qfv qF qalw; rw [hi4]; first | rfl | (simp [qT, qTL, qO, qOL]; done) | (by_cases hh : h.2.1 = true <;> by_cases hh2 : h.2.2.1 = true <;> simp [hh, hh2, qT, qTL, qO, qOL])
      · rw [List.getElem?_set_ne (by decide), qfl_at hi4 (by decide)]; unfold qfv qF qalw; rw [hi4]; first | rfl | (simp [qT, qTL, qO, qOL]; done) | (by_cases hh : h.2.1 = true <;> by_cases hh2 : h.2.2.1 = true <;> simp [hh, hh2, qT, qTL, qO, qOL])
      · rw [List.getElem?_set_ne (by decide), qfl_at hi4 (by decide)]; unfold qfv qF qalw; rw [hi4]; first | rfl | (simp [qT, qTL, qO, qOL]; done) | (by_cases hh : h.2.1 = true <;> by_cases hh2 : h.2.2.1 = true <;> simp [hh, hh2, qT, qTL, qO, qOL])
      · rw [List.getElem?_set_self (by rw [qfl_len hi4]; decide)]; unfold qfv qF qalw; rw [hi4]; rfl
      · rw [List.getElem?_set_ne (by decide), qfl_at hi4 (by decide)]; unfold qfv qF qalw; rw [hi4]; first | rfl | (simp [qT, qTL, qO, qOL]; done) | (by_cases hh : h.2.1 = true <;> by_cases hh2 : h.2.2.1 = true <;> simp [hh, hh2, qT, qTL, qO, qOL])
      · rw [List.getElem?_set_ne (by decide), qfl_at hi4 (by decide)]; unfold qfv qF qalw; rw [hi4]; first | rfl | (simp [qT, qTL, qO, qOL]; done) | (by_cases hh : h.2.1 = true <;> by_cases hh2 : h.2.2.1 = true <;> simp [hh, hh2, qT, qTL, qO, qOL])
    · rw [List.getElem?_eq_none_iff.mpr (by rw [qfl_len hi4]; omega), List.getElem?_eq_none_iff.mpr (by rw [List.length_set, qfl_len hi4]; omega)]
  have eid : qent aC (fun j => if j = 225 then q else ad j) (qalw h) 225 = .inl (aC 1, 6480, .inl (fun _ => 0)) := by
    have hk : qK 225 = (21, 6480) := by decide +kernel
    rw [qent_int hk (by decide) (by decide)]
    congr 4
  have hRep2 : qRep D aC A (fun j => if j = 225 then q else ad j) (qalw h) H2 := by
    have old : ∀ i ∈ qids (qalw h), i = 225 ∨ (¬ i = 225 ∧ i ∈ qids h) := by
      intro i hi
      rw [qids_mem] at hi
      by_cases n1 : i = 225
      · exact Or.inl n1
      · refine Or.inr ⟨n1, ?_⟩
        rw [qids_mem]
        rcases hi with g | g | g
        · exact Or.inl g
        · exact absurd g.1 n1
        · exact Or.inr (Or.inr ⟨g.1, g.2⟩)
    refine ⟨q_Pm ?_ hP2, q_Dm (qids_nodup _) ?_ ?_⟩
    · intro en hen
      obtain ⟨i, hi, rfl⟩ := List.mem_map.mp hen
      rcases old i hi with rfl | ⟨n1, hi⟩
      · rw [eid]
        simp
      · refine List.mem_append_left _ (List.mem_map.mpr ⟨i, hi, ?_⟩)
        by_cases n4 : i = 4
        · subst n4
          rw [e4]
          simp
        · simp only [n4, if_false]
          rcases Nat.lt_or_ge i 225 with hlt | hge
          · rw [qent_w hlt n4]
            simp [n1]
          · have hq2 : i = 226 := by
              rw [qids_mem] at hi
              omega
            subst hq2
            have hk : qK 226 = (22, 12960) := by decide +kernel
            rw [qent_int hk (by decide) (by decide), qent_int hk (by decide) (by decide)]
            simp [qalw]
    · have hqn : ∀ i ∈ qids h, ¬ q = ad i := fun i hi => (q_new hD1).2 (ad i, qent aC ad h i) (List.mem_map.mpr ⟨i, hi, rfl⟩)
      intro i hi j hj he
      rcases old i hi with rfl | ⟨n1, hi⟩ <;> rcases old j hj with rfl | ⟨n2, hj⟩
      · rfl
      · simp only [n2, if_true, if_false] at he
        exact absurd he (hqn j hj)
      · simp only [n1, if_true, if_false] at he
        exact absurd he.symm (hqn i hi)
      · simp only [n1, n2, if_false] at he
        exact q_inj hRep.1 i hi j hj he
    · intro i hi
      rcases old i hi with rfl | ⟨n1, hi⟩
      · simp only [if_true]
        exact (q_new hD1).1
      · simp only [n1, if_false]
        exact (q_in hRep.1 i hi).1
  have hHk2 : qHk (qalw h) := by
    obtain ⟨g1, g2, g3⟩ := hHk
    refine ⟨fun a b => ?_, fun a b hk => ?_, fun a ha => ?_⟩
    · show q64 (if a = 225 then 0 else h.1 a b)
      split
      · exact ⟨by decide, by decide⟩
      · exact g1 a b
    · show q32 (if a = 225 then 0 else h.1 a b)
      split
      · exact ⟨by decide, by decide⟩
      · exact g2 a b hk
    · show (if a = 225 then 0 else h.1 a 4) = 0 ∨ (if a = 225 then 0 else h.1 a 4) = 1
      split
      · exact Or.inl rfl
      · exact g3 a ha
  have e1 : lv.map (fun q => (q.1, q2 ad q.2)) = lv.map (fun u => (u.1, q2 (fun j => if j = 225 then q else ad j) u.2)) := List.map_congr_left (fun u hu => by rw [q2_ag agr (hlk u hu)])
  have e2 : st.map (q2 ad) = st.map (q2 (fun j => if j = 225 then q else ad j)) := List.map_congr_left (fun v hv => (q2_ag agr (hsk v hv)).symm)
  rw [e2]
  rw [e1] at hl
  exact (k r h' hx).2 p l e R s m args below meth c H2 locs2 _ _ Q D aC A _ Kc Ks ls hE adE ⟨hii, hRm, hG.go (State.WarmedH.refl s) (Nat.le_refl _) (fun _ _ _ => rfl) (fun i hi => agr i (Or.inr (Or.inl hi))), ⟨hl, fun q hq => hM.k (hlk q hq), fun v hv => hM.k (hsk v hv)⟩, hHk2, ⟨hRep2, hS2⟩, ⟨by omega, by omega⟩, ⟨hag.1.tr hM, fun i hi => (agr i (hag.1.lv hi)).trans (hag.2 i hi)⟩⟩ hRc hRs hret

theorem qent_o {aC : Nat → ClassId} {ad : Nat → Nat} {h : qH} {q i : Nat} (hi : i < 225) (h4 : ¬ i = 4) : qent aC (fun j => if j = 226 then q else ad j) (qalo h) i = qent aC ad h i := by
  have n1 : ¬ i = 226 := by omega
  have e1 : (qalo h).1 i = h.1 i := by funext b; simp [qalo, n1]
  have hD : ¬ (qK i).1 = 2 := fun e => h4 (q_4 i hi e)
  by_cases hc : (qK i).1 < 20
  · have e2 : qfl (fun j => if j = 226 then q else ad j) (qalo h) i = qfl ad h i := by
      unfold qfl
      refine List.map_congr_left (fun k hk => ?_)
      have hk1 : k < (qK i).2 := List.mem_range.mp hk
      have hk2 := q_n39 i hi hc
      unfold qfv
      rw [e1]
      by_cases ht : qT (qK i).1 k < 2
      · simp [ht]
      · simp only [ht, if_false]
        have eF : qF (qalo h) i k = qF h i k := by
          unfold qF
          simp only [hD, false_and, if_false]
          rfl
        rw [eF]
        have nF : ∀ j, qF h i k = some j → ¬ j = 226 := by
          intro j hj
          unfold qF at hj
          simp only [hD, false_and, if_false] at hj
          split at hj
          · split at hj <;> (cases hj; decide)
          · cases ho : qO (qK i).1 k with
            | none => rw [ho] at hj; cases hj
            | some o =>
              rw [ho] at hj
              cases hj
              have := q_far i hi k (by omega) o ho
              show ¬ i + o = 226
              omega
        cases hq : qF h i k with
        | none => rfl
        | some j => simp [nF j hq]
    unfold qent
    rw [if_pos hc, if_pos hc, e2]
  · unfold qent
    rw [if_neg hc, if_neg hc, e1]
    by_cases h24 : (qK i).1 = 24
    · rw [if_pos h24, if_pos h24]
    · rw [if_neg h24, if_neg h24]
      by_cases hl : (qK i).1 < 24
      · rw [if_pos hl, if_pos hl]
      · rw [if_neg hl, if_neg hl]
        congr 7
        funext j
        by_cases hj : j < (qK i).2
        · have := q_farE i hi (by omega) j hj
          have n2 : ¬ qEl i j = 226 := by omega
          simp [hj, n2]
        · simp [hj]
set_option maxHeartbeats 2000000 in
theorem S_alo {L : Nat} {xs : Nat → Int32} {cc : ByteArray} {own : String} {nL d rk pc pc1 pc' index : Nat} {lv : List (Nat × qV)} {st : List qV} {h : qH} {x : Option (Int × qH)} (hf : ¬ h.2.2.1 = true) (hC : qCl 2 RX2 TX2 7 tyX2) (hw : Cond.fieldLink own index (TX2 5).1 (TX2 5).2.1 (TX2 5).2.2.1 ∈ lw_tbl) (hd1 : decode cc pc = .ok (.newarray .short, 2)) (hd2 : decode cc pc1 = .ok (.putfield index, 3)) (hp1 : pc + 2 = pc1) (hp2 : pc1 + 3 = pc') (k : qS L xs cc own nL d rk pc' lv st (qalo h) x) : qS L xs cc own nL d rk pc lv (qi 12960 :: qr 4 :: st) h x := by
  have hM : qM h (qalo h) := ⟨fun g => g, fun _ => rfl⟩
  have hP0 : qp h = qp (qalo h) + 1 := by unfold qp qalo; simp [hf]; try omega
  have hS0 : qs h = qs (qalo h) + 12960 := by unfold qs qalo; simp [hf]; try omega
  intro r h' hx
  have hM2 := (k r h' hx).1
  refine ⟨hM.tr hM2, ?_⟩
  have p2 := hM2.p
  have s2 := hM2.s
  intro p l e R s m args below meth c H locs cells slots Q D aC A ad Kc Ks ls hE adE B hRc hRs hret
  obtain ⟨hii, hRm, hG, ⟨hl, hlk, hsk⟩, hHk, hRep, hcs, hag⟩ := B
  obtain ⟨hx0, hb, hml, hown⟩ := id hii
  subst hp1
  subst hp2
  obtain ⟨-, hsk⟩ := List.forall_mem_cons.mp hsk
  obtain ⟨-, hsk⟩ := List.forall_mem_cons.mp hsk
  obtain ⟨c1, c2, c3, c4, c5⟩ := hC
  have hi4 : qK 4 = (2, 7) := by decide +kernel
  have hmem4 : 4 ∈ qids h := qids_mem.mpr (Or.inl (by decide))
  obtain ⟨z, hz1, hz2⟩ := qWl_at (ad := ad) (f := qent aC ad h) (qids_nodup h) hmem4
  have hzl := (List.getElem?_eq_some_iff.mp hz1).1
  have hw68 : (Cond.arrayClass .short) ∈ lw_tbl := tw_1030
  refine va_newa (atype := .short) (ty := .short) (n := Int32.ofInt 12960) (N' := 12960) (a0 := (12960, .inl (fun _ => 0))) hx0 hb (qNw_use rfl (hG.1 _ hw68 rfl)) rfl hG.2.1 hRep.1.1 hRep.1.2 hRep.2 hG.2.2.1 (fun cA => rfl) (by decide) (by decide) (by decide) (by omega) (by omega) hd1 (fun q cA H1 hK1 hP1 hD1 hS1 => ?_)
  have ecA : cA = aC 2 := by
    have g1 : s.vm.findClass ("[" ++ (FieldType.short).toString) = some cA := (hK1.2 9 (cA, .short) rfl).2
    have g2 : s.vm.findClass ("[" ++ (FieldType.short).toString) = some (aC 2) := (hG.2.1.2 2 (aC 2, .short) rfl).2
    exact Option.some.inj (g1.symm.trans g2)
  subst ecA
  have hz3 : (qWl (qids h) ad (qent aC ad h) ++ [(q, (.inl (aC 2, 12960, .inl (fun _ => 0)) : va_E))])[z]? = some (ad 4, .inr (2, qfl ad h 4)) := by
    rw [List.getElem?_append_left hzl, hz1, qent_obj hi4 c2]
  refine va_put (Ts := u_ws RX2 TX2 7) (v := .ref q) hx0 hb (fun w hw => qNw_use (c3 w hw).2 (hG.1 w (c3 w hw).1 (c3 w hw).2)) (fun _ h => h) tyX2 c5 c4 hown hK1 hP1 hD1 hS1 z hz3 c1 5 (by decide) (qNw_use rfl (hG.1 _ hw rfl)) (fun _ h => h) rfl (c5 5 (by decide)) rfl rfl (by rw [qfl_len hi4]; decide) hd2 (fun H2 locs2 hP2 hD2 hS2 => ?_)
  rw [List.set_append_left _ _ hzl, hz2] at hP2 hD2
  have nid : 226 ∉ qids h := by rw [qids_mem]; simp [hf]
  have agr : ∀ i, qlv h i → (fun j => if j = 226 then q else ad j) i = ad i := by
    intro i hi
    have n1 : ¬ i = 226 := by
      rintro rfl
      rcases hi with g | g | g | g
      · omega
      · omega
      · omega
      · exact hf g.2
    simp [n1]
  have e4 : qent aC (fun j => if j = 226 then q else ad j) (qalo h) 4 = .inr (2, (qfl ad h 4).set 5 (.ref q)) := by
    rw [qent_obj hi4 c2]
    congr 2
    apply List.ext_getElem?
    intro n
    by_cases hn : n < 7
    · rw [qfl_at hi4 hn]
      rcases (show n = 0 ∨ n = 1 ∨ n = 2 ∨ n = 3 ∨ n = 4 ∨ n = 5 ∨ n = 6 by omega) with rfl | rfl | rfl | rfl | rfl | rfl | rfl
      · rw [List.getElem?_set_ne (by decide), qfl_at hi4 (by decide)]; unfold qfv qF qalo; rw [hi4]; first | rfl | (simp [qT, qTL, qO, qOL]; done) | (by_cases hh : h.2.1 = true <;> by_cases hh2 : h.2.2.1 = true <;> simp [hh, hh2, qT, qTL, qO, qOL])
      · rw [List.getElem?_set_ne (by decide), qfl_at hi4 (by decide)]; unfold qfv qF qalo; rw [hi4]; first | rfl | (simp [qT, qTL, qO, qOL]; done) | (by_cases hh : h.2.1 = true <;> by_cases hh2 : h.2.2.1 = true <;> simp [hh, hh2, qT, qTL, qO, qOL])
      · rw [List.getElem?_set_ne (by decide), qfl_at hi4 (by decide)]; unfold qfv qF qalo; rw [hi4]; first | rfl | (simp [qT, qTL, qO, qOL]; done) | (by_cases hh : h.2.1 = true <;> by_cases hh2 : h.2.2.1 = true <;> simp [hh, hh2, qT, qTL, qO, qOL])
      · rw [List.getElem?_set_ne (by decide), qfl_at hi4 (by decide)]; unfold qfv qF qalo; rw [hi4]; first | rfl | (simp [qT, qTL, qO, qOL]; done) | (by_cases hh : h.2.1 = true <;> by_cases hh2 : h.2.2.1 = true <;> simp [hh, hh2, qT, qTL, qO, qOL])
      · rw [List.getElem?_set_ne (by decide), qfl_at hi4 (by decide)]; unfold qfv qF qalo; rw [hi4]; first | rfl | (simp [qT, qTL, qO, qOL]; done) | (by_cases hh : h.2.1 = true <;> by_cases hh2 : h.2.2.1 = true <;> simp [hh, hh2, qT, qTL, qO, qOL])
      · rw [List.getElem?_set_self (by rw [qfl_len hi4]; decide)]; unfold qfv qF qalo; rw [hi4]; rfl
      · rw [List.getElem?_set_ne (by decide), qfl_at hi4 (by decide)]; unfold qfv qF qalo; rw [hi4]; first | rfl | (simp [qT, qTL, qO, qOL]; done) | (by_cases hh : h.2.1 = true <;> by_cases hh2 : h.2.2.1 = true <;> simp [hh, hh2, qT, qTL, qO, qOL])
    · rw [List.getElem?_eq_none_iff.mpr (by rw [qfl_len hi4]; omega), List.getElem?_eq_none_iff.mpr (by rw [List.length_set, qfl_len hi4]; omega)]
  have eid : qent aC (fun j => if j = 226 then q else ad j) (qalo h) 226 = .inl (aC 2, 12960, .inl (fun _ => 0)) := by
    have hk : qK 226 = (22, 12960) := by decide +kernel
    rw [qent_int hk (by decide) (by decide)]
    congr 4
  have hRep2 : qRep D aC A (fun j => if j = 226 then q else ad j) (qalo h) H2 := by
    have old : ∀ i ∈ qids (qalo h), i = 226 ∨ (¬ i = 226 ∧ i ∈ qids h) := by
      intro i hi
      rw [qids_mem] at hi
      by_cases n1 : i = 226
      · exact Or.inl n1
      · refine Or.inr ⟨n1, ?_⟩
        rw [qids_mem]
        rcases hi with g | g | g
        · exact Or.inl g
        · exact Or.inr (Or.inl ⟨g.1, g.2⟩)
        · exact absurd g.1 n1
    refine ⟨q_Pm ?_ hP2, q_Dm (qids_nodup _) ?_ ?_⟩
    · intro en hen
      obtain ⟨i, hi, rfl⟩ := List.mem_map.mp hen
      rcases old i hi with rfl | ⟨n1, hi⟩
      · rw [eid]
        simp
      · refine List.mem_append_left _ (List.mem_map.mpr ⟨i, hi, ?_⟩)
        by_cases n4 : i = 4
        · subst n4
          rw [e4]
          simp
        · simp only [n4, if_false]
          rcases Nat.lt_or_ge i 225 with hlt | hge
          · rw [qent_o hlt n4]
            simp [n1]
          · have hq2 : i = 225 := by
              rw [qids_mem] at hi
              omega
            subst hq2
            have hk : qK 225 = (21, 6480) := by decide +kernel
            rw [qent_int hk (by decide) (by decide), qent_int hk (by decide) (by decide)]
            simp [qalo]
    · have hqn : ∀ i ∈ qids h, ¬ q = ad i := fun i hi => (q_new hD1).2 (ad i, qent aC ad h i) (List.mem_map.mpr ⟨i, hi, rfl⟩)
      intro i hi j hj he
      rcases old i hi with rfl | ⟨n1, hi⟩ <;> rcases old j hj with rfl | ⟨n2, hj⟩
      · rfl
      · simp only [n2, if_true, if_false] at he
        exact absurd he (hqn j hj)
      · simp only [n1, if_true, if_false] at he
        exact absurd he.symm (hqn i hi)
      · simp only [n1, n2, if_false] at he
        exact q_inj hRep.1 i hi j hj he
    · intro i hi
      rcases old i hi with rfl | ⟨n1, hi⟩
      · simp only [if_true]
        exact (q_new hD1).1
      · simp only [n1, if_false]
        exact (q_in hRep.1 i hi).1
  have hHk2 : qHk (qalo h) := by
    obtain ⟨g1, g2, g3⟩ := hHk
    refine ⟨fun a b => ?_, fun a b hk => ?_, fun a ha => ?_⟩
    · show q64 (if a = 226 then 0 else h.1 a b)
      split
      · exact ⟨by decide, by decide⟩
      · exact g1 a b
    · show q32 (if a = 226 then 0 else h.1 a b)
      split
      · exact ⟨by decide, by decide⟩
      · exact g2 a b hk
    · show (if a = 226 then 0 else h.1 a 4) = 0 ∨ (if a = 226 then 0 else h.1 a 4) = 1
      split
      · exact Or.inl rfl
      · exact g3 a ha
  have e1 : lv.map (fun q => (q.1, q2 ad q.2)) = lv.map (fun u => (u.1, q2 (fun j => if j = 226 then q else ad j) u.2)) := List.map_congr_left (fun u hu => by rw [q2_ag agr (hlk u hu)])
  have e2 : st.map (q2 ad) = st.map (q2 (fun j => if j = 226 then q else ad j)) := List.map_congr_left (fun v hv => (q2_ag agr (hsk v hv)).symm)
  rw [e2]
  rw [e1] at hl
  exact (k r h' hx).2 p l e R s m args below meth c H2 locs2 _ _ Q D aC A _ Kc Ks ls hE adE ⟨hii, hRm, hG.go (State.WarmedH.refl s) (Nat.le_refl _) (fun _ _ _ => rfl) (fun i hi => agr i (Or.inr (Or.inl hi))), ⟨hl, fun q hq => hM.k (hlk q hq), fun v hv => hM.k (hsk v hv)⟩, hHk2, ⟨hRep2, hS2⟩, ⟨by omega, by omega⟩, ⟨hag.1.tr hM, fun i hi => (agr i (hag.1.lv hi)).trans (hag.2 i hi)⟩⟩ hRc hRs hret
