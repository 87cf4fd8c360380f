/-! ===== texts: what the JDK's members answer upon the literals ===== -/
def qch (s k : Nat) : Int := ((qsT s).getD k 0).toInt
def qix (c : Int) : List Int32 → Int → Int
  | [], _ => -1
  | b :: l, k => if b.toInt = c then k else qix c l (k + 1)
def DJ0_length_8abf5 (s0 : Nat) (h : qH) : Option (Int × qH) := some (((qsT s0).length : Int), h)
def DJ0_charAt_5068e (s0 : Nat) (a1 : Int) (h : qH) : Option (Int × qH) := if 0 ≤ a1 ∧ a1 < ((qsT s0).length : Int) then some (qch s0 a1.toNat, h) else none
def DJ0_indexOf_0f7a4 (s0 : Nat) (a1 : Int) (h : qH) : Option (Int × qH) := some (qix a1 (qsT s0) 0, h)
section qtexts
variable {L : Nat} {xs : Nat → Int32} {cc : ByteArray} {own : String} {nL d rk pc pc' : Nat} {lv lv' : List (Nat × qV)} {st : List qV} {h : qH} {x y : Option (Int × qH)}
theorem qtx_tab : (List.range 31).all (fun s => decide ((qsT s).length ≤ 146) && decide (1 ≤ (qsT s).length) && (qsT s).all (fun b => decide (0 ≤ b.toInt) && decide (b.toInt < 128))) = true := by decide +kernel
theorem qtx_f {s : Nat} (hs : s < 31) : (qsT s).length ≤ 146 ∧ 1 ≤ (qsT s).length ∧ ∀ b ∈ qsT s, 0 ≤ b.toInt ∧ b.toInt < 128 := by
  have g := List.all_eq_true.mp qtx_tab s (List.mem_range.mpr hs)
  simp only [Bool.and_eq_true, decide_eq_true_eq, List.all_eq_true] at g
  exact ⟨g.1.1, g.1.2, fun b hb => g.2 b hb⟩
theorem qch_f {s k : Nat} (hs : s < 31) (hk : k < (qsT s).length) : 0 ≤ qch s k ∧ qch s k < 128 := by
  have g := (qtx_f hs).2.2 ((qsT s).getD k 0) (by
    rw [List.getD_eq_getElem?_getD, List.getElem?_eq_getElem hk]
    exact List.getElem_mem hk)
  exact g
/-- a text's bytes -/
theorem S_tval {t index : Nat} (ht : t < 31) (hw : Cond.fieldLink own index "java/lang/String" "value" "[B" ∈ lw_tbl) (hd : decode cc pc = .ok (.getfield index, 3)) (hp : pc + 3 = pc') (k : qS L xs cc own nL d rk pc' lv (qr (301 + 2 * t) :: st) h x) : qS L xs cc own nL d rk pc lv (qr (300 + 2 * t) :: st) h x := by
  intro r h' hx
  refine ⟨(k r h' hx).1, ?_⟩
  intro p l e R s m args below meth c H locs cells slots Q D aC A ad Kc Ks ls hE adE B hRc hRs hret
  obtain ⟨hii, hRm, hG, ⟨hl, hlk, hsk⟩, hHk, hRep, hcs, hag⟩ := B
  subst hp
  obtain ⟨-, hsk⟩ := List.forall_mem_cons.mp hsk
  have use : ∀ w ∈ lw_tbl, qgw w = true → w.before args s = true := fun w hw hg => qNw_use hg (hG.1 w hw hg)
  refine vk_getf hii.1 hii.2.1 ((hG.2.2.2.2.1 t ht).2.1 0 (by decide)).2.2.1 hRep.2 hii.2.2.2 (use _ hw rfl) (fun x hx => hx) hd ?_
  exact (k r h' hx).2 p l e R s m args below meth c H locs cells slots Q D aC A ad Kc Ks ls hE adE ⟨hii, hRm, hG, ⟨hl, hlk, List.forall_mem_cons.mpr ⟨Or.inr (Or.inl (by omega)), hsk⟩⟩, hHk, hRep, hcs, hag⟩ hRc hRs hret
theorem S_tcod {t index : Nat} (ht : t < 31) (hw : Cond.fieldLink own index "java/lang/String" "coder" "B" ∈ lw_tbl) (hd : decode cc pc = .ok (.getfield index, 3)) (hp : pc + 3 = pc') (k : qS L xs cc own nL d rk pc' lv (qi 0 :: st) h x) : qS L xs cc own nL d rk pc lv (qr (300 + 2 * t) :: st) h x := by
  intro r h' hx
  refine ⟨(k r h' hx).1, ?_⟩
  intro p l e R s m args below meth c H locs cells slots Q D aC A ad Kc Ks ls hE adE B hRc hRs hret
  obtain ⟨hii, hRm, hG, ⟨hl, hlk, hsk⟩, hHk, hRep, hcs, hag⟩ := B
  subst hp
  obtain ⟨-, hsk⟩ := List.forall_mem_cons.mp hsk
  have use : ∀ w ∈ lw_tbl, qgw w = true → w.before args s = true := fun w hw hg => qNw_use hg (hG.1 w hw hg)
  refine vk_getf hii.1 hii.2.1 ((hG.2.2.2.2.1 t ht).2.1 0 (by decide)).2.1 hRep.2 hii.2.2.2 (use _ hw rfl) (fun x hx => hx) hd ?_
  exact (k r h' hx).2 p l e R s m args below meth c H locs cells slots Q D aC A ad Kc Ks ls hE adE ⟨hii, hRm, hG, ⟨hl, hlk, List.forall_mem_cons.mpr ⟨by show q32 0; decide, hsk⟩⟩, hHk, hRep, hcs, hag⟩ hRc hRs hret
theorem S_tlen {t : Nat} (ht : t < 31) (hd : decode cc pc = .ok (.arraylength, 1)) (hp : pc + 1 = pc') (k : qS L xs cc own nL d rk pc' lv (qi ((qsT t).length : Int) :: st) h x) : qS L xs cc own nL d rk pc lv (qr (301 + 2 * t) :: st) h x := by
  intro r h' hx
  refine ⟨(k r h' hx).1, ?_⟩
  intro p l e R s m args below meth c H locs cells slots Q D aC A ad Kc Ks ls hE adE B hRc hRs hret
  obtain ⟨hii, hRm, hG, ⟨hl, hlk, hsk⟩, hHk, hRep, hcs, hag⟩ := B
  subst hp
  obtain ⟨-, hsk⟩ := List.forall_mem_cons.mp hsk
  have tl := qtx_f ht
  refine va_tlen hii.1 hii.2.1 ((hG.2.2.2.2.1 t ht).2.1 0 (by decide)).2.2.2 hRep.2 rfl hd ?_
  exact (k r h' hx).2 p l e R s m args below meth c H locs cells slots Q D aC A ad Kc Ks ls hE adE ⟨hii, hRm, hG, ⟨hl, hlk, List.forall_mem_cons.mpr ⟨by show q32 ((qsT t).length : Int); omega, hsk⟩⟩, hHk, hRep, hcs, hag⟩ hRc hRs hret
theorem S_tald {t : Nat} {a : Int} (ht : t < 31) (h0 : 0 ≤ a) (h1 : a < ((qsT t).length : Int)) (hd : decode cc pc = .ok (.baload, 1)) (hp : pc + 1 = pc') (k : qS L xs cc own nL d rk pc' lv (qi (qch t a.toNat) :: st) h x) : qS L xs cc own nL d rk pc lv (qi a :: qr (301 + 2 * t) :: st) h x := by
  intro r h' hx
  refine ⟨(k r h' hx).1, ?_⟩
  intro p l e R s m args below meth c H locs cells slots Q D aC A ad Kc Ks ls hE adE B hRc hRs hret
  obtain ⟨hii, hRm, hG, ⟨hl, hlk, hsk⟩, hHk, hRep, hcs, hag⟩ := B
  subst hp
  obtain ⟨hk0, hsk⟩ := List.forall_mem_cons.mp hsk
  have hk0 : q32 a := hk0
  obtain ⟨-, hsk⟩ := List.forall_mem_cons.mp hsk
  have hv := qch_f ht (k := a.toNat) (by omega)
  refine va_tb (v := q2 ad (qi (qch t a.toNat))) hii.1 hii.2.1 ((hG.2.2.2.2.1 t ht).2.1 0 (by decide)).2.2.2 hRep.2 (qin h0 h1 hk0) ?_ hd ?_
  · rw [qcl hk0]
    show Value.int ((qsT t).getD a.toNat 0) = Value.int (Int32.ofInt ((qsT t).getD a.toNat 0).toInt)
    rw [Int32.ofInt_toInt]
  · exact (k r h' hx).2 p l e R s m args below meth c H locs cells slots Q D aC A ad Kc Ks ls hE adE ⟨hii, hRm, hG, ⟨hl, hlk, List.forall_mem_cons.mpr ⟨by show q32 (qch t a.toNat); omega, hsk⟩⟩, hHk, hRep, hcs, hag⟩ hRc hRs hret
theorem S_tz {index : Nat} (hw : Cond.fieldLink own index "java/lang/String" "COMPACT_STRINGS" "Z" ∈ lw_tbl) (hd : decode cc pc = .ok (.getstatic index, 3)) (hp : pc + 3 = pc') (k : qS L xs cc own nL d rk pc' lv (qi 1 :: st) h x) : qS L xs cc own nL d rk pc lv st h x := by
  intro r h' hx
  refine ⟨(k r h' hx).1, ?_⟩
  intro p l e R s m args below meth c H locs cells slots Q D aC A ad Kc Ks ls hE adE B hRc hRs hret
  obtain ⟨hii, hRm, hG, ⟨hl, hlk, hsk⟩, hHk, hRep, hcs, hag⟩ := B
  subst hp
  have use : ∀ w ∈ lw_tbl, qgw w = true → w.before args s = true := fun w hw hg => qNw_use hg (hG.1 w hw hg)
  refine va_gets hii.1 hii.2.1 hG.2.2.2.2.2.1 hRep.2 hii.2.2.2 (use _ hw rfl) (fun x hx => hx) hd ?_
  exact (k r h' hx).2 p l e R s m args below meth c H locs cells slots Q D aC A ad Kc Ks ls hE adE ⟨hii, hRm, hG, ⟨hl, hlk, List.forall_mem_cons.mpr ⟨by show q32 1; decide, hsk⟩⟩, hHk, hRep, hcs, hag⟩ hRc hRs hret
/-! the formatter: a reference of which nothing is known -/
theorem qF_lt {i k j : Nat} (hi : i < 225) (hk : k < 39) (hj : qF h i k = some j) : j < 227 := by
  unfold qF at hj
  by_cases c1 : (qK i).1 = 2 ∧ k = 4
  · rw [if_pos c1] at hj
    by_cases z : h.2.1 = true
    · rw [if_pos z] at hj; injection hj with hj; omega
    · rw [if_neg z] at hj; cases hj
  · rw [if_neg c1] at hj
    by_cases c2 : (qK i).1 = 2 ∧ k = 5
    · rw [if_pos c2] at hj
      by_cases z : h.2.2.1 = true
      · rw [if_pos z] at hj; injection hj with hj; omega
      · rw [if_neg z] at hj; cases hj
    · rw [if_neg c2] at hj
      by_cases c3 : (qK i).1 = 4 ∧ k = 3
      · rw [if_pos c3] at hj
        by_cases z : h.2.2.2.1 = true
        · rw [if_pos z] at hj; injection hj with hj; omega
        · rw [if_neg z] at hj; injection hj with hj; omega
      · rw [if_neg c3] at hj
        cases ho : qO (qK i).1 k with
        | none => rw [ho] at hj; cases hj
        | some o =>
          rw [ho] at hj
          have := q_far i hi k hk o ho
          injection hj with hj
          have hj2 : i + o = j := hj
          omega
theorem qent_ad {aC : Nat → ClassId} {ad ad2 : Nat → Nat} (e : ∀ i, i < 227 → ad2 i = ad i) {i : Nat} (hi : i < 227) : qent aC ad2 h i = qent aC ad h i := by
  have k5 : i = 225 → (qK i).1 = 21 := fun z => by subst z; decide
  have k6 : i = 226 → (qK i).1 = 22 := fun z => by subst z; decide
  unfold qent
  by_cases c1 : (qK i).1 < 20
  · rw [if_pos c1, if_pos c1]
    have hi5 : i < 225 := by
      by_cases z : i = 225
      · have := k5 z; omega
      · by_cases z2 : i = 226
        · have := k6 z2; omega
        · omega
    have n39 := q_n39 i hi5 c1
    congr 2
    unfold qfl
    refine List.map_congr_left (fun k hk => ?_)
    have hk' := List.mem_range.mp hk
    unfold qfv
    by_cases c2 : qT (qK i).1 k < 2
    · rw [if_pos c2, if_pos c2]
    · rw [if_neg c2, if_neg c2]
      cases hf : qF h i k with
      | none => rfl
      | some j =>
        have := qF_lt hi5 (by omega) hf
        rw [Option.map_some, Option.map_some, e j this]
  · rw [if_neg c1, if_neg c1]
    by_cases c2 : (qK i).1 = 24
    · rw [if_pos c2, if_pos c2]
    · rw [if_neg c2, if_neg c2]
      by_cases c3 : (qK i).1 < 24
      · rw [if_pos c3, if_pos c3]
      · rw [if_neg c3, if_neg c3]
        have hi5 : i < 225 := by
          by_cases z : i = 225
          · have := k5 z; omega
          · by_cases z2 : i = 226
            · have := k6 z2; omega
            · omega
        congr 7
        funext j
        by_cases z : j < (qK i).2
        · rw [if_pos z, if_pos z, e _ (by have := q_farE i hi5 (by omega) j z; omega)]
        · rw [if_neg z, if_neg z]
theorem qRep_ad {D : va_G} {aC : Nat → ClassId} {A : Nat → Prop} {ad ad2 : Nat → Nat} {H : Heap} (e : ∀ i, i < 227 → ad2 i = ad i) (hR : qRep D aC A ad h H) : qRep D aC A ad2 h H := by
  have e1 : qWl (qids h) ad2 (qent aC ad2 h) = qWl (qids h) ad (qent aC ad h) := by
    unfold qWl
    refine List.map_congr_left (fun i hi => ?_)
    have h7 : i < 227 := by
      unfold qids at hi
      rw [List.mem_append, List.mem_append, List.mem_range] at hi
      rcases hi with (hi | hi) | hi
      · omega
      · by_cases z : h.2.1 = true
        · rw [if_pos z, List.mem_singleton] at hi; omega
        · rw [if_neg z] at hi; cases hi
      · by_cases z : h.2.2.1 = true
        · rw [if_pos z, List.mem_singleton] at hi; omega
        · rw [if_neg z] at hi; cases hi
    rw [e i h7, qent_ad e h7]
  unfold qRep
  rw [e1]
  exact hR
theorem S_fmt {index : Nat} {u v : Int} (hlv : lv = [(0, qi u), (1, qi v)]) (hst : st = [qi v, qi u]) (hrk : rk = 0) (hw : Cond.fieldLink own index "jdk/internal/util/Preconditions" "SIOOBE_FORMATTER" "Ljava/util/function/BiFunction;" ∈ lw_tbl) (hd : decode cc pc = .ok (.getstatic index, 3)) (hp : pc + 3 = pc') (kn : qS L xs cc own nL d rk pc' lv (qn :: st) h x) (kr : qS L xs cc own nL d rk pc' lv (qr 1000 :: st) h x) : qS L xs cc own nL d rk pc lv st h x := by
  intro r h' hx
  refine ⟨(kn r h' hx).1, ?_⟩
  intro p l e R s m args below meth c H locs cells slots Q D aC A ad Kc Ks ls hE adE B hRc hRs hret
  obtain ⟨hii, hRm, hG, ⟨hl, hlk, hsk⟩, hHk, hRep, hcs, hag⟩ := B
  subst hp
  have use : ∀ w ∈ lw_tbl, qgw w = true → w.before args s = true := fun w hw hg => qNw_use hg (hG.1 w hw hg)
  rcases hG.2.2.2.2.2.2 with z | ⟨t, z⟩
  · refine va_gets hii.1 hii.2.1 z hRep.2 hii.2.2.2 (use _ hw rfl) (fun x hx => hx) hd ?_
    exact (kn r h' hx).2 p l e R s m args below meth c H locs cells slots Q D aC A ad Kc Ks ls hE adE ⟨hii, hRm, hG, ⟨hl, hlk, List.forall_mem_cons.mpr ⟨trivial, hsk⟩⟩, hHk, hRep, hcs, hag⟩ hRc hRs hret
  · refine va_gets hii.1 hii.2.1 z hRep.2 hii.2.2.2 (use _ hw rfl) (fun x hx => hx) hd ?_
    have e2 : ∀ (f : Nat → Nat) (i : Nat), ¬ i = 1000 → (fun i => if i = 1000 then t else f i) i = f i := fun f i hi => if_neg hi
    have em : (qr 1000 :: st).map (q2 (fun i => if i = 1000 then t else ad i)) = .ref t :: st.map (q2 ad) := by
      rw [hst]
      rfl
    rw [← em]
    have hl2 : lv.map (fun q => (q.1, q2 (fun i => if i = 1000 then t else ad i) q.2)) = lv.map (fun q => (q.1, q2 ad q.2)) := by
      rw [hlv]
      rfl
    refine (kr r h' hx).2 p l e R s m args below meth c H locs cells slots Q D aC A (fun i => if i = 1000 then t else ad i) Kc Ks ls hE (fun i => if i = 1000 then t else adE i) ⟨hii, hRm, ?_, ⟨by rw [hl2]; exact hl, hlk, List.forall_mem_cons.mpr ⟨Or.inr (Or.inl (by omega)), hsk⟩⟩, hHk, ⟨qRep_ad (fun i hi => e2 ad i (by omega)) hRep.1, hRep.2⟩, hcs, ⟨hag.1, fun i hi => ?_⟩⟩ hRc hRs ?_
    · obtain ⟨g1, g2, g3, g4, g5, g6, g7⟩ := hG
      refine ⟨g1, g2, g3, ?_, fun k hk => ?_, g6, g7⟩
      · show va_X ((fun i => if i = 1000 then t else ad i) 227) L xs s s.heap ∧ _
        rw [e2 ad 227 (by decide)]
        exact g4
      · have := g5 k hk
        have a1 : (if 300 + 2 * k = 1000 then t else ad (300 + 2 * k)) = ad (300 + 2 * k) := if_neg (by omega)
        have a2 : (if 301 + 2 * k = 1000 then t else ad (301 + 2 * k)) = ad (301 + 2 * k) := if_neg (by omega)
        simp only [a1, a2]
        exact this
    · by_cases z : i = 1000
      · rw [z]; rfl
      · show (if i = 1000 then t else ad i) = if i = 1000 then t else adE i
        rw [if_neg z, if_neg z]
        exact hag.2 i hi
    · intro ad' H' locs' cells' slots' pc' ls' k1 k2 k3 k4 k5 k6 k7 k8
      have K := hret (fun i => if i = 1000 then adE 1000 else ad' i) H' locs' cells' slots' pc' ls' ⟨k1.1, fun i hi => by
        by_cases z : i = 1000
        · rw [z]; rfl
        · show (if i = 1000 then adE 1000 else ad' i) = adE i
          rw [if_neg z]
          have := k1.2 i hi
          rw [this]
          exact if_neg z⟩ k2 k3 (qRep_ad (fun i hi => if_neg (by omega)) k4) k5 k6 k7 k8
      subst hrk
      exact K
end qtexts
/-! ===== their walks ===== -/
section qtwalks
variable {L : Nat} {xs : Nat → Int32}
theorem UJ0_coder (t : Nat) (ht : t < 31) (h : qH) : qMet L xs yJ0_coder_7d493 cJ0_coder_7d493 1 (some .byte) 6 1 [qr (300 + 2 * t)] h (some (0, h)) := by
  refine qMet.ofF (by decide +kernel) (Or.inr (Or.inr (Or.inr (Or.inr (Or.inr (Or.inr ⟨rfl, rfl⟩)))))) (Nat.le_of_ble_eq_true rfl) ?_
  show qS L xs cJ0_coder_7d493 "java/lang/String" 1 1 6 0 [(0, qr (300 + 2 * t))] [] h (some (0, h))
  refine S_tz tw_473 dJ0_coder_7d493_0 rfl ?_
  have e : (some ((0 : Int), h)) = (if (1 : Int) = 0 then none else some (0, h)) := by rw [if_neg (by decide)]
  rw [e]
  refine S_if_eq (tgt := 13) dJ0_coder_7d493_3 (by decide) rfl (fun z => absurd z (by decide)) (fun _ => ?_)
  refine S_aload_n 0 dJ0_coder_7d493_6 rfl rfl rfl ?_
  refine S_tcod ht tw_1853 dJ0_coder_7d493_7 rfl ?_
  refine S_goto (pc' := 14) dJ0_coder_7d493_10 (by decide) ?_
  have e2 : (some ((0 : Int), h)) = (if -128 ≤ (0 : Int) ∧ (0 : Int) < 128 then some (0, h) else none) := by rw [if_pos (by decide)]
  rw [e2]
  exact S_bret dJ0_coder_7d493_14
theorem UJ0_isLatin1 (t : Nat) (ht : t < 31) (h : qH) : qMet L xs yJ0_isLatin1_aae02 cJ0_isLatin1_aae02 1 (some .boolean) 4 1 [qr (300 + 2 * t)] h (some (1, h)) := by
  refine qMet.ofF (by decide +kernel) (Or.inr (Or.inr (Or.inr (Or.inr (Or.inl ⟨rfl, rfl⟩))))) (Nat.le_of_ble_eq_true rfl) ?_
  show qS L xs cJ0_isLatin1_aae02 "java/lang/String" 1 1 4 0 [(0, qr (300 + 2 * t))] [] h (some (1, h))
  refine S_tz tw_473 dJ0_isLatin1_aae02_0 rfl ?_
  have e : (some ((1 : Int), h)) = (if (1 : Int) = 0 then none else some (1, h)) := by rw [if_neg (by decide)]
  rw [e]
  refine S_if_eq (tgt := 17) dJ0_isLatin1_aae02_3 (by decide) rfl (fun z => absurd z (by decide)) (fun _ => ?_)
  refine S_aload_n 0 dJ0_isLatin1_aae02_6 rfl rfl rfl ?_
  refine S_tcod ht tw_1853 dJ0_isLatin1_aae02_7 rfl ?_
  have e3 : (some ((1 : Int), h)) = (if ¬ (0 : Int) = 0 then none else some (1, h)) := by rw [if_neg (by decide)]
  rw [e3]
  refine S_if_ne (tgt := 17) dJ0_isLatin1_aae02_10 (by decide) rfl (fun z => absurd rfl z) (fun _ => ?_)
  refine S_iconst dJ0_isLatin1_aae02_13 rfl (by decide) ?_
  refine S_goto (pc' := 18) dJ0_isLatin1_aae02_14 (by decide) ?_
  have e2 : (some ((1 : Int), h)) = (if (1 : Int) = 0 ∨ (1 : Int) = 1 then some (1, h) else none) := by rw [if_pos (by decide)]
  rw [e2]
  exact S_zret dJ0_isLatin1_aae02_18
theorem TJ0_length_8abf5 (s0 : Nat) (t0 : s0 < 31) (h : qH) : qMet L xs yJ0_length_8abf5 cJ0_length_8abf5 1 (some .int) 1 2 [qr (300 + 2 * s0)] h (DJ0_length_8abf5 s0 h) := by
  refine qMet.ofF (by decide +kernel) (Or.inr (Or.inl ⟨rfl, rfl⟩)) (Nat.le_of_ble_eq_true rfl) ?_
  show qS L xs cJ0_length_8abf5 "java/lang/String" 1 2 1 0 [(0, qr (300 + 2 * s0))] [] h (DJ0_length_8abf5 s0 h)
  unfold DJ0_length_8abf5
  have tl := qtx_f t0
  refine S_aload_n 0 dJ0_length_8abf5_0 rfl rfl rfl ?_
  refine S_tval t0 tw_1854 dJ0_length_8abf5_1 rfl ?_
  refine S_tlen t0 dJ0_length_8abf5_4 rfl ?_
  refine S_aload_n 0 dJ0_length_8abf5_5 rfl rfl rfl ?_
  refine S_callT_i (as := []) (st := [qi ((qsT s0).length : Int)]) (K := fun _ h => some (((qsT s0).length : Int), h)) (fun _ => rfl) (UJ0_coder s0 t0 h) yv_J0_coder_7d493 tw_479 t0 (by decide) rfl rfl (Nat.le_of_ble_eq_true rfl) dJ0_length_8abf5_6 rfl (fun r1 h1 e => ?_)
  injection e with e
  injection e with e1 e2
  subst e1 e2
  refine S_ishr dJ0_length_8abf5_9 rfl ?_
  have e3 : qshr ((qsT s0).length : Int) 0 = ((qsT s0).length : Int) := by
    have g : (List.range 147).all (fun n => decide (qshr (n : Int) 0 = (n : Int))) = true := by decide +kernel
    exact of_decide_eq_true (List.all_eq_true.mp g _ (List.mem_range.mpr (by omega)))
  rw [e3]
  exact S_iret dJ0_length_8abf5_10
/-! charAt -/
theorem UJ3_check (u v : Int) (w : qV) (hw : qcat w = 1) (h : qH) : qMet L xs yJ3_checkIndex_8e157 cJ3_checkIndex_8e157 3 (some .int) 1 1 [qi u, qi v, w] h (if 0 ≤ u ∧ u < v then some (u, h) else none) := by
  refine qMet.ofF (by decide +kernel) (Or.inr (Or.inl ⟨rfl, rfl⟩)) (by simp only [List.map_cons, List.map_nil, List.sum_cons, List.sum_nil, hw]; exact Nat.le_of_ble_eq_true rfl) ?_
  show qS L xs cJ3_checkIndex_8e157 "jdk/internal/util/Preconditions" 3 1 1 0 [(0, qi u), (1, qi v), (2, w)] [] h (if 0 ≤ u ∧ u < v then some (u, h) else none)
  have e : (if 0 ≤ u ∧ u < v then some (u, h) else none) = (if u < 0 then none else (if u < v then some (u, h) else none)) := by
    (repeat' split) <;> first | rfl | omega
  rw [e]
  refine S_iload_n 0 dJ3_checkIndex_8e157_0 rfl rfl rfl ?_
  refine S_if_lt (tgt := 9) dJ3_checkIndex_8e157_1 (by decide) rfl (fun _ => S_none) (fun _ => ?_)
  refine S_iload_n 0 dJ3_checkIndex_8e157_4 rfl rfl rfl ?_
  refine S_iload_n 1 dJ3_checkIndex_8e157_5 rfl rfl rfl ?_
  refine S_icmp_lt (tgt := 16) dJ3_checkIndex_8e157_6 (by decide) rfl (fun _ => ?_) (fun _ => S_none)
  refine S_iload_n 0 dJ3_checkIndex_8e157_16 rfl rfl rfl ?_
  exact S_iret dJ3_checkIndex_8e157_17
theorem UJ0_check (u v : Int) (h : qH) : qMet L xs yJ0_checkIndex_df160 cJ0_checkIndex_df160 2 none 0 2 [qi u, qi v] h (if 0 ≤ u ∧ u < v then some (0, h) else none) := by
  refine qMet.ofF (by decide +kernel) (Or.inl ⟨rfl, rfl⟩) (Nat.le_of_ble_eq_true rfl) ?_
  show qS L xs cJ0_checkIndex_df160 "java/lang/String" 2 2 0 0 [(0, qi u), (1, qi v)] [] h (if 0 ≤ u ∧ u < v then some (0, h) else none)
  refine S_ite (fun hu => ?_) (fun _ => S_none)
  refine S_iload_n 0 dJ0_checkIndex_df160_0 rfl rfl rfl ?_
  refine S_iload_n 1 dJ0_checkIndex_df160_1 rfl rfl rfl ?_
  have go : ∀ w : qV, qcat w = 1 → qS L xs cJ0_checkIndex_df160 "java/lang/String" 2 2 0 5 [(0, qi u), (1, qi v)] (w :: [qi v, qi u]) h (some (0, h)) := by
    intro w hw
    have e : (some ((0 : Int), h)) = qbd (if 0 ≤ u ∧ u < v then some (u, h) else none) (fun _ h => some (0, h)) := by
      rw [if_pos hu]
      rfl
    rw [e]
    refine S_callS_i (as := [qi u, qi v, w]) (st := []) (fun _ => rfl) (UJ3_check u v w hw h) yv_J3_checkIndex_8e157 tw_569 (by decide) rfl rfl (Nat.le_of_ble_eq_true rfl) dJ0_checkIndex_df160_5 rfl (fun r1 h1 e => ?_)
    rw [if_pos hu] at e
    injection e with e
    injection e with e1 e2
    subst e1 e2
    refine S_pop dJ0_checkIndex_df160_8 rfl rfl ?_
    exact S_vret dJ0_checkIndex_df160_9
  exact S_fmt (u := u) (v := v) rfl rfl rfl tw_514 dJ0_checkIndex_df160_2 rfl (go qn rfl) (go (qr 1000) rfl)
theorem qc16_s {a : Int} (h0 : 0 ≤ a) (h1 : a < 128) : qc16 (qand a 255) = a := by
  obtain ⟨n, rfl⟩ := Int.eq_ofNat_of_zero_le h0
  have g : (List.range 128).all (fun n => decide (qc16 (qand (n : Int) 255) = (n : Int))) = true := by decide +kernel
  exact of_decide_eq_true (List.all_eq_true.mp g n (List.mem_range.mpr (by omega)))
theorem UJ1_charAt (t : Nat) (a : Int) (ht : t < 31) (h : qH) : qMet L xs yJ1_charAt_3b067 cJ1_charAt_3b067 2 (some .char) 5 3 [qr (301 + 2 * t), qi a] h (DJ0_charAt_5068e t a h) := by
  refine qMet.ofF (by decide +kernel) (Or.inr (Or.inr (Or.inr (Or.inr (Or.inr (Or.inl ⟨rfl, rfl⟩)))))) (Nat.le_of_ble_eq_true rfl) ?_
  show qS L xs cJ1_charAt_3b067 "java/lang/StringLatin1" 2 3 5 0 [(0, qr (301 + 2 * t)), (1, qi a)] [] h (DJ0_charAt_5068e t a h)
  unfold DJ0_charAt_5068e
  refine S_ite (fun hu => ?_) (fun _ => S_none)
  have hv := qch_f ht (k := a.toNat) (by omega)
  refine S_iload_n 1 dJ1_charAt_3b067_0 rfl rfl rfl ?_
  refine S_aload_n 0 dJ1_charAt_3b067_1 rfl rfl rfl ?_
  refine S_tlen ht dJ1_charAt_3b067_2 rfl ?_
  have e : (some (qch t a.toNat, h)) = qbd (if 0 ≤ a ∧ a < ((qsT t).length : Int) then some (0, h) else none) (fun _ h => some (qch t a.toNat, h)) := by
    rw [if_pos hu]
    rfl
  rw [e]
  refine S_callS_0 (as := [qi a, qi ((qsT t).length : Int)]) (st := []) (fun _ => rfl) (UJ0_check a ((qsT t).length : Int) h) yv_J0_checkIndex_df160 tw_566 (by decide) rfl rfl (Nat.le_of_ble_eq_true rfl) dJ1_charAt_3b067_3 rfl (fun r1 h1 e => ?_)
  rw [if_pos hu] at e
  injection e with e
  injection e with e1 e2
  subst e1 e2
  refine S_aload_n 0 dJ1_charAt_3b067_6 rfl rfl rfl ?_
  refine S_iload_n 1 dJ1_charAt_3b067_7 rfl rfl rfl ?_
  refine S_tald ht hu.1 hu.2 dJ1_charAt_3b067_8 rfl ?_
  refine S_sipush dJ1_charAt_3b067_9 rfl (by decide) (by decide) ?_
  refine S_iand dJ1_charAt_3b067_12 rfl ?_
  refine S_i2c dJ1_charAt_3b067_13 rfl ?_
  rw [qc16_s hv.1 hv.2]
  have e2 : (some (qch t a.toNat, h)) = (if 0 ≤ qch t a.toNat ∧ qch t a.toNat < 65536 then some (qch t a.toNat, h) else none) := by rw [if_pos (by omega)]
  rw [e2]
  exact S_cret dJ1_charAt_3b067_14
theorem TJ0_charAt_5068e (s0 : Nat) (a1 : Int) (t0 : s0 < 31) (h : qH) : qMet L xs yJ0_charAt_5068e cJ0_charAt_5068e 2 (some .char) 5 5 [qr (300 + 2 * s0), qi a1] h (DJ0_charAt_5068e s0 a1 h) := by
  refine qMet.ofF (by decide +kernel) (Or.inr (Or.inr (Or.inr (Or.inr (Or.inr (Or.inl ⟨rfl, rfl⟩)))))) (Nat.le_of_ble_eq_true rfl) ?_
  show qS L xs cJ0_charAt_5068e "java/lang/String" 2 5 5 0 [(0, qr (300 + 2 * s0)), (1, qi a1)] [] h (DJ0_charAt_5068e s0 a1 h)
  refine S_aload_n 0 dJ0_charAt_5068e_0 rfl rfl rfl ?_
  refine S_callT_i (as := []) (st := []) (K := fun _ h => DJ0_charAt_5068e s0 a1 h) (fun _ => rfl) (UJ0_isLatin1 s0 t0 h) yv_J0_isLatin1_aae02 tw_469 t0 (by decide) rfl rfl (Nat.le_of_ble_eq_true rfl) dJ0_charAt_5068e_1 rfl (fun r1 h1 e => ?_)
  injection e with e
  injection e with e1 e2
  subst e1 e2
  have e3 : DJ0_charAt_5068e s0 a1 h = (if (1 : Int) = 0 then none else DJ0_charAt_5068e s0 a1 h) := by rw [if_neg (by decide)]
  rw [e3]
  refine S_if_eq (tgt := 16) dJ0_charAt_5068e_4 (by decide) rfl (fun z => absurd z (by decide)) (fun _ => ?_)
  refine S_aload_n 0 dJ0_charAt_5068e_7 rfl rfl rfl ?_
  refine S_tval t0 tw_1854 dJ0_charAt_5068e_8 rfl ?_
  refine S_iload_n 1 dJ0_charAt_5068e_11 rfl rfl rfl ?_
  have e4 : DJ0_charAt_5068e s0 a1 h = qbd (DJ0_charAt_5068e s0 a1 h) (fun r h => if 0 ≤ r ∧ r < 65536 then some (r, h) else none) := by
    unfold DJ0_charAt_5068e
    by_cases z : 0 ≤ a1 ∧ a1 < ((qsT s0).length : Int)
    · have hv := qch_f t0 (k := a1.toNat) (by omega)
      rw [if_pos z]
      show _ = if 0 ≤ qch s0 a1.toNat ∧ qch s0 a1.toNat < 65536 then _ else _
      rw [if_pos (by omega)]
    · rw [if_neg z]
      rfl
  rw [e4]
  refine S_callS_i (as := [qr (301 + 2 * s0), qi a1]) (st := []) (fun _ => rfl) (UJ1_charAt s0 a1 t0 h) yv_J1_charAt_3b067 tw_563 (by decide) rfl rfl (Nat.le_of_ble_eq_true rfl) dJ0_charAt_5068e_12 rfl (fun r1 h1 _ => ?_)
  exact S_cret dJ0_charAt_5068e_15
/-! indexOf -/
theorem UJ9_max (a0 a1 : Int) (h : qH) : qMet L xs yJ9_max_7cf53 cJ9_max_7cf53 2 (some .int) 1 1 [qi a0, qi a1] h (if a0 < a1 then some (a1, h) else some (a0, h)) := by
  refine qMet.ofF (by decide +kernel) (Or.inr (Or.inl ⟨rfl, rfl⟩)) (Nat.le_of_ble_eq_true rfl) ?_
  show qS L xs cJ9_max_7cf53 "java/lang/Math" 2 1 1 0 [(0, qi a0), (1, qi a1)] [] h (if a0 < a1 then some (a1, h) else some (a0, h))
  refine S_iload_n 0 dJ9_max_7cf53_0 rfl rfl rfl ?_
  refine S_iload_n 1 dJ9_max_7cf53_1 rfl rfl rfl ?_
  refine S_icmp_lt (tgt := 9) dJ9_max_7cf53_2 (by decide) rfl (fun _ => ?_) (fun _ => ?_)
  · refine S_iload_n 1 dJ9_max_7cf53_9 rfl rfl rfl ?_
    exact S_iret dJ9_max_7cf53_10
  · refine S_iload_n 0 dJ9_max_7cf53_5 rfl rfl rfl ?_
    refine S_goto (pc' := 10) dJ9_max_7cf53_6 (by decide) ?_
    exact S_iret dJ9_max_7cf53_10
theorem UJ9_min (a0 a1 : Int) (h : qH) : qMet L xs yJ9_min_7cf53 cJ9_min_7cf53 2 (some .int) 1 1 [qi a0, qi a1] h (if a1 < a0 then some (a1, h) else some (a0, h)) := by
  refine qMet.ofF (by decide +kernel) (Or.inr (Or.inl ⟨rfl, rfl⟩)) (Nat.le_of_ble_eq_true rfl) ?_
  show qS L xs cJ9_min_7cf53 "java/lang/Math" 2 1 1 0 [(0, qi a0), (1, qi a1)] [] h (if a1 < a0 then some (a1, h) else some (a0, h))
  refine S_iload_n 0 dJ9_min_7cf53_0 rfl rfl rfl ?_
  refine S_iload_n 1 dJ9_min_7cf53_1 rfl rfl rfl ?_
  refine S_icmp_gt (tgt := 9) dJ9_min_7cf53_2 (by decide) rfl (fun _ => ?_) (fun _ => ?_)
  · refine S_iload_n 1 dJ9_min_7cf53_9 rfl rfl rfl ?_
    exact S_iret dJ9_min_7cf53_10
  · refine S_iload_n 0 dJ9_min_7cf53_5 rfl rfl rfl ?_
    refine S_goto (pc' := 10) dJ9_min_7cf53_6 (by decide) ?_
    exact S_iret dJ9_min_7cf53_10
theorem UJ1_can (a : Int) (h : qH) : qMet L xs yJ1_canEncode_9a6ad cJ1_canEncode_9a6ad 1 (some .boolean) 4 1 [qi a] h (some (if a < 0 then 0 else if 255 < a then 0 else 1, h)) := by
  refine qMet.ofF (by decide +kernel) (Or.inr (Or.inr (Or.inr (Or.inr (Or.inl ⟨rfl, rfl⟩))))) (Nat.le_of_ble_eq_true rfl) ?_
  show qS L xs cJ1_canEncode_9a6ad "java/lang/StringLatin1" 1 1 4 0 [(0, qi a)] [] h (some (if a < 0 then 0 else if 255 < a then 0 else 1, h))
  have e : some (if a < 0 then (0 : Int) else if 255 < a then 0 else 1, h) = (if a < 0 then some (0, h) else (if 255 < a then some (0, h) else some (1, h))) := by
    (repeat' split) <;> rfl
  rw [e]
  have z : qS L xs cJ1_canEncode_9a6ad "java/lang/StringLatin1" 1 1 4 15 [(0, qi a)] [] h (some (0, h)) := by
    refine S_iconst dJ1_canEncode_9a6ad_15 rfl (by decide) ?_
    have e2 : (some ((0 : Int), h)) = (if (0 : Int) = 0 ∨ (0 : Int) = 1 then some (0, h) else none) := by rw [if_pos (by decide)]
    rw [e2]
    exact S_zret dJ1_canEncode_9a6ad_16
  refine S_iload_n 0 dJ1_canEncode_9a6ad_0 rfl rfl rfl ?_
  refine S_if_lt (tgt := 15) dJ1_canEncode_9a6ad_1 (by decide) rfl (fun _ => z) (fun _ => ?_)
  refine S_iload_n 0 dJ1_canEncode_9a6ad_4 rfl rfl rfl ?_
  refine S_sipush dJ1_canEncode_9a6ad_5 rfl (by decide) (by decide) ?_
  refine S_icmp_gt (tgt := 15) dJ1_canEncode_9a6ad_8 (by decide) rfl (fun _ => z) (fun _ => ?_)
  refine S_iconst dJ1_canEncode_9a6ad_11 rfl (by decide) ?_
  refine S_goto (pc' := 16) dJ1_canEncode_9a6ad_12 (by decide) ?_
  have e2 : (some ((1 : Int), h)) = (if (1 : Int) = 0 ∨ (1 : Int) = 1 then some (1, h) else none) := by rw [if_pos (by decide)]
  rw [e2]
  exact S_zret dJ1_canEncode_9a6ad_16
theorem qb8_tab : (List.range 256).all (fun n => (decide (n < 128) && decide (qb8 (n : Int) = (n : Int))) || (decide (128 ≤ n) && decide (qb8 (n : Int) < 0))) = true := by decide +kernel
theorem qb8_f {a : Int} (h0 : 0 ≤ a) (h1 : a ≤ 255) : (a < 128 ∧ qb8 a = a) ∨ (128 ≤ a ∧ qb8 a < 0) := by
  obtain ⟨n, rfl⟩ := Int.eq_ofNat_of_zero_le h0
  have g := List.all_eq_true.mp qb8_tab n (List.mem_range.mpr (by omega))
  simp only [Bool.and_eq_true, Bool.or_eq_true, decide_eq_true_eq] at g
  rcases g with g | g
  · exact Or.inl ⟨by omega, g.2⟩
  · exact Or.inr ⟨by omega, g.2⟩
theorem UJ1_ixl (t : Nat) (ht : t < 31) (a : Int) (a0 : 0 ≤ a) (a1 : a ≤ 255) (h : qH) : ∀ (m i : Nat), i + m = (qsT t).length → qS L xs cJ1_indexOfChar_4cfef "java/lang/StringLatin1" 6 1 1 7 [(5, qi (i : Int)), (4, qi (qb8 a)), (0, qr (301 + 2 * t)), (1, qi a), (2, qi 0), (3, qi ((qsT t).length : Int))] [] h (some (qix a ((qsT t).drop i) (i : Int), h)) := by
  intro m
  have tl := qtx_f ht
  induction m with
  | zero =>
    intro i hi
    have e : some (qix a ((qsT t).drop i) (i : Int), h) = (if ((qsT t).length : Int) ≤ (i : Int) then some (-1, h) else none) := by
      rw [if_pos (by omega), List.drop_eq_nil_of_le (by omega)]
      rfl
    rw [e]
    refine S_iload 0 dJ1_indexOfChar_4cfef_7 rfl rfl ?_
    refine S_iload_n 5 dJ1_indexOfChar_4cfef_9 rfl rfl rfl ?_
    refine S_icmp_ge (tgt := 31) dJ1_indexOfChar_4cfef_10 (by decide) rfl (fun _ => ?_) (fun _ => S_none)
    refine S_iconst dJ1_indexOfChar_4cfef_31 rfl (by decide) ?_
    exact S_iret dJ1_indexOfChar_4cfef_32
  | succ m ih =>
    intro i hi
    have hv := qch_f ht (k := i) (by omega)
    have hb := qb8_f a0 a1
    have hdr : (qsT t).drop i = (qsT t).getD i 0 :: (qsT t).drop (i + 1) := by
      rw [List.drop_eq_getElem_cons (by omega), List.getD_eq_getElem?_getD, List.getElem?_eq_getElem (by omega)]
      rfl
    have e : some (qix a ((qsT t).drop i) (i : Int), h) = (if ((qsT t).length : Int) ≤ (i : Int) then none else (if ¬ qch t i = qb8 a then some (qix a ((qsT t).drop (i + 1)) ((i : Int) + 1), h) else some ((i : Int), h))) := by
      rw [if_neg (by omega), hdr]
      show some (if qch t i = a then (i : Int) else qix a ((qsT t).drop (i + 1)) ((i : Int) + 1), h) = _
      by_cases z : qch t i = a
      · rw [if_pos z, if_neg (by omega)]
      · rw [if_neg z, if_pos (by omega)]
    rw [e]
    refine S_iload 0 dJ1_indexOfChar_4cfef_7 rfl rfl ?_
    refine S_iload_n 5 dJ1_indexOfChar_4cfef_9 rfl rfl rfl ?_
    refine S_icmp_ge (tgt := 31) dJ1_indexOfChar_4cfef_10 (by decide) rfl (fun z => absurd z (by omega)) (fun _ => ?_)
    refine S_aload_n 2 dJ1_indexOfChar_4cfef_13 rfl rfl rfl ?_
    refine S_iload 0 dJ1_indexOfChar_4cfef_14 rfl rfl ?_
    refine S_tald ht (by omega) (by omega) dJ1_indexOfChar_4cfef_16 rfl ?_
    rw [Int.toNat_natCast]
    refine S_iload 1 dJ1_indexOfChar_4cfef_17 rfl rfl ?_
    refine S_icmp_ne (tgt := 25) dJ1_indexOfChar_4cfef_19 (by decide) rfl (fun _ => ?_) (fun _ => ?_)
    · refine S_iinc (lv' := [(5, qi ((i + 1 : Nat) : Int)), (4, qi (qb8 a)), (0, qr (301 + 2 * t)), (1, qi a), (2, qi 0), (3, qi ((qsT t).length : Int))]) 0 dJ1_indexOfChar_4cfef_25 rfl (by decide) ?_ rfl ?_
      · have w : qw ((i : Int) + 1) = ((i + 1 : Nat) : Int) := by
          show (Int32.ofInt ((i : Int) + 1)).toInt = _
          rw [q32_i ⟨by omega, by omega⟩]
          omega
        rw [w]
        rfl
      · refine S_goto (pc' := 7) dJ1_indexOfChar_4cfef_28 (by decide) ?_
        have := ih (i + 1) (by omega)
        rw [show ((i + 1 : Nat) : Int) = (i : Int) + 1 by omega] at this ⊢
        exact this
    · refine S_iload 0 dJ1_indexOfChar_4cfef_22 rfl rfl ?_
      exact S_iret dJ1_indexOfChar_4cfef_24
theorem UJ1_ixc (t : Nat) (ht : t < 31) (a : Int) (a0 : 0 ≤ a) (a1 : a ≤ 255) (h : qH) : qMet L xs yJ1_indexOfChar_4cfef cJ1_indexOfChar_4cfef 6 (some .int) 1 1 [qr (301 + 2 * t), qi a, qi 0, qi ((qsT t).length : Int)] h (some (qix a (qsT t) 0, h)) := by
  refine qMet.ofF (by decide +kernel) (Or.inr (Or.inl ⟨rfl, rfl⟩)) (Nat.le_of_ble_eq_true rfl) ?_
  show qS L xs cJ1_indexOfChar_4cfef "java/lang/StringLatin1" 6 1 1 0 [(0, qr (301 + 2 * t)), (1, qi a), (2, qi 0), (3, qi ((qsT t).length : Int))] [] h (some (qix a (qsT t) 0, h))
  refine S_iload_n 1 dJ1_indexOfChar_4cfef_0 rfl rfl rfl ?_
  refine S_i2b dJ1_indexOfChar_4cfef_1 rfl ?_
  refine S_istore (lv' := [(4, qi (qb8 a)), (0, qr (301 + 2 * t)), (1, qi a), (2, qi 0), (3, qi ((qsT t).length : Int))]) dJ1_indexOfChar_4cfef_2 (by decide) rfl rfl ?_
  refine S_iload_n 3 dJ1_indexOfChar_4cfef_4 rfl rfl rfl ?_
  refine S_istore (lv' := [(5, qi 0), (4, qi (qb8 a)), (0, qr (301 + 2 * t)), (1, qi a), (2, qi 0), (3, qi ((qsT t).length : Int))]) dJ1_indexOfChar_4cfef_5 (by decide) rfl rfl ?_
  exact UJ1_ixl t ht a a0 a1 h (qsT t).length 0 (by omega)
theorem qix_no {a : Int} : ∀ (l : List Int32) (k : Int), (∀ b ∈ l, ¬ b.toInt = a) → qix a l k = -1 := by
  intro l
  induction l with
  | nil => intro k _; rfl
  | cons b l ih =>
    intro k hb
    show (if b.toInt = a then k else qix a l (k + 1)) = -1
    rw [if_neg (hb b List.mem_cons_self)]
    exact ih (k + 1) (fun c hc => hb c (List.mem_cons_of_mem _ hc))
theorem UJ1_ix (t : Nat) (ht : t < 31) (a : Int) (h : qH) : qMet L xs yJ1_indexOf_4cfef cJ1_indexOf_4cfef 4 (some .int) 1 2 [qr (301 + 2 * t), qi a, qi 0, qi ((qsT t).length : Int)] h (some (qix a (qsT t) 0, h)) := by
  have tl := qtx_f ht
  refine qMet.ofF (by decide +kernel) (Or.inr (Or.inl ⟨rfl, rfl⟩)) (Nat.le_of_ble_eq_true rfl) ?_
  show qS L xs cJ1_indexOf_4cfef "java/lang/StringLatin1" 4 2 1 0 [(0, qr (301 + 2 * t)), (1, qi a), (2, qi 0), (3, qi ((qsT t).length : Int))] [] h (some (qix a (qsT t) 0, h))
  refine S_iload_n 1 dJ1_indexOf_4cfef_0 rfl rfl rfl ?_
  refine S_callS_i (as := [qi a]) (st := []) (K := fun _ h => some (qix a (qsT t) 0, h)) (fun _ => rfl) (UJ1_can a h) yv_J1_canEncode_9a6ad tw_486 (by decide) rfl rfl (Nat.le_of_ble_eq_true rfl) dJ1_indexOf_4cfef_1 rfl (fun r1 h1 e => ?_)
  injection e with e
  injection e with e1 e2
  subst e2
  by_cases c : 0 ≤ a ∧ a ≤ 255
  · have r1e : r1 = 1 := by rw [← e1, if_neg (by omega), if_neg (by omega)]
    subst r1e
    have e : some (qix a (qsT t) 0, h) = (if ¬ (1 : Int) = 0 then some (qix a (qsT t) 0, h) else none) := by rw [if_pos (by decide)]
    rw [e]
    refine S_if_ne (tgt := 9) dJ1_indexOf_4cfef_4 (by decide) rfl (fun _ => ?_) (fun z => absurd (by decide) z)
    refine S_iload_n 2 dJ1_indexOf_4cfef_9 rfl rfl rfl ?_
    refine S_iconst dJ1_indexOf_4cfef_10 rfl (by decide) ?_
    refine S_callS_i (as := [qi 0, qi 0]) (st := []) (K := fun _ h => some (qix a (qsT t) 0, h)) (fun _ => rfl) (UJ9_max 0 0 h) yv_J9_max_7cf53 tw_489 (by decide) rfl rfl (Nat.le_of_ble_eq_true rfl) dJ1_indexOf_4cfef_11 rfl (fun r1 h1 e => ?_)
    rw [if_neg (by decide)] at e
    injection e with e
    injection e with e1 e2
    subst e1 e2
    refine S_istore_n (lv' := [(2, qi 0), (0, qr (301 + 2 * t)), (1, qi a), (3, qi ((qsT t).length : Int))]) dJ1_indexOf_4cfef_14 rfl (by decide) rfl rfl ?_
    refine S_iload_n 3 dJ1_indexOf_4cfef_15 rfl rfl rfl ?_
    refine S_aload_n 1 dJ1_indexOf_4cfef_16 rfl rfl rfl ?_
    refine S_tlen ht dJ1_indexOf_4cfef_17 rfl ?_
    have eq : some (qix a (qsT t) 0, h) = qbd (if ((qsT t).length : Int) < ((qsT t).length : Int) then some (((qsT t).length : Int), h) else some (((qsT t).length : Int), h)) (fun _ h => some (qix a (qsT t) 0, h)) := by
      rw [if_neg (by omega)]
      rfl
    rw [eq]
    refine S_callS_i (as := [qi ((qsT t).length : Int), qi ((qsT t).length : Int)]) (st := []) (K := fun _ h => some (qix a (qsT t) 0, h)) (fun _ => rfl) (UJ9_min ((qsT t).length : Int) ((qsT t).length : Int) h) yv_J9_min_7cf53 tw_492 (by decide) rfl rfl (Nat.le_of_ble_eq_true rfl) dJ1_indexOf_4cfef_18 rfl (fun r1 h1 e => ?_)
    rw [if_neg (by omega)] at e
    injection e with e
    injection e with e1 e2
    subst e1 e2
    refine S_istore_n (lv' := [(3, qi ((qsT t).length : Int)), (2, qi 0), (0, qr (301 + 2 * t)), (1, qi a)]) dJ1_indexOf_4cfef_21 rfl (by decide) rfl rfl ?_
    refine S_iload_n 1 dJ1_indexOf_4cfef_22 rfl rfl rfl ?_
    refine S_iload_n 0 dJ1_indexOf_4cfef_23 rfl rfl rfl ?_
    have e : some (qix a (qsT t) 0, h) = (if (0 : Int) < ((qsT t).length : Int) then some (qix a (qsT t) 0, h) else none) := by rw [if_pos (by omega)]
    rw [e]
    refine S_icmp_lt (tgt := 29) dJ1_indexOf_4cfef_24 (by decide) rfl (fun _ => ?_) (fun z => absurd (by omega) z)
    refine S_aload_n 2 dJ1_indexOf_4cfef_29 rfl rfl rfl ?_
    refine S_iload_n 3 dJ1_indexOf_4cfef_30 rfl rfl rfl ?_
    refine S_iload_n 1 dJ1_indexOf_4cfef_31 rfl rfl rfl ?_
    refine S_iload_n 0 dJ1_indexOf_4cfef_32 rfl rfl rfl ?_
    refine S_callS_i (as := [qr (301 + 2 * t), qi a, qi 0, qi ((qsT t).length : Int)]) (st := []) (K := fun r h => some (r, h)) (fun _ => rfl) (UJ1_ixc t ht a c.1 c.2 h) yv_J1_indexOfChar_4cfef tw_493 (by decide) rfl rfl (Nat.le_of_ble_eq_true rfl) dJ1_indexOf_4cfef_33 rfl (fun r1 h1 _ => ?_)
    exact S_iret dJ1_indexOf_4cfef_36
  · have r1e : r1 = 0 := by
      rw [← e1]
      by_cases z : a < 0
      · rw [if_pos z]
      · rw [if_neg z, if_pos (by omega)]
    subst r1e
    have e : some (qix a (qsT t) 0, h) = (if ¬ (0 : Int) = 0 then none else some (-1, h)) := by
      rw [if_neg (by decide), qix_no _ _ (fun b hb z => ?_)]
      have := tl.2.2 b hb
      omega
    rw [e]
    refine S_if_ne (tgt := 9) dJ1_indexOf_4cfef_4 (by decide) rfl (fun z => absurd rfl z) (fun _ => ?_)
    refine S_iconst dJ1_indexOf_4cfef_7 rfl (by decide) ?_
    exact S_iret dJ1_indexOf_4cfef_8
theorem UJ0_ix2 (t : Nat) (ht : t < 31) (a : Int) (h : qH) : qMet L xs yJ0_indexOf_7cf53 cJ0_indexOf_7cf53 3 (some .int) 1 4 [qr (300 + 2 * t), qi a, qi 0] h (some (qix a (qsT t) 0, h)) := by
  refine qMet.ofF (by decide +kernel) (Or.inr (Or.inl ⟨rfl, rfl⟩)) (Nat.le_of_ble_eq_true rfl) ?_
  show qS L xs cJ0_indexOf_7cf53 "java/lang/String" 3 4 1 0 [(0, qr (300 + 2 * t)), (1, qi a), (2, qi 0)] [] h (some (qix a (qsT t) 0, h))
  refine S_aload_n 0 dJ0_indexOf_7cf53_0 rfl rfl rfl ?_
  refine S_callT_i (as := []) (st := []) (K := fun _ h => some (qix a (qsT t) 0, h)) (fun _ => rfl) (UJ0_isLatin1 t ht h) yv_J0_isLatin1_aae02 tw_469 ht (by decide) rfl rfl (Nat.le_of_ble_eq_true rfl) dJ0_indexOf_7cf53_1 rfl (fun r1 h1 e => ?_)
  injection e with e
  injection e with e1 e2
  subst e1 e2
  have e3 : some (qix a (qsT t) 0, h) = (if (1 : Int) = 0 then none else some (qix a (qsT t) 0, h)) := by rw [if_neg (by decide)]
  rw [e3]
  refine S_if_eq (tgt := 23) dJ0_indexOf_7cf53_4 (by decide) rfl (fun z => absurd z (by decide)) (fun _ => ?_)
  refine S_aload_n 0 dJ0_indexOf_7cf53_7 rfl rfl rfl ?_
  refine S_tval ht tw_1854 dJ0_indexOf_7cf53_8 rfl ?_
  refine S_iload_n 1 dJ0_indexOf_7cf53_11 rfl rfl rfl ?_
  refine S_iload_n 2 dJ0_indexOf_7cf53_12 rfl rfl rfl ?_
  refine S_aload_n 0 dJ0_indexOf_7cf53_13 rfl rfl rfl ?_
  refine S_callT_i (as := []) (st := [qi 0, qi a, qr (301 + 2 * t)]) (K := fun _ h => some (qix a (qsT t) 0, h)) (fun _ => rfl) (TJ0_length_8abf5 t ht h) yv_J0_length_8abf5 tw_475 ht (by decide) rfl rfl (Nat.le_of_ble_eq_true rfl) dJ0_indexOf_7cf53_14 rfl (fun r1 h1 e => ?_)
  injection e with e
  injection e with e1 e2
  subst e1 e2
  refine S_callS_i (as := [qr (301 + 2 * t), qi a, qi 0, qi ((qsT t).length : Int)]) (st := []) (K := fun r h => some (r, h)) (fun _ => rfl) (UJ1_ix t ht a h) yv_J1_indexOf_4cfef tw_483 (by decide) rfl rfl (Nat.le_of_ble_eq_true rfl) dJ0_indexOf_7cf53_17 rfl (fun r1 h1 _ => ?_)
  refine S_goto (pc' := 36) dJ0_indexOf_7cf53_20 (by decide) ?_
  exact S_iret dJ0_indexOf_7cf53_36
theorem TJ0_indexOf_0f7a4 (s0 : Nat) (a1 : Int) (t0 : s0 < 31) (h : qH) : qMet L xs yJ0_indexOf_0f7a4 cJ0_indexOf_0f7a4 2 (some .int) 1 7 [qr (300 + 2 * s0), qi a1] h (DJ0_indexOf_0f7a4 s0 a1 h) := by
  refine qMet.ofF (by decide +kernel) (Or.inr (Or.inl ⟨rfl, rfl⟩)) (Nat.le_of_ble_eq_true rfl) ?_
  show qS L xs cJ0_indexOf_0f7a4 "java/lang/String" 2 7 1 0 [(0, qr (300 + 2 * s0)), (1, qi a1)] [] h (DJ0_indexOf_0f7a4 s0 a1 h)
  unfold DJ0_indexOf_0f7a4
  refine S_aload_n 0 dJ0_indexOf_0f7a4_0 rfl rfl rfl ?_
  refine S_iload_n 1 dJ0_indexOf_0f7a4_1 rfl rfl rfl ?_
  refine S_iconst dJ0_indexOf_0f7a4_2 rfl (by decide) ?_
  refine S_callT_i (as := [qi a1, qi 0]) (st := []) (K := fun r h => some (r, h)) (fun _ => rfl) (UJ0_ix2 s0 t0 a1 h) yv_J0_indexOf_7cf53 tw_465 t0 (by decide) rfl rfl (Nat.le_of_ble_eq_true rfl) dJ0_indexOf_0f7a4_3 rfl (fun r1 h1 _ => ?_)
  exact S_iret dJ0_indexOf_0f7a4_6
end qtwalks
