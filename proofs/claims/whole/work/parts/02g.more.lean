/-! ===== more rows: late references, switches, copies, texts, the script, ends ===== -/
def qsetT (h : qH) : qH := (h.1, h.2.1, h.2.2.1, true, h.2.2.2.2)
def qsetC (h : qH) : qH := (h.1, h.2.1, h.2.2.1, h.2.2.2.1, true)
def qcp (h : qH) (i j n : Nat) : qH := (fun a b => if a = j ∧ b < n then h.1 i b else h.1 a b, h.2)
def qbd (x : Option (Int × qH)) (f : Int → qH → Option (Int × qH)) : Option (Int × qH) := match x with
  | none => none
  | some q => f q.1 q.2
theorem qK_2 {i : Nat} (h : qK i = (2, 7)) : i = 4 := by
  have hl := qK_lt (i := i) (by rw [h]; decide)
  have := (by decide +kernel : ∀ i, i < 225 → qK i = (2, 7) → i = 4) i hl h
  exact this
section qmore
variable {L : Nat} {xs : Nat → Int32} {cc : ByteArray} {own : String} {nL d rk pc pc' : Nat} {lv lv' : List (Nat × qV)} {st : List qV} {h : qH} {x y : Option (Int × qH)}
theorem S_none : qS L xs cc own nL d rk pc lv st h none := fun _ _ hx => by cases hx
theorem S_ite {c : Prop} [Decidable c] (kt : c → qS L xs cc own nL d rk pc lv st h x) (kf : ¬ c → qS L xs cc own nL d rk pc lv st h y) : qS L xs cc own nL d rk pc lv st h (if c then x else y) := by
  by_cases hc : c
  · rw [if_pos hc]; exact kt hc
  · rw [if_neg hc]; exact kf hc
/-- a reference field that changes: read -/
theorem S_getd {ci N index i : Nat} {C : String} {T : u_T} {ty : Nat → FieldType} {v : qV} (k : Nat) (hC : qCl ci C T N ty) (hk : k < N) (hT : qT ci k = 2) (hi : qK i = (ci, N)) (hv : ∀ ad : Nat → Nat, va_rf ((qF h i k).map ad) = q2 ad v) (hkv : qk h v) (hw : Cond.fieldLink own index (T k).1 (T k).2.1 (T k).2.2.1 ∈ lw_tbl) (hd : decode cc pc = .ok (.getfield index, 3)) (hp : pc + 3 = pc') (kk : qS L xs cc own nL d rk pc' lv (v :: st) h x) : qS L xs cc own nL d rk pc lv (qr i :: st) h x := by
  intro r h' hx
  refine ⟨(kk r h' hx).1, ?_⟩
  intro p l e R s m args below meth c H locs cells slots Q D aC A ad Kc Ks ls hE adE B hRc hRs hret
  obtain ⟨hii, hRm, hG, ⟨hl, hlk, hsk⟩, hHk, hRep, hcs, hag⟩ := B
  obtain ⟨hx0, hb, hml, hown⟩ := id hii
  subst hp
  obtain ⟨hk0, hsk⟩ := List.forall_mem_cons.mp hsk
  obtain ⟨c1, c2, c3, c4, c5⟩ := hC
  have hlt : i < 225 := qK_lt (by rw [hi]; exact c2)
  obtain ⟨z, hz, -⟩ := qWl_at (ad := ad) (f := qent aC ad h) (qids_nodup h) (qids_mem.mpr (Or.inl hlt))
  rw [qent_obj hi c2] at hz
  have hv2 : (qfl ad h i)[k]? = some (q2 ad v) := by
    rw [qfl_at hi hk]
    unfold qfv
    rw [hi]
    simp only [hT, hv ad]
    rfl
  refine va_get (Ts := u_ws C T N) hx0 hb (fun w hw => qNw_use (c3 w hw).2 (hG.1 w (c3 w hw).1 (c3 w hw).2)) (fun _ h => h) hown hG.2.1 hRep.1.1 z hz c1 k hk (qNw_use rfl (hG.1 _ hw rfl)) (fun _ h => h) hv2 hd ?_
  exact (kk r h' hx).2 p l e R s m args below meth c H locs cells slots Q D aC A ad Kc Ks ls hE adE ⟨hii, hRm, hG, ⟨hl, hlk, List.forall_mem_cons.mpr ⟨hkv, hsk⟩⟩, hHk, hRep, hcs, hag⟩ hRc hRs hret
theorem S_getw {index : Nat} (hC : qCl 2 RX2 TX2 7 tyX2) (hw : Cond.fieldLink own index (TX2 4).1 (TX2 4).2.1 (TX2 4).2.2.1 ∈ lw_tbl) (hd : decode cc pc = .ok (.getfield index, 3)) (hp : pc + 3 = pc') (kt : h.2.1 = true → qS L xs cc own nL d rk pc' lv (qr 225 :: st) h x) (kf : ¬ h.2.1 = true → qS L xs cc own nL d rk pc' lv (qn :: st) h y) : qS L xs cc own nL d rk pc lv (qr 4 :: st) h (if h.2.1 = true then x else y) := by
  have hi : qK 4 = (2, 7) := by decide +kernel
  refine S_ite (fun hc => ?_) (fun hc => ?_)
  · refine S_getd (v := qr 225) 4 hC (by decide) (by decide) hi (fun ad => ?_) (Or.inr (Or.inr (Or.inl ⟨rfl, hc⟩))) hw hd hp (kt hc)
    unfold qF; rw [hi]; simp [hc]; rfl
  · refine S_getd (v := qn) 4 hC (by decide) (by decide) hi (fun ad => ?_) trivial hw hd hp (kf hc)
    unfold qF; rw [hi]; simp [hc]; rfl
theorem S_geto {index : Nat} (hC : qCl 2 RX2 TX2 7 tyX2) (hw : Cond.fieldLink own index (TX2 5).1 (TX2 5).2.1 (TX2 5).2.2.1 ∈ lw_tbl) (hd : decode cc pc = .ok (.getfield index, 3)) (hp : pc + 3 = pc') (kt : h.2.2.1 = true → qS L xs cc own nL d rk pc' lv (qr 226 :: st) h x) (kf : ¬ h.2.2.1 = true → qS L xs cc own nL d rk pc' lv (qn :: st) h y) : qS L xs cc own nL d rk pc lv (qr 4 :: st) h (if h.2.2.1 = true then x else y) := by
  have hi : qK 4 = (2, 7) := by decide +kernel
  refine S_ite (fun hc => ?_) (fun hc => ?_)
  · refine S_getd (v := qr 226) 5 hC (by decide) (by decide) hi (fun ad => ?_) (Or.inr (Or.inr (Or.inr ⟨rfl, hc⟩))) hw hd hp (kt hc)
    unfold qF; rw [hi]; simp [hc]; rfl
  · refine S_getd (v := qn) 5 hC (by decide) (by decide) hi (fun ad => ?_) trivial hw hd hp (kf hc)
    unfold qF; rw [hi]; simp [hc]; rfl
theorem S_gett {index : Nat} (hC : qCl 4 RX4 TX4 10 tyX4) (hw : Cond.fieldLink own index (TX4 3).1 (TX4 3).2.1 (TX4 3).2.2.1 ∈ lw_tbl) (hd : decode cc pc = .ok (.getfield index, 3)) (hp : pc + 3 = pc') (kt : h.2.2.2.1 = true → qS L xs cc own nL d rk pc' lv (qr 1 :: st) h x) : qS L xs cc own nL d rk pc lv (qr 2 :: st) h (if h.2.2.2.1 = true then x else none) := by
  have hi : qK 2 = (4, 10) := by decide +kernel
  refine S_ite (fun hc => ?_) (fun hc => S_none)
  refine S_getd (v := qr 1) 3 hC (by decide) (by decide) hi (fun ad => ?_) (Or.inl (by decide)) hw hd hp (kt hc)
  unfold qF; rw [hi]; simp [hc]; rfl
theorem S_getc {index : Nat} (hC : qCl 4 RX4 TX4 10 tyX4) (hw : Cond.fieldLink own index (TX4 0).1 (TX4 0).2.1 (TX4 0).2.2.1 ∈ lw_tbl) (hd : decode cc pc = .ok (.getfield index, 3)) (hp : pc + 3 = pc') (kt : h.2.2.2.2 = true → qS L xs cc own nL d rk pc' lv (qr 16 :: st) h x) : qS L xs cc own nL d rk pc lv (qr 2 :: st) h (if h.2.2.2.2 = true then x else none) := by
  have hi : qK 2 = (4, 10) := by decide +kernel
  refine S_ite (fun hc => ?_) (fun hc => S_none)
  exact S_getr (j := 16) (o := 14) 0 hC (by decide) (by decide) hi rfl rfl (by decide) hw hd hp (kt hc)
/-- a reference field that changes: written -/
theorem S_putd {ci N index i o : Nat} {h1 : qH} {C : String} {T : u_T} {ty : Nat → FieldType} (k : Nat) (hC : qCl ci C T N ty) (hk : k < N) (hT : qT ci k = 2) (hfin : (T k).2.2.2 = false) (hty : fits (ty k) (.ref 0) = true ∧ ∀ v : Nat, narrow (ty k) (.ref v) = .ref v ∧ fits (ty k) (.ref v) = true) (hi : qK i = (ci, N)) (hi1 : ∀ j, qK j = (ci, N) → j = i) (e1 : h1.1 = h.1) (e2 : h1.2.1 = h.2.1) (e3 : h1.2.2.1 = h.2.2.1) (hF : qF h1 i k = some o) (hF2 : ∀ n, ¬ n = k → qF h1 i n = qF h i n) (hF3 : ∀ j, ¬ j = i → ∀ n, qF h1 j n = qF h j n) (hw : Cond.fieldLink own index (T k).1 (T k).2.1 (T k).2.2.1 ∈ lw_tbl) (hd : decode cc pc = .ok (.putfield index, 3)) (hp : pc + 3 = pc') (kk : qS L xs cc own nL d rk pc' lv st h1 x) : qS L xs cc own nL d rk pc lv (qr o :: qr i :: st) h x := by
  have hM : qM h h1 := ⟨fun g => by rw [e2]; exact g, fun g => by rw [e3]; exact g⟩
  have hP : qp h1 = qp h := by unfold qp; rw [e2, e3]
  have hSs : qs h1 = qs h := by unfold qs; rw [e2, e3]
  intro r h' hx
  refine ⟨hM.tr (kk r h' hx).1, ?_⟩
  intro p l e R s m args below meth c H locs cells slots Q D aC A ad Kc Ks ls hE adE B hRc hRs hret
  obtain ⟨hii, hRm, hG, ⟨hl, hlk, hsk⟩, hHk, hRep, hcs, hag⟩ := B
  obtain ⟨hx0, hb, hml, hown⟩ := id hii
  subst hp
  obtain ⟨hk0, hsk⟩ := List.forall_mem_cons.mp hsk
  obtain ⟨-, hsk⟩ := List.forall_mem_cons.mp hsk
  obtain ⟨c1, c2, c3, c4, c5⟩ := hC
  have hlt : i < 225 := qK_lt (by rw [hi]; exact c2)
  obtain ⟨z, hz1, hz2⟩ := qWl_at (ad := ad) (f := qent aC ad h) (qids_nodup h) (qids_mem.mpr (Or.inl hlt))
  rw [qent_obj hi c2] at hz1
  refine va_put (Ts := u_ws C T N) (v := .ref (ad o)) hx0 hb (fun w hw => qNw_use (c3 w hw).2 (hG.1 w (c3 w hw).1 (c3 w hw).2)) (fun _ h => h) ty c5 c4 hown hG.2.1 hRep.1.1 hRep.1.2 hRep.2 z hz1 c1 k hk (qNw_use rfl (hG.1 _ hw rfl)) (fun _ h => h) hfin (c5 k hk) (hty.2 _).1 (hty.2 _).2 (by rw [qfl_len hi]; exact hk) hd (fun H1 locs1 hP1 hD1 hS1 => ?_)
  have hids : qids h1 = qids h := by unfold qids; rw [e2, e3]
  have he : ∀ j, (if j = i then (.inr (ci, (qfl ad h i).set k (.ref (ad o))) : va_E) else qent aC ad h j) = qent aC ad h1 j := by
    intro j
    by_cases hj : j = i
    · subst hj
      rw [if_pos rfl, qent_obj hi c2]
      congr 2
      apply List.ext_getElem?
      intro n
      by_cases hn : n < N
      · rw [qfl_at hi hn]
        by_cases hnk : k = n
        · subst hnk
          rw [List.getElem?_set_self (by rw [qfl_len hi]; exact hn)]
          unfold qfv
          rw [hi, hF]
          simp only [hT]
          rfl
        · rw [List.getElem?_set_ne hnk, qfl_at hi hn]
          unfold qfv
          rw [hF2 n (Ne.symm hnk), e1]
      · have l1 : ((qfl ad h j).set k (.ref (ad o)))[n]? = none := by
          rw [List.getElem?_eq_none_iff, List.length_set, qfl_len hi]; omega
        have l2 : (qfl ad h1 j)[n]? = none := by
          rw [List.getElem?_eq_none_iff, qfl_len hi]; omega
        rw [l1, l2]
    · rw [if_neg hj]
      have e4 : qfl ad h j = qfl ad h1 j := by
        unfold qfl
        refine List.map_congr_left (fun n _ => ?_)
        unfold qfv
        rw [hF3 j hj n, e1]
      unfold qent
      rw [e4, e1]
  have hRep1 : qRep D aC A ad h1 H1 := by
    rw [hz2, qWl_cg (fun j _ => he j), ← hids] at hP1 hD1
    exact ⟨hP1, hD1⟩
  have hHk1 : qHk h1 := by unfold qHk at hHk ⊢; rw [e1]; exact hHk
  exact (kk r h' hx).2 p l e R s m args below meth c H1 locs1 cells slots Q D aC A ad Kc Ks ls hE adE ⟨hii, hRm, hG, ⟨hl, fun q hq => hM.k (hlk q hq), fun v hv => hM.k (hsk v hv)⟩, hHk1, ⟨hRep1, hS1⟩, ⟨by rw [hP]; exact hcs.1, by rw [hSs]; exact hcs.2⟩, ⟨hag.1.tr hM, hag.2⟩⟩ hRc hRs hret
theorem S_putt {index : Nat} (hC : qCl 4 RX4 TX4 10 tyX4) (hw : Cond.fieldLink own index (TX4 3).1 (TX4 3).2.1 (TX4 3).2.2.1 ∈ lw_tbl) (hd : decode cc pc = .ok (.putfield index, 3)) (hp : pc + 3 = pc') (kk : qS L xs cc own nL d rk pc' lv st (qsetT h) x) : qS L xs cc own nL d rk pc lv (qr 1 :: qr 2 :: st) h x := by
  have hi : qK 2 = (4, 10) := by decide +kernel
  have hu : ∀ j, qK j = (4, 10) → j = 2 := fun j hj => (by decide +kernel : ∀ j, j < 225 → qK j = (4, 10) → j = 2) j (qK_lt (by rw [hj]; decide)) hj
  refine S_putd (h1 := qsetT h) 3 hC (by decide) (by decide) rfl ⟨rfl, fun v => ⟨rfl, rfl⟩⟩ hi hu rfl rfl rfl ?_ (fun n hn => ?_) (fun j hj n => ?_) hw hd hp kk
  · unfold qF qsetT; rw [hi]; simp
  · unfold qF qsetT; rw [hi]; simp [hn]
  · unfold qF qsetT
    simp only
    by_cases hc : (qK j).1 = 4 ∧ n = 3
    · exact absurd (hu j ((by decide +kernel : ∀ j, j < 225 → (qK j).1 = 4 → qK j = (4, 10)) j (qK_lt (by rw [hc.1]; decide)) hc.1)) hj
    · simp [hc]
/-- our own flag is set: no object tells of it -/
theorem S_ghc (kk : qS L xs cc own nL d rk pc lv st (qsetC h) x) : qS L xs cc own nL d rk pc lv st h x := by
  have hM : qM h (qsetC h) := ⟨id, id⟩
  have eF : ∀ i k, qF (qsetC h) i k = qF h i k := fun _ _ => rfl
  have eE : ∀ (aC : Nat → ClassId) (ad : Nat → Nat) (i : Nat), qent aC ad (qsetC h) i = qent aC ad h i := by
    intro aC ad i
    have e4 : qfl ad (qsetC h) i = qfl ad h i := by
      unfold qfl
      refine List.map_congr_left (fun n _ => ?_)
      unfold qfv
      rw [eF]
      rfl
    unfold qent
    rw [e4]
    rfl
  intro r h' hx
  refine ⟨hM.tr (kk r h' hx).1, ?_⟩
  intro p l e R s m args below meth c H locs cells slots Q D aC A ad Kc Ks ls hE adE B hRc hRs hret
  obtain ⟨hii, hRm, hG, ⟨hl, hlk, hsk⟩, hHk, hRep, hcs, hag⟩ := B
  have hids : qids (qsetC h) = qids h := rfl
  have hRep1 : qRep D aC A ad (qsetC h) H := by
    have e5 : qWl (qids (qsetC h)) ad (qent aC ad (qsetC h)) = qWl (qids h) ad (qent aC ad h) := by
      rw [hids]
      exact qWl_cg (fun j _ => eE aC ad j)
    unfold qRep
    rw [e5]
    exact hRep.1
  exact (kk r h' hx).2 p l e R s m args below meth c H locs cells slots Q D aC A ad Kc Ks ls hE adE ⟨hii, hRm, hG, ⟨hl, fun q hq => hM.k (hlk q hq), fun v hv => hM.k (hsk v hv)⟩, hHk, ⟨hRep1, hRep.2⟩, hcs, ⟨hag.1.tr hM, hag.2⟩⟩ hRc hRs hret
/-! null or not -/
theorem S_ifnull_r {a : Nat} {off : Int} (hd : decode cc pc = .ok (.ifnull off, 3)) (hp : pc + 3 = pc') (k : qS L xs cc own nL d rk pc' lv st h x) : qS L xs cc own nL d rk pc lv (qr a :: st) h x := by
  intro r h' hx
  refine ⟨(k r h' hx).1, ?_⟩
  intro p l e R s m args below meth c H locs cells slots Q D aC A ad Kc Ks ls hE adE B hRc hRs hret
  obtain ⟨hii, hRm, hG, ⟨hl, hlk, hsk⟩, hHk, hRep, hcs, hag⟩ := B
  subst hp
  obtain ⟨hk0, hsk⟩ := List.forall_mem_cons.mp hsk
  refine lv_ifnull hii.1 hii.2.1 hd ?_
  exact (k r h' hx).2 p l e R s m args below meth c H locs cells slots Q D aC A ad Kc Ks ls hE adE ⟨hii, hRm, hG, ⟨hl, hlk, hsk⟩, hHk, hRep, hcs, hag⟩ hRc hRs hret
theorem S_ifnull_n {off : Int} (hd : decode cc pc = .ok (.ifnull off, 3)) (ht : (pc : Int) + off = (pc' : Int)) (k : qS L xs cc own nL d rk pc' lv st h x) : qS L xs cc own nL d rk pc lv (qn :: st) h x := by
  intro r h' hx
  refine ⟨(k r h' hx).1, ?_⟩
  intro p l e R s m args below meth c H locs cells slots Q D aC A ad Kc Ks ls hE adE B hRc hRs hret
  obtain ⟨hii, hRm, hG, ⟨hl, hlk, hsk⟩, hHk, hRep, hcs, hag⟩ := B
  obtain ⟨hk0, hsk⟩ := List.forall_mem_cons.mp hsk
  refine lv_ifnullN hii.1 hii.2.1 hd ht ?_
  exact (k r h' hx).2 p l e R s m args below meth c H locs cells slots Q D aC A ad Kc Ks ls hE adE ⟨hii, hRm, hG, ⟨hl, hlk, hsk⟩, hHk, hRep, hcs, hag⟩ hRc hRs hret
theorem S_ifnonnull_r {a : Nat} {off : Int} (hd : decode cc pc = .ok (.ifnonnull off, 3)) (ht : (pc : Int) + off = (pc' : Int)) (k : qS L xs cc own nL d rk pc' lv st h x) : qS L xs cc own nL d rk pc lv (qr a :: st) h x := by
  intro r h' hx
  refine ⟨(k r h' hx).1, ?_⟩
  intro p l e R s m args below meth c H locs cells slots Q D aC A ad Kc Ks ls hE adE B hRc hRs hret
  obtain ⟨hii, hRm, hG, ⟨hl, hlk, hsk⟩, hHk, hRep, hcs, hag⟩ := B
  obtain ⟨hk0, hsk⟩ := List.forall_mem_cons.mp hsk
  refine lv_ifnonnull hii.1 hii.2.1 hd ht ?_
  exact (k r h' hx).2 p l e R s m args below meth c H locs cells slots Q D aC A ad Kc Ks ls hE adE ⟨hii, hRm, hG, ⟨hl, hlk, hsk⟩, hHk, hRep, hcs, hag⟩ hRc hRs hret
theorem S_ifnonnull_n {off : Int} (hd : decode cc pc = .ok (.ifnonnull off, 3)) (hp : pc + 3 = pc') (k : qS L xs cc own nL d rk pc' lv st h x) : qS L xs cc own nL d rk pc lv (qn :: st) h x := by
  intro r h' hx
  refine ⟨(k r h' hx).1, ?_⟩
  intro p l e R s m args below meth c H locs cells slots Q D aC A ad Kc Ks ls hE adE B hRc hRs hret
  obtain ⟨hii, hRm, hG, ⟨hl, hlk, hsk⟩, hHk, hRep, hcs, hag⟩ := B
  subst hp
  obtain ⟨hk0, hsk⟩ := List.forall_mem_cons.mp hsk
  refine lv_ifnonnullN hii.1 hii.2.1 hd ?_
  exact (k r h' hx).2 p l e R s m args below meth c H locs cells slots Q D aC A ad Kc Ks ls hE adE ⟨hii, hRm, hG, ⟨hl, hlk, hsk⟩, hHk, hRep, hcs, hag⟩ hRc hRs hret
/-! switches -/
theorem S_tabOut {a dflt lo hi : Int} {offs : Array Int} {len : Nat} (hd : decode cc pc = .ok (.tableswitch dflt lo hi offs, len)) (hq : a < lo ∨ hi < a) (ht : (pc : Int) + dflt = (pc' : Int)) (k : qS L xs cc own nL d rk pc' lv st h x) : qS L xs cc own nL d rk pc lv (qi a :: st) h x := by
  intro r h' hx
  refine ⟨(k r h' hx).1, ?_⟩
  intro p l e R s m args below meth c H locs cells slots Q D aC A ad Kc Ks ls hE adE B hRc hRs hret
  obtain ⟨hii, hRm, hG, ⟨hl, hlk, hsk⟩, hHk, hRep, hcs, hag⟩ := B
  obtain ⟨hk0, hsk⟩ := List.forall_mem_cons.mp hsk
  have hk0 : q32 a := hk0
  refine lv_tableOut hii.1 hii.2.1 hd (by rw [q32_i hk0]; exact hq) ht ?_
  exact (k r h' hx).2 p l e R s m args below meth c H locs cells slots Q D aC A ad Kc Ks ls hE adE ⟨hii, hRm, hG, ⟨hl, hlk, hsk⟩, hHk, hRep, hcs, hag⟩ hRc hRs hret
theorem S_tabIn {a a0 dflt lo hi off : Int} {offs : Array Int} {len : Nat} (hd : decode cc pc = .ok (.tableswitch dflt lo hi offs, len)) (ha : a = a0) (h1 : ¬ a0 < lo) (h2 : ¬ hi < a0) (ho : offs[(a0 - lo).toNat]? = some off) (ht : (pc : Int) + off = (pc' : Int)) (k : qS L xs cc own nL d rk pc' lv st h x) : qS L xs cc own nL d rk pc lv (qi a :: st) h x := by
  intro r h' hx
  refine ⟨(k r h' hx).1, ?_⟩
  intro p l e R s m args below meth c H locs cells slots Q D aC A ad Kc Ks ls hE adE B hRc hRs hret
  obtain ⟨hii, hRm, hG, ⟨hl, hlk, hsk⟩, hHk, hRep, hcs, hag⟩ := B
  obtain ⟨hk0, hsk⟩ := List.forall_mem_cons.mp hsk
  have hk0 : q32 a := hk0
  subst ha
  refine lv_tableIn hii.1 hii.2.1 hd (by rw [q32_i hk0]; exact h1) (by rw [q32_i hk0]; exact h2) (by rw [q32_i hk0]; exact ho) ht ?_
  exact (k r h' hx).2 p l e R s m args below meth c H locs cells slots Q D aC A ad Kc Ks ls hE adE ⟨hii, hRm, hG, ⟨hl, hlk, hsk⟩, hHk, hRep, hcs, hag⟩ hRc hRs hret
theorem S_look {a dflt off : Int} {ps : Array (Int × Int)} {len : Nat} (hd : decode cc pc = .ok (.lookupswitch dflt ps, len)) (hs : (ps.toList.zip (ps.toList.drop 1)).all (fun (a, next) => a.1 < next.1) = true) (ho : Op.lookupswitch.offset ps.toList dflt a = off) (ht : (pc : Int) + off = (pc' : Int)) (k : qS L xs cc own nL d rk pc' lv st h x) : qS L xs cc own nL d rk pc lv (qi a :: st) h x := by
  intro r h' hx
  refine ⟨(k r h' hx).1, ?_⟩
  intro p l e R s m args below meth c H locs cells slots Q D aC A ad Kc Ks ls hE adE B hRc hRs hret
  obtain ⟨hii, hRm, hG, ⟨hl, hlk, hsk⟩, hHk, hRep, hcs, hag⟩ := B
  obtain ⟨hk0, hsk⟩ := List.forall_mem_cons.mp hsk
  have hk0 : q32 a := hk0
  refine lv_lookup hii.1 hii.2.1 hd hs (by rw [q32_i hk0]; exact ho) ht ?_
  exact (k r h' hx).2 p l e R s m args below meth c H locs cells slots Q D aC A ad Kc Ks ls hE adE ⟨hii, hRm, hG, ⟨hl, hlk, hsk⟩, hHk, hRep, hcs, hag⟩ hRc hRs hret
/-! a copy of a row's first numbers -/
theorem S_acopy {i j n1 n2 n index : Nat} {N : Int} (hi : qK i = (20, n1)) (hj : qK j = (20, n2)) (hN : (n : Int) = N) (hb1 : n ≤ n1) (hb2 : n ≤ n2) (hq : q32 N) (hd0 : 2 ≤ d) (hcat : (st.map qcat).sum ≤ 8) (hw1 : Cond.methodLink own index arraycopyName ∈ lw_tbl) (hw2 : Cond.native arraycopyName ∈ lw_tbl) (hw3 : Cond.static arraycopyName ∈ lw_tbl) (hw4 : Cond.initialized "java/lang/System" ∈ lw_tbl) (hd : decode cc pc = .ok (.invokestatic index, 3)) (hp : pc + 3 = pc') (k : qS L xs cc own nL d rk pc' lv st (qcp h i j n) x) : qS L xs cc own nL d rk pc lv (qi N :: qi 0 :: qr j :: qi 0 :: qr i :: st) h x := by
  intro r h' hx
  refine ⟨(k r h' hx).1, ?_⟩
  intro p l e R s m args below meth c H locs cells slots Q D aC A ad Kc Ks ls hE adE B hRc hRs hret
  obtain ⟨hii, hRm, hG, ⟨hl, hlk, hsk⟩, hHk, hRep, hcs, hag⟩ := B
  obtain ⟨hx0, hb, hml, hown⟩ := id hii
  subst hp
  subst hN
  obtain ⟨-, hsk⟩ := List.forall_mem_cons.mp hsk
  obtain ⟨-, hsk⟩ := List.forall_mem_cons.mp hsk
  obtain ⟨hkj, hsk⟩ := List.forall_mem_cons.mp hsk
  obtain ⟨-, hsk⟩ := List.forall_mem_cons.mp hsk
  obtain ⟨hki, hsk⟩ := List.forall_mem_cons.mp hsk
  have hkj : qlv h j := hkj
  have hki : qlv h i := hki
  obtain ⟨z, hz1, hz2⟩ := qWl_at (ad := ad) (f := qent aC ad h) (qids_nodup h) (qids_of (qK_lt2 (by rw [hi]; simp)) hki)
  obtain ⟨z', hz1', hz2'⟩ := qWl_at (ad := ad) (f := qent aC ad h) (qids_nodup h) (qids_of (qK_lt2 (by rw [hj]; simp)) hkj)
  rw [qent_int hi (by decide) (by decide)] at hz1
  rw [qent_int hj (by decide) (by decide)] at hz1'
  have n0 : ¬ (Int32.ofInt 0) < 0 := by decide
  have nN : ¬ (Int32.ofInt (n : Int)) < 0 := by
    rw [Int32.lt_iff_toInt_lt, q32_i hq]
    show ¬ (n : Int) < 0
    omega
  have cN : (Int32.ofInt (n : Int)).toNatClampNeg = n := by rw [qcl hq]; omega
  have c0 : (Int32.ofInt 0).toNatClampNeg = 0 := by decide
  have hsum : ((st.map (q2 ad)).map fun v => v.category).sum = (st.map qcat).sum := by
    rw [List.map_map]
    congr 1
    exact List.map_congr_left (fun v _ => qcat_ok ad v)
  have hnw : nativeFrameWords "java/lang/System" "arraycopy" 5 + 11 ≤ 60 := by decide +kernel
  refine va_copyi (rest := st.map (q2 ad)) hx0 hb (by rw [hml]; exact hl.1.symm) hown (qNw_use rfl (hG.1 _ hw1 rfl)) (qNw_use rfl (hG.1 _ hw2 rfl)) (qNw_use rfl (hG.1 _ hw3 rfl)) (qNw_use rfl (hG.1 _ hw4 rfl)) hG.2.1 hRep.1.1 hRep.1.2 hRep.2 z z' 0 0 hz1 hz1' rfl rfl rfl n0 n0 nN (by rw [c0, cN]; omega) (by rw [c0, cN]; omega) (fun _ _ => rfl) (by omega) (by rw [hsum]; omega) hd (fun H1 locs1 hP1 hD1 hS1 => ?_)
  rw [c0, cN] at hP1 hD1
  have he : ∀ b, (if b = j then (.inl (aC 0, n2, .inl (va_cpy (fun q => Int32.ofInt (h.1 i q)) (fun q => Int32.ofInt (h.1 j q)) 0 0 n)) : va_E) else qent aC ad h b) = qent aC ad (qcp h i j n) b := by
    intro b
    by_cases hbj : b = j
    · subst hbj
      rw [if_pos rfl, qent_int hj (by decide) (by decide)]
      congr 4
      funext q
      show (if 0 ≤ q ∧ q < 0 + n then Int32.ofInt (h.1 i (0 + (q - 0))) else Int32.ofInt (h.1 b q)) = Int32.ofInt (if b = b ∧ q < n then h.1 i q else h.1 b q)
      by_cases hqn : q < n <;> simp [hqn]
    · rw [if_neg hbj]
      refine qent_cg ?_ rfl
      funext q
      simp [qcp, hbj]
  have hHk1 : qHk (qcp h i j n) := by
    obtain ⟨g1, g2, g3⟩ := hHk
    refine ⟨fun a b => ?_, fun a b hk => ?_, fun a ha => ?_⟩
    · show q64 (if a = j ∧ b < n then h.1 i b else h.1 a b)
      split
      · exact g1 i b
      · exact g1 a b
    · show q32 (if a = j ∧ b < n then h.1 i b else h.1 a b)
      split
      · exact g2 i b (by rw [hi]; simp)
      · exact g2 a b hk
    · show (if a = j ∧ 4 < n then h.1 i 4 else h.1 a 4) = 0 ∨ (if a = j ∧ 4 < n then h.1 i 4 else h.1 a 4) = 1
      rw [if_neg (fun e => by rw [e.1, hj] at ha; simp at ha)]
      exact g3 a ha
  exact (k r h' hx).2 p l e R s m args below meth c H1 locs1 cells slots Q D aC A ad Kc Ks ls hE adE ⟨hii, hRm, hG, ⟨hl, hlk, hsk⟩, hHk1, ⟨qRep_put (hz2' _) rfl he hP1 hD1, hS1⟩, hcs, hag⟩ hRc hRs hret
/-! the texts -/
theorem S_ldcs {t index : Nat} (ht : t < 31) (ho : (qsO t).1 = own ∧ (qsO t).2.1 = index) (hd : decode cc pc = .ok (.ldc index, 2)) (hp : pc + 2 = pc') (k : qS L xs cc own nL d rk pc' lv (qr (300 + 2 * t) :: st) h x) : qS L xs cc own nL d rk pc lv st h x := by
  intro r h' hx
  refine ⟨(k r h' hx).1, ?_⟩
  intro p l e R s m args below meth c H locs cells slots Q D aC A ad Kc Ks ls hE adE B hRc hRs hret
  obtain ⟨hii, hRm, hG, ⟨hl, hlk, hsk⟩, hHk, hRep, hcs, hag⟩ := B
  subst hp
  have hR := (hG.2.2.2.2.1 t ht).1
  rw [ho.1, ho.2] at hR
  refine va_ldcS hii.1 hii.2.1 hii.2.2.2 hR hd ?_
  exact (k r h' hx).2 p l e R s m args below meth c H locs cells slots Q D aC A ad Kc Ks ls hE adE ⟨hii, hRm, hG, ⟨hl, hlk, List.forall_mem_cons.mpr ⟨Or.inr (Or.inl (by omega)), hsk⟩⟩, hHk, hRep, hcs, hag⟩ hRc hRs hret
end qmore
section qldcw
variable {p : Program} {l : Launch} {e : Env} {R : Room} {s : State} {m : MethodId} {args : Array Value} {below : List Frame} {meth : Method} {c : Code} {H : Heap} {locs : List Loc} {cells slots : Nat} {Q : State → Prop} {cc : ByteArray} {pc : Nat} {ls : Array Slot} {rest : List Value}
theorem q_ldcwS {T : State} (X : Stand p l e R s m args below meth c T locs cells slots) (hexec : p.tables.exec = Jvm.exec) {own text : String} {index : Nat} {a : Addr} (hown : s.vm.findClass own = some m.cls)
    (hconst : (Cond.stringRef own index text).before #[] s = true) (hev : (Term.string own index).eval #[] s none [] s = some (.ref a)) {g : JFrame} (hg : g.method = m) (hdg : decode c.code g.pc = .ok (.ldc_w index, 3)) :
    ∀ target, Steps p.tables e below (T.setTop { g with pc := g.pc + 3, stack := .ref a :: g.stack }) target → Steps p.tables e below (T.setTop g) target := by
  obtain ⟨k, cf, i, a', hk, hcf, hcp, -, hr, hev'⟩ := Cond.stringRef_spec hown hconst
  cases hev.symm.trans hev'
  obtain ⟨k', hk', he⟩ := X.warmed.alike.2.2 _ _ hk
  have hr' : k'.resolved[index]? = some (some (.string a)) := by
    rcases X.warmed.entry hk hk' index with h | ⟨h, -⟩
    · rw [h]; exact hr
    · rw [hr] at h; cases h
  intro target hrest
  subst hg
  jvm_step X.here [hexec, hdg, ldc_w.wp_string (e := e) (s := T) (f := g) X.here.top hk' (by rw [he]; exact hcf) hcp hr']
  exact hrest
end qldcw
section qmore2
variable {L : Nat} {xs : Nat → Int32} {cc : ByteArray} {own : String} {nL d rk pc pc' : Nat} {lv lv' : List (Nat × qV)} {st : List qV} {h : qH} {x y : Option (Int × qH)}
theorem S_ldcsw {t index : Nat} (ht : t < 31) (ho : (qsO t).1 = own ∧ (qsO t).2.1 = index) (hd : decode cc pc = .ok (.ldc_w index, 3)) (hp : pc + 3 = pc') (k : qS L xs cc own nL d rk pc' lv (qr (300 + 2 * t) :: st) h x) : qS L xs cc own nL d rk pc lv st h x := by
  intro r h' hx
  refine ⟨(k r h' hx).1, ?_⟩
  intro p l e R s m args below meth c H locs cells slots Q D aC A ad Kc Ks ls hE adE B hRc hRs hret
  obtain ⟨hii, hRm, hG, ⟨hl, hlk, hsk⟩, hHk, hRep, hcs, hag⟩ := B
  subst hp
  have hR := (hG.2.2.2.2.1 t ht).1
  rw [ho.1, ho.2] at hR
  intro T hT X
  obtain ⟨t2, a1, b1⟩ := (k r h' hx).2 p l e R s m args below meth c H locs cells slots Q D aC A ad Kc Ks ls hE adE ⟨hii, hRm, hG, ⟨hl, hlk, List.forall_mem_cons.mpr ⟨Or.inr (Or.inl (by omega)), hsk⟩⟩, hHk, hRep, hcs, hag⟩ hRc hRs hret T hT X
  exact ⟨t2, q_ldcwS X hii.1 hii.2.2.2 hR.1 hR.2 (g := F0 m pc ls (st.map (q2 ad))) rfl (by rw [hii.2.1]; exact hd) t2 a1, b1⟩
theorem S_ldcw {a : Int} {index : Nat} (hd : decode cc pc = .ok (.ldc_w index, 3)) (hp : pc + 3 = pc') (hw : Cond.constant own index (Int32.ofInt a) ∈ lw_tbl) (hq : q32 a) (k : qS L xs cc own nL d rk pc' lv (qi a :: st) h x) : qS L xs cc own nL d rk pc lv st h x := by
  intro r h' hx
  refine ⟨(k r h' hx).1, ?_⟩
  intro p l e R s m args below meth c H locs cells slots Q D aC A ad Kc Ks ls hE adE B hRc hRs hret
  obtain ⟨hii, hRm, hG, ⟨hl, hlk, hsk⟩, hHk, hRep, hcs, hag⟩ := B
  subst hp
  refine lv_ldcw hii.1 hii.2.1 hii.2.2.2 (va_Nw.use rfl (hG.1 _ hw rfl)) hd ?_
  exact (k r h' hx).2 p l e R s m args below meth c H locs cells slots Q D aC A ad Kc Ks ls hE adE ⟨hii, hRm, hG, ⟨hl, hlk, List.forall_mem_cons.mpr ⟨hq, hsk⟩⟩, hHk, hRep, hcs, hag⟩ hRc hRs hret
/-! the script -/
theorem S_sld {a : Int} (hd : decode cc pc = .ok (.iaload, 1)) (hp : pc + 1 = pc') (h1 : 0 ≤ a) (h2 : a < L) (k : qS L xs cc own nL d rk pc' lv (qi (xs a.toNat).toInt :: st) h x) : qS L xs cc own nL d rk pc lv (qi a :: qr 227 :: st) h x := by
  intro r h' hx
  refine ⟨(k r h' hx).1, ?_⟩
  intro p l e R s m args below meth c H locs cells slots Q D aC A ad Kc Ks ls hE adE B hRc hRs hret
  obtain ⟨hii, hRm, hG, ⟨hl, hlk, hsk⟩, hHk, hRep, hcs, hag⟩ := B
  subst hp
  obtain ⟨hk0, hsk⟩ := List.forall_mem_cons.mp hsk
  obtain ⟨-, hsk⟩ := List.forall_mem_cons.mp hsk
  have hk0 : q32 a := hk0
  obtain ⟨g1, g2, g3⟩ := hG.2.2.2.1
  refine va_sld hii.1 hii.2.1 g1 g2 g3 hRep.2 (qin h1 h2 hk0) hd ?_
  rw [qcl hk0]
  have e0 : Value.int (xs a.toNat) = Value.int (Int32.ofInt (xs a.toNat).toInt) := by rw [Int32.ofInt_toInt]
  rw [e0]
  exact (k r h' hx).2 p l e R s m args below meth c H locs cells slots Q D aC A ad Kc Ks ls hE adE ⟨hii, hRm, hG, ⟨hl, hlk, List.forall_mem_cons.mpr ⟨q32_of _, hsk⟩⟩, hHk, hRep, hcs, hag⟩ hRc hRs hret
theorem S_slen (hL : L < 2 ^ 31) (hd : decode cc pc = .ok (.arraylength, 1)) (hp : pc + 1 = pc') (k : qS L xs cc own nL d rk pc' lv (qi (L : Int) :: st) h x) : qS L xs cc own nL d rk pc lv (qr 227 :: st) h x := by
  intro r h' hx
  refine ⟨(k r h' hx).1, ?_⟩
  intro p l e R s m args below meth c H locs cells slots Q D aC A ad Kc Ks ls hE adE B hRc hRs hret
  obtain ⟨hii, hRm, hG, ⟨hl, hlk, hsk⟩, hHk, hRep, hcs, hag⟩ := B
  subst hp
  obtain ⟨-, hsk⟩ := List.forall_mem_cons.mp hsk
  obtain ⟨g1, g2, g3⟩ := hG.2.2.2.1
  have hq : q32 (L : Int) := ⟨by omega, by omega⟩
  refine va_slen hii.1 hii.2.1 g1 g2 g3 hRep.2 hd ?_
  have e0 : Value.int (Int32.ofNat L) = Value.int (Int32.ofInt (L : Int)) := by
    congr 1
  rw [e0]
  exact (k r h' hx).2 p l e R s m args below meth c H locs cells slots Q D aC A ad Kc Ks ls hE adE ⟨hii, hRm, hG, ⟨hl, hlk, List.forall_mem_cons.mpr ⟨hq, hsk⟩⟩, hHk, hRep, hcs, hag⟩ hRc hRs hret
/-! ends -/
theorem S_end {vs : List qV} {r0 : Int} (hd : decode cc pc = .ok (qri rk, 1)) (hv : ∀ ad : Nat → Nat, vs.map (q2 ad) = qrs rk ad r0) (hk : (∀ v ∈ vs, qk h v) → qrk rk h r0) : qS L xs cc own nL d rk pc lv vs h (some (r0, h)) := by
  intro r h' hx
  have e1 : r0 = r := congrArg Prod.fst (Option.some.inj hx)
  have e2 : h = h' := congrArg Prod.snd (Option.some.inj hx)
  subst e1
  subst e2
  refine ⟨qM.rf, ?_⟩
  intro p l e R s m args below meth c H locs cells slots Q D aC A ad Kc Ks ls hE adE B hRc hRs hret
  obtain ⟨hii, hRm, hG, ⟨hl, hlk, hsk⟩, hHk, hRep, hcs, hag⟩ := B
  rw [hv ad]
  exact hret ad H locs cells slots pc ls hag hHk (hk hsk) hRep.1 hRep.2 hcs.1 hcs.2 hd
theorem S_vret (hd : decode cc pc = .ok (.return_, 1)) : qS L xs cc own nL d 0 pc lv [] h (some (0, h)) := S_end hd (fun _ => rfl) (fun _ => trivial)
theorem S_iret {a : Int} (hd : decode cc pc = .ok (.ireturn, 1)) : qS L xs cc own nL d 1 pc lv [qi a] h (some (a, h)) := S_end hd (fun _ => rfl) (fun g => g _ List.mem_cons_self)
theorem S_lret {a : Int} (hd : decode cc pc = .ok (.lreturn, 1)) : qS L xs cc own nL d 2 pc lv [ql a] h (some (a, h)) := S_end hd (fun _ => rfl) (fun g => g _ List.mem_cons_self)
theorem S_aret {a : Nat} (hd : decode cc pc = .ok (.areturn, 1)) : qS L xs cc own nL d 3 pc lv [qr a] h (some ((a : Int), h)) := S_end hd (fun _ => rfl) (fun g => by have := g _ List.mem_cons_self; exact this)
theorem S_zret {a : Int} (hd : decode cc pc = .ok (.ireturn, 1)) : qS L xs cc own nL d 4 pc lv [qi a] h (if a = 0 ∨ a = 1 then some (a, h) else none) := S_ite (fun hc => S_end hd (fun _ => rfl) (fun _ => hc)) (fun _ => S_none)
theorem S_cret {a : Int} (hd : decode cc pc = .ok (.ireturn, 1)) : qS L xs cc own nL d 5 pc lv [qi a] h (if 0 ≤ a ∧ a < 65536 then some (a, h) else none) := S_ite (fun hc => S_end hd (fun _ => rfl) (fun _ => hc)) (fun _ => S_none)
theorem S_bret {a : Int} (hd : decode cc pc = .ok (.ireturn, 1)) : qS L xs cc own nL d 6 pc lv [qi a] h (if -128 ≤ a ∧ a < 128 then some (a, h) else none) := S_ite (fun hc => S_end hd (fun _ => rfl) (fun _ => hc)) (fun _ => S_none)
end qmore2
