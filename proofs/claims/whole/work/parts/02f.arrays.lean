/-! ===== rows of arrays ===== -/
theorem qent_int {aC : Nat → ClassId} {ad : Nat → Nat} {h : qH} {i ka n : Nat} (hi : qK i = (ka, n)) (h1 : 20 ≤ ka) (h2 : ka < 24) : qent aC ad h i = .inl (aC (ka - 20), n, .inl (fun j => Int32.ofInt (h.1 i j))) := by
  unfold qent
  rw [hi]
  simp only
  rw [if_neg (by omega), if_neg (by omega), if_pos h2]
theorem qent_long {aC : Nat → ClassId} {ad : Nat → Nat} {h : qH} {i n : Nat} (hi : qK i = (24, n)) : qent aC ad h i = .inl (aC 4, n, .inr (.inl (fun j => Int64.ofInt (h.1 i j)))) := by
  unfold qent
  rw [hi]
  rfl
theorem qent_ref {aC : Nat → ClassId} {ad : Nat → Nat} {h : qH} {i ka n : Nat} (hi : qK i = (ka, n)) (h1 : 24 < ka) : qent aC ad h i = .inl (aC (ka - 20), n, .inr (.inr (.inr (.inr (fun j => if j < n then some (ad (qEl i j)) else none))))) := by
  unfold qent
  rw [hi]
  simp only
  rw [if_neg (by omega), if_neg (by omega), if_neg (by omega)]
theorem qent_iput {aC : Nat → ClassId} {ad : Nat → Nat} {h : qH} {i ka n k : Nat} {v : Int} (hi : qK i = (ka, n)) (h1 : 20 ≤ ka) (h2 : ka < 24) (j : Nat) : (if j = i then (.inl (aC (ka - 20), n, .inl (upd (fun j => Int32.ofInt (h.1 i j)) k (Int32.ofInt v))) : va_E) else qent aC ad h j) = qent aC ad (qu h i k v) j := by
  by_cases hj : j = i
  · subst hj
    rw [if_pos rfl, qent_int hi h1 h2]
    congr 4
    funext b
    show (if b = k then Int32.ofInt v else Int32.ofInt (h.1 j b)) = Int32.ofInt (if j = j ∧ b = k then v else h.1 j b)
    by_cases hb : b = k <;> simp [hb]
  · rw [if_neg hj]
    exact qent_cg (qu_ne hj).symm rfl
theorem qent_lput {aC : Nat → ClassId} {ad : Nat → Nat} {h : qH} {i n k : Nat} {v : Int} (hi : qK i = (24, n)) (j : Nat) : (if j = i then (.inl (aC 4, n, .inr (.inl (vp_updL (fun j => Int64.ofInt (h.1 i j)) k (Int64.ofInt v)))) : va_E) else qent aC ad h j) = qent aC ad (qu h i k v) j := by
  by_cases hj : j = i
  · subst hj
    rw [if_pos rfl, qent_long hi]
    congr 5
    funext b
    show (if b = k then Int64.ofInt v else Int64.ofInt (h.1 j b)) = Int64.ofInt (if j = j ∧ b = k then v else h.1 j b)
    by_cases hb : b = k <;> simp [hb]
  · rw [if_neg hj]
    exact qent_cg (qu_ne hj).symm rfl
theorem qin {a : Int} {n : Nat} (h1 : 0 ≤ a) (h2 : a < n) (h3 : q32 a) : vp_in (Int32.ofInt a) n := vp_in_iff.mpr (by rw [q32_i h3]; exact ⟨h1, h2⟩)
theorem qcl {a : Int} (h3 : q32 a) : (Int32.ofInt a).toNatClampNeg = a.toNat := by
  show (Int32.ofInt a).toInt.toNat = a.toNat
  rw [q32_i h3]
theorem qHk_lput {h : qH} {i k n : Nat} {v : Int} (g : qHk h) (hi : qK i = (24, n)) (hv : q64 v) : qHk (qu h i k v) := by
  obtain ⟨g1, g2, g3⟩ := g
  refine ⟨fun a b => ?_, fun a b hk => ?_, fun a ha => ?_⟩
  · show q64 (if a = i ∧ b = k then v else h.1 a b)
    split
    · exact hv
    · exact g1 a b
  · show q32 (if a = i ∧ b = k then v else h.1 a b)
    rw [if_neg (fun e => hk (by rw [e.1, hi]))]
    exact g2 a b hk
  · show (if a = i ∧ 4 = k then v else h.1 a 4) = 0 ∨ (if a = i ∧ 4 = k then v else h.1 a 4) = 1
    rw [if_neg (fun e => by rw [e.1, hi] at ha; simp at ha)]
    exact g3 a ha
section qarr
variable {L : Nat} {xs : Nat → Int32} {cc : ByteArray} {own : String} {nL d rk pc pc' : Nat} {lv lv' : List (Nat × qV)} {st : List qV} {h : qH} {x y : Option (Int × qH)}
theorem S_iald {i n : Nat} {a N : Int} (hi : qK i = (20, n)) (hN : (n : Int) = N) (hd : decode cc pc = .ok (.iaload, 1)) (hp : pc + 1 = pc') (kk : 0 ≤ a → a < N → qS L xs cc own nL d rk pc' lv (qi (h.1 i a.toNat) :: st) h x) : qS L xs cc own nL d rk pc lv (qi a :: qr i :: st) h (if 0 ≤ a ∧ a < N then x else none) := by
  intro r h' hx
  by_cases hin : 0 ≤ a ∧ a < N
  · rw [if_pos hin] at hx
    refine ⟨(kk hin.1 hin.2 r h' hx).1, ?_⟩
    intro p l e R s m args below meth c H locs cells slots Q D aC A ad Kc Ks ls hE adE B hRc hRs hret
    obtain ⟨hii, hRm, hG, ⟨hl, hlk, hsk⟩, hHk, hRep, hcs, hag⟩ := B
    obtain ⟨hx0, hb, hml, hown⟩ := id hii
    subst hp
    subst hN
    obtain ⟨hk0, hsk⟩ := List.forall_mem_cons.mp hsk
    have hk0 : q32 a := hk0
    obtain ⟨hk1, hsk⟩ := List.forall_mem_cons.mp hsk
    have hk1 : qlv h i := hk1
    obtain ⟨z, hz1, hz2⟩ := qWl_at (ad := ad) (f := qent aC ad h) (qids_nodup h) (qids_of (qK_lt2 (by rw [hi]; simp)) hk1)
    rw [qent_int hi (by decide) (by decide)] at hz1
    refine va_iald hx0 hb hG.2.1 hRep.1.1 z 0 hz1 rfl (qin hin.1 hin.2 hk0) hd ?_
    rw [qcl hk0]
    exact (kk hin.1 hin.2 r h' hx).2 p l e R s m args below meth c H locs cells slots Q D aC A ad Kc Ks ls hE adE  ⟨hii, hRm, hG, ⟨hl, hlk, List.forall_mem_cons.mpr ⟨hHk.2.1 i _ (by rw [hi]; simp), hsk⟩⟩, hHk, hRep, hcs, hag⟩ hRc hRs hret
  · rw [if_neg hin] at hx
    cases hx
theorem S_bald {i n : Nat} {a N : Int} (hi : qK i = (21, n)) (hN : (n : Int) = N) (hd : decode cc pc = .ok (.baload, 1)) (hp : pc + 1 = pc') (kk : 0 ≤ a → a < N → qS L xs cc own nL d rk pc' lv (qi (h.1 i a.toNat) :: st) h x) : qS L xs cc own nL d rk pc lv (qi a :: qr i :: st) h (if 0 ≤ a ∧ a < N then x else none) := by
  intro r h' hx
  by_cases hin : 0 ≤ a ∧ a < N
  · rw [if_pos hin] at hx
    refine ⟨(kk hin.1 hin.2 r h' hx).1, ?_⟩
    intro p l e R s m args below meth c H locs cells slots Q D aC A ad Kc Ks ls hE adE B hRc hRs hret
    obtain ⟨hii, hRm, hG, ⟨hl, hlk, hsk⟩, hHk, hRep, hcs, hag⟩ := B
    obtain ⟨hx0, hb, hml, hown⟩ := id hii
    subst hp
    subst hN
    obtain ⟨hk0, hsk⟩ := List.forall_mem_cons.mp hsk
    have hk0 : q32 a := hk0
    obtain ⟨hk1, hsk⟩ := List.forall_mem_cons.mp hsk
    have hk1 : qlv h i := hk1
    obtain ⟨z, hz1, hz2⟩ := qWl_at (ad := ad) (f := qent aC ad h) (qids_nodup h) (qids_of (qK_lt2 (by rw [hi]; simp)) hk1)
    rw [qent_int hi (by decide) (by decide)] at hz1
    refine va_bald hx0 hb hG.2.1 hRep.1.1 z 1 hz1 rfl (qin hin.1 hin.2 hk0) hd ?_
    rw [qcl hk0]
    exact (kk hin.1 hin.2 r h' hx).2 p l e R s m args below meth c H locs cells slots Q D aC A ad Kc Ks ls hE adE  ⟨hii, hRm, hG, ⟨hl, hlk, List.forall_mem_cons.mpr ⟨hHk.2.1 i _ (by rw [hi]; simp), hsk⟩⟩, hHk, hRep, hcs, hag⟩ hRc hRs hret
  · rw [if_neg hin] at hx
    cases hx
theorem S_sald {i n : Nat} {a N : Int} (hi : qK i = (22, n)) (hN : (n : Int) = N) (hd : decode cc pc = .ok (.saload, 1)) (hp : pc + 1 = pc') (kk : 0 ≤ a → a < N → qS L xs cc own nL d rk pc' lv (qi (h.1 i a.toNat) :: st) h x) : qS L xs cc own nL d rk pc lv (qi a :: qr i :: st) h (if 0 ≤ a ∧ a < N then x else none) := by
  intro r h' hx
  by_cases hin : 0 ≤ a ∧ a < N
  · rw [if_pos hin] at hx
    refine ⟨(kk hin.1 hin.2 r h' hx).1, ?_⟩
    intro p l e R s m args below meth c H locs cells slots Q D aC A ad Kc Ks ls hE adE B hRc hRs hret
    obtain ⟨hii, hRm, hG, ⟨hl, hlk, hsk⟩, hHk, hRep, hcs, hag⟩ := B
    obtain ⟨hx0, hb, hml, hown⟩ := id hii
    subst hp
    subst hN
    obtain ⟨hk0, hsk⟩ := List.forall_mem_cons.mp hsk
    have hk0 : q32 a := hk0
    obtain ⟨hk1, hsk⟩ := List.forall_mem_cons.mp hsk
    have hk1 : qlv h i := hk1
    obtain ⟨z, hz1, hz2⟩ := qWl_at (ad := ad) (f := qent aC ad h) (qids_nodup h) (qids_of (qK_lt2 (by rw [hi]; simp)) hk1)
    rw [qent_int hi (by decide) (by decide)] at hz1
    refine va_sald hx0 hb hG.2.1 hRep.1.1 z 2 hz1 rfl (qin hin.1 hin.2 hk0) hd ?_
    rw [qcl hk0]
    exact (kk hin.1 hin.2 r h' hx).2 p l e R s m args below meth c H locs cells slots Q D aC A ad Kc Ks ls hE adE  ⟨hii, hRm, hG, ⟨hl, hlk, List.forall_mem_cons.mpr ⟨hHk.2.1 i _ (by rw [hi]; simp), hsk⟩⟩, hHk, hRep, hcs, hag⟩ hRc hRs hret
  · rw [if_neg hin] at hx
    cases hx
theorem S_zald {i n : Nat} {a N : Int} (hi : qK i = (23, n)) (hN : (n : Int) = N) (hd : decode cc pc = .ok (.baload, 1)) (hp : pc + 1 = pc') (kk : 0 ≤ a → a < N → qS L xs cc own nL d rk pc' lv (qi (h.1 i a.toNat) :: st) h x) : qS L xs cc own nL d rk pc lv (qi a :: qr i :: st) h (if 0 ≤ a ∧ a < N then x else none) := by
  intro r h' hx
  by_cases hin : 0 ≤ a ∧ a < N
  · rw [if_pos hin] at hx
    refine ⟨(kk hin.1 hin.2 r h' hx).1, ?_⟩
    intro p l e R s m args below meth c H locs cells slots Q D aC A ad Kc Ks ls hE adE B hRc hRs hret
    obtain ⟨hii, hRm, hG, ⟨hl, hlk, hsk⟩, hHk, hRep, hcs, hag⟩ := B
    obtain ⟨hx0, hb, hml, hown⟩ := id hii
    subst hp
    subst hN
    obtain ⟨hk0, hsk⟩ := List.forall_mem_cons.mp hsk
    have hk0 : q32 a := hk0
    obtain ⟨hk1, hsk⟩ := List.forall_mem_cons.mp hsk
    have hk1 : qlv h i := hk1
    obtain ⟨z, hz1, hz2⟩ := qWl_at (ad := ad) (f := qent aC ad h) (qids_nodup h) (qids_of (qK_lt2 (by rw [hi]; simp)) hk1)
    rw [qent_int hi (by decide) (by decide)] at hz1
    refine va_zald hx0 hb hG.2.1 hRep.1.1 z 3 hz1 rfl (qin hin.1 hin.2 hk0) hd ?_
    rw [qcl hk0]
    exact (kk hin.1 hin.2 r h' hx).2 p l e R s m args below meth c H locs cells slots Q D aC A ad Kc Ks ls hE adE  ⟨hii, hRm, hG, ⟨hl, hlk, List.forall_mem_cons.mpr ⟨hHk.2.1 i _ (by rw [hi]; simp), hsk⟩⟩, hHk, hRep, hcs, hag⟩ hRc hRs hret
  · rw [if_neg hin] at hx
    cases hx
theorem S_lald {i n : Nat} {a N : Int} (hi : qK i = (24, n)) (hN : (n : Int) = N) (hd : decode cc pc = .ok (.laload, 1)) (hp : pc + 1 = pc') (kk : 0 ≤ a → a < N → qS L xs cc own nL d rk pc' lv (ql (h.1 i a.toNat) :: st) h x) : qS L xs cc own nL d rk pc lv (qi a :: qr i :: st) h (if 0 ≤ a ∧ a < N then x else none) := by
  intro r h' hx
  by_cases hin : 0 ≤ a ∧ a < N
  · rw [if_pos hin] at hx
    refine ⟨(kk hin.1 hin.2 r h' hx).1, ?_⟩
    intro p l e R s m args below meth c H locs cells slots Q D aC A ad Kc Ks ls hE adE B hRc hRs hret
    obtain ⟨hii, hRm, hG, ⟨hl, hlk, hsk⟩, hHk, hRep, hcs, hag⟩ := B
    obtain ⟨hx0, hb, hml, hown⟩ := id hii
    subst hp
    subst hN
    obtain ⟨hk0, hsk⟩ := List.forall_mem_cons.mp hsk
    have hk0 : q32 a := hk0
    obtain ⟨hk1, hsk⟩ := List.forall_mem_cons.mp hsk
    have hk1 : qlv h i := hk1
    obtain ⟨z, hz1, hz2⟩ := qWl_at (ad := ad) (f := qent aC ad h) (qids_nodup h) (qids_of (qK_lt2 (by rw [hi]; simp)) hk1)
    rw [qent_long hi] at hz1
    refine va_lald hx0 hb hG.2.1 hRep.1.1 z 4 hz1 rfl (qin hin.1 hin.2 hk0) hd ?_
    rw [qcl hk0]
    exact (kk hin.1 hin.2 r h' hx).2 p l e R s m args below meth c H locs cells slots Q D aC A ad Kc Ks ls hE adE  ⟨hii, hRm, hG, ⟨hl, hlk, List.forall_mem_cons.mpr ⟨hHk.1 i _, hsk⟩⟩, hHk, hRep, hcs, hag⟩ hRc hRs hret
  · rw [if_neg hin] at hx
    cases hx
theorem S_aald {i n j ka : Nat} {a N : Int} {C : String} (hi : qK i = (ka, n)) (h24 : 24 < ka) (h29 : ka < 29) (ht : ∀ aC : Nat → ClassId, (qtys aC)[ka - 20]? = some (aC (ka - 20), .object C)) (hN : (n : Int) = N) (hd : decode cc pc = .ok (.aaload, 1)) (hp : pc + 1 = pc') (hj : 0 ≤ a → a < N → qEl i a.toNat = j ∧ j < 225) (kk : 0 ≤ a → a < N → qS L xs cc own nL d rk pc' lv (qr j :: st) h x) : qS L xs cc own nL d rk pc lv (qi a :: qr i :: st) h (if 0 ≤ a ∧ a < N then x else none) := by
  intro r h' hx
  by_cases hin : 0 ≤ a ∧ a < N
  · rw [if_pos hin] at hx
    refine ⟨(kk hin.1 hin.2 r h' hx).1, ?_⟩
    intro p l e R s m args below meth c H locs cells slots Q D aC A ad Kc Ks ls hE adE B hRc hRs hret
    obtain ⟨hii, hRm, hG, ⟨hl, hlk, hsk⟩, hHk, hRep, hcs, hag⟩ := B
    obtain ⟨hx0, hb, hml, hown⟩ := id hii
    subst hp
    subst hN
    obtain ⟨hk0, hsk⟩ := List.forall_mem_cons.mp hsk
    have hk0 : q32 a := hk0
    obtain ⟨hk1, hsk⟩ := List.forall_mem_cons.mp hsk
    have hk1 : qlv h i := hk1
    obtain ⟨z, hz1, hz2⟩ := qWl_at (ad := ad) (f := qent aC ad h) (qids_nodup h) (qids_of (qK_lt2 (by rw [hi]; show ka < 99; omega)) hk1)
    rw [qent_ref hi h24] at hz1
    refine va_aldq hx0 hb hG.2.1 hRep.1.1 z (ka - 20) hz1 (ht aC) (qin hin.1 hin.2 hk0) hd ?_
    rw [qcl hk0, if_pos (show a.toNat < n by omega), (hj hin.1 hin.2).1]
    exact (kk hin.1 hin.2 r h' hx).2 p l e R s m args below meth c H locs cells slots Q D aC A ad Kc Ks ls hE adE  ⟨hii, hRm, hG, ⟨hl, hlk, List.forall_mem_cons.mpr ⟨Or.inl (hj hin.1 hin.2).2, hsk⟩⟩, hHk, hRep, hcs, hag⟩ hRc hRs hret
  · rw [if_neg hin] at hx
    cases hx
theorem S_iast {i n : Nat} {a N v : Int} (hi : qK i = (20, n)) (hN : (n : Int) = N) (hd : decode cc pc = .ok (.iastore, 1)) (hp : pc + 1 = pc') (kk : 0 ≤ a → a < N → qS L xs cc own nL d rk pc' lv st (qu h i a.toNat v) x) : qS L xs cc own nL d rk pc lv (qi v :: qi a :: qr i :: st) h (if 0 ≤ a ∧ a < N then x else none) := by
  intro r h' hx
  by_cases hin : 0 ≤ a ∧ a < N
  · rw [if_pos hin] at hx
    refine ⟨(kk hin.1 hin.2 r h' hx).1, ?_⟩
    intro p l e R s m args below meth c H locs cells slots Q D aC A ad Kc Ks ls hE adE B hRc hRs hret
    obtain ⟨hii, hRm, hG, ⟨hl, hlk, hsk⟩, hHk, hRep, hcs, hag⟩ := B
    obtain ⟨hx0, hb, hml, hown⟩ := id hii
    subst hp
    subst hN
    obtain ⟨hkv, hsk⟩ := List.forall_mem_cons.mp hsk
    obtain ⟨hk0, hsk⟩ := List.forall_mem_cons.mp hsk
    have hk0 : q32 a := hk0
    obtain ⟨hk1, hsk⟩ := List.forall_mem_cons.mp hsk
    have hk1 : qlv h i := hk1
    obtain ⟨z, hz1, hz2⟩ := qWl_at (ad := ad) (f := qent aC ad h) (qids_nodup h) (qids_of (qK_lt2 (by rw [hi]; simp)) hk1)
    rw [qent_int hi (by decide) (by decide)] at hz1
    refine va_iast hx0 hb hG.2.1 hRep.1.1 hRep.1.2 hRep.2 z 0 hz1 rfl (qin hin.1 hin.2 hk0) hd (fun H1 locs1 hP1 hD1 hS1 => ?_)
    · rw [qcl hk0] at hP1 hD1
      exact (kk hin.1 hin.2 r h' hx).2 p l e R s m args below meth c H1 locs1 cells slots Q D aC A ad Kc Ks ls hE adE  ⟨hii, hRm, hG, ⟨hl, hlk, hsk⟩, qHk_put hHk hkv (fun e1 _ => by rw [hi] at e1; simp at e1), ⟨qRep_put (hz2 _) rfl (qent_iput hi (by decide) (by decide)) hP1 hD1, hS1⟩, hcs, hag⟩ hRc hRs hret
  · rw [if_neg hin] at hx
    cases hx
theorem S_bast {i n : Nat} {a N v : Int} (hi : qK i = (21, n)) (hN : (n : Int) = N) (hd : decode cc pc = .ok (.bastore, 1)) (hp : pc + 1 = pc') (kk : 0 ≤ a → a < N → qS L xs cc own nL d rk pc' lv st (qu h i a.toNat (qb8 v)) x) : qS L xs cc own nL d rk pc lv (qi v :: qi a :: qr i :: st) h (if 0 ≤ a ∧ a < N then x else none) := by
  intro r h' hx
  by_cases hin : 0 ≤ a ∧ a < N
  · rw [if_pos hin] at hx
    refine ⟨(kk hin.1 hin.2 r h' hx).1, ?_⟩
    intro p l e R s m args below meth c H locs cells slots Q D aC A ad Kc Ks ls hE adE B hRc hRs hret
    obtain ⟨hii, hRm, hG, ⟨hl, hlk, hsk⟩, hHk, hRep, hcs, hag⟩ := B
    obtain ⟨hx0, hb, hml, hown⟩ := id hii
    subst hp
    subst hN
    obtain ⟨hkv, hsk⟩ := List.forall_mem_cons.mp hsk
    obtain ⟨hk0, hsk⟩ := List.forall_mem_cons.mp hsk
    have hk0 : q32 a := hk0
    obtain ⟨hk1, hsk⟩ := List.forall_mem_cons.mp hsk
    have hk1 : qlv h i := hk1
    obtain ⟨z, hz1, hz2⟩ := qWl_at (ad := ad) (f := qent aC ad h) (qids_nodup h) (qids_of (qK_lt2 (by rw [hi]; simp)) hk1)
    rw [qent_int hi (by decide) (by decide)] at hz1
    refine va_bast hx0 hb hG.2.1 hRep.1.1 hRep.1.2 hRep.2 z 1 hz1 rfl (qin hin.1 hin.2 hk0) hd (fun H1 locs1 hP1 hD1 hS1 => ?_)
    · rw [qcl hk0] at hP1 hD1
      have e0 : vp_nar .byte (Int32.ofInt v) = Int32.ofInt (qb8 v) := by
        show (Int32.ofInt v).toInt8.toInt32 = _
        unfold qb8
        rw [Int32.ofInt_toInt]
      rw [e0] at hP1 hD1
      exact (kk hin.1 hin.2 r h' hx).2 p l e R s m args below meth c H1 locs1 cells slots Q D aC A ad Kc Ks ls hE adE  ⟨hii, hRm, hG, ⟨hl, hlk, hsk⟩, qHk_put hHk (q32_of _) (fun e1 _ => by rw [hi] at e1; simp at e1), ⟨qRep_put (hz2 _) rfl (qent_iput hi (by decide) (by decide)) hP1 hD1, hS1⟩, hcs, hag⟩ hRc hRs hret
  · rw [if_neg hin] at hx
    cases hx
theorem S_sast {i n : Nat} {a N v : Int} (hi : qK i = (22, n)) (hN : (n : Int) = N) (hd : decode cc pc = .ok (.sastore, 1)) (hp : pc + 1 = pc') (kk : 0 ≤ a → a < N → qS L xs cc own nL d rk pc' lv st (qu h i a.toNat (qs16 v)) x) : qS L xs cc own nL d rk pc lv (qi v :: qi a :: qr i :: st) h (if 0 ≤ a ∧ a < N then x else none) := by
  intro r h' hx
  by_cases hin : 0 ≤ a ∧ a < N
  · rw [if_pos hin] at hx
    refine ⟨(kk hin.1 hin.2 r h' hx).1, ?_⟩
    intro p l e R s m args below meth c H locs cells slots Q D aC A ad Kc Ks ls hE adE B hRc hRs hret
    obtain ⟨hii, hRm, hG, ⟨hl, hlk, hsk⟩, hHk, hRep, hcs, hag⟩ := B
    obtain ⟨hx0, hb, hml, hown⟩ := id hii
    subst hp
    subst hN
    obtain ⟨hkv, hsk⟩ := List.forall_mem_cons.mp hsk
    obtain ⟨hk0, hsk⟩ := List.forall_mem_cons.mp hsk
    have hk0 : q32 a := hk0
    obtain ⟨hk1, hsk⟩ := List.forall_mem_cons.mp hsk
    have hk1 : qlv h i := hk1
    obtain ⟨z, hz1, hz2⟩ := qWl_at (ad := ad) (f := qent aC ad h) (qids_nodup h) (qids_of (qK_lt2 (by rw [hi]; simp)) hk1)
    rw [qent_int hi (by decide) (by decide)] at hz1
    refine va_sast hx0 hb hG.2.1 hRep.1.1 hRep.1.2 hRep.2 z 2 hz1 rfl (qin hin.1 hin.2 hk0) hd (fun H1 locs1 hP1 hD1 hS1 => ?_)
    · rw [qcl hk0] at hP1 hD1
      have e0 : vp_nar .short (Int32.ofInt v) = Int32.ofInt (qs16 v) := by
        show (Int32.ofInt v).toInt16.toInt32 = _
        unfold qs16
        rw [Int32.ofInt_toInt]
      rw [e0] at hP1 hD1
      exact (kk hin.1 hin.2 r h' hx).2 p l e R s m args below meth c H1 locs1 cells slots Q D aC A ad Kc Ks ls hE adE  ⟨hii, hRm, hG, ⟨hl, hlk, hsk⟩, qHk_put hHk (q32_of _) (fun e1 _ => by rw [hi] at e1; simp at e1), ⟨qRep_put (hz2 _) rfl (qent_iput hi (by decide) (by decide)) hP1 hD1, hS1⟩, hcs, hag⟩ hRc hRs hret
  · rw [if_neg hin] at hx
    cases hx
theorem S_zast {i n : Nat} {a N v : Int} (hi : qK i = (23, n)) (hN : (n : Int) = N) (hd : decode cc pc = .ok (.bastore, 1)) (hp : pc + 1 = pc') (kk : 0 ≤ a → a < N → qS L xs cc own nL d rk pc' lv st (qu h i a.toNat (qand v 1)) x) : qS L xs cc own nL d rk pc lv (qi v :: qi a :: qr i :: st) h (if 0 ≤ a ∧ a < N then x else none) := by
  intro r h' hx
  by_cases hin : 0 ≤ a ∧ a < N
  · rw [if_pos hin] at hx
    refine ⟨(kk hin.1 hin.2 r h' hx).1, ?_⟩
    intro p l e R s m args below meth c H locs cells slots Q D aC A ad Kc Ks ls hE adE B hRc hRs hret
    obtain ⟨hii, hRm, hG, ⟨hl, hlk, hsk⟩, hHk, hRep, hcs, hag⟩ := B
    obtain ⟨hx0, hb, hml, hown⟩ := id hii
    subst hp
    subst hN
    obtain ⟨hkv, hsk⟩ := List.forall_mem_cons.mp hsk
    obtain ⟨hk0, hsk⟩ := List.forall_mem_cons.mp hsk
    have hk0 : q32 a := hk0
    obtain ⟨hk1, hsk⟩ := List.forall_mem_cons.mp hsk
    have hk1 : qlv h i := hk1
    obtain ⟨z, hz1, hz2⟩ := qWl_at (ad := ad) (f := qent aC ad h) (qids_nodup h) (qids_of (qK_lt2 (by rw [hi]; simp)) hk1)
    rw [qent_int hi (by decide) (by decide)] at hz1
    refine va_zast hx0 hb hG.2.1 hRep.1.1 hRep.1.2 hRep.2 z 3 hz1 rfl (qin hin.1 hin.2 hk0) hd (fun H1 locs1 hP1 hD1 hS1 => ?_)
    · rw [qcl hk0] at hP1 hD1
      have e0 : vp_nar .boolean (Int32.ofInt v) = Int32.ofInt (qand v 1) := by
        show Int32.ofInt v &&& 1 = _
        unfold qand
        rw [Int32.ofInt_toInt]
        rfl
      rw [e0] at hP1 hD1
      exact (kk hin.1 hin.2 r h' hx).2 p l e R s m args below meth c H1 locs1 cells slots Q D aC A ad Kc Ks ls hE adE  ⟨hii, hRm, hG, ⟨hl, hlk, hsk⟩, qHk_put hHk (q32_of _) (fun e1 _ => by rw [hi] at e1; simp at e1), ⟨qRep_put (hz2 _) rfl (qent_iput hi (by decide) (by decide)) hP1 hD1, hS1⟩, hcs, hag⟩ hRc hRs hret
  · rw [if_neg hin] at hx
    cases hx
theorem S_last {i n : Nat} {a N v : Int} (hi : qK i = (24, n)) (hN : (n : Int) = N) (hd : decode cc pc = .ok (.lastore, 1)) (hp : pc + 1 = pc') (kk : 0 ≤ a → a < N → qS L xs cc own nL d rk pc' lv st (qu h i a.toNat v) x) : qS L xs cc own nL d rk pc lv (ql v :: qi a :: qr i :: st) h (if 0 ≤ a ∧ a < N then x else none) := by
  intro r h' hx
  by_cases hin : 0 ≤ a ∧ a < N
  · rw [if_pos hin] at hx
    refine ⟨(kk hin.1 hin.2 r h' hx).1, ?_⟩
    intro p l e R s m args below meth c H locs cells slots Q D aC A ad Kc Ks ls hE adE B hRc hRs hret
    obtain ⟨hii, hRm, hG, ⟨hl, hlk, hsk⟩, hHk, hRep, hcs, hag⟩ := B
    obtain ⟨hx0, hb, hml, hown⟩ := id hii
    subst hp
    subst hN
    obtain ⟨hkv, hsk⟩ := List.forall_mem_cons.mp hsk
    obtain ⟨hk0, hsk⟩ := List.forall_mem_cons.mp hsk
    have hk0 : q32 a := hk0
    obtain ⟨hk1, hsk⟩ := List.forall_mem_cons.mp hsk
    have hk1 : qlv h i := hk1
    obtain ⟨z, hz1, hz2⟩ := qWl_at (ad := ad) (f := qent aC ad h) (qids_nodup h) (qids_of (qK_lt2 (by rw [hi]; simp)) hk1)
    rw [qent_long hi] at hz1
    refine va_last hx0 hb hG.2.1 hRep.1.1 hRep.1.2 hRep.2 z 4 hz1 rfl (qin hin.1 hin.2 hk0) hd (fun H1 locs1 hP1 hD1 hS1 => ?_)
    · rw [qcl hk0] at hP1 hD1
      exact (kk hin.1 hin.2 r h' hx).2 p l e R s m args below meth c H1 locs1 cells slots Q D aC A ad Kc Ks ls hE adE  ⟨hii, hRm, hG, ⟨hl, hlk, hsk⟩, qHk_lput hHk hi hkv, ⟨qRep_put (hz2 _) rfl (qent_lput hi) hP1 hD1, hS1⟩, hcs, hag⟩ hRc hRs hret
  · rw [if_neg hin] at hx
    cases hx
theorem S_alen {i n ka : Nat} {N : Int} (hi : qK i = (ka, n)) (h1 : 20 ≤ ka) (h2 : ka < 25) (hN : (n : Int) = N) (hq : q32 N) (hd : decode cc pc = .ok (.arraylength, 1)) (hp : pc + 1 = pc') (kk : qS L xs cc own nL d rk pc' lv (qi N :: st) h x) : qS L xs cc own nL d rk pc lv (qr i :: st) h x := by
  intro r h' hx
  refine ⟨(kk r h' hx).1, ?_⟩
  intro p l e R s m args below meth c H locs cells slots Q D aC A ad Kc Ks ls hE adE B hRc hRs hret
  obtain ⟨hii, hRm, hG, ⟨hl, hlk, hsk⟩, hHk, hRep, hcs, hag⟩ := B
  obtain ⟨hx0, hb, hml, hown⟩ := id hii
  subst hp
  subst hN
  obtain ⟨hk1, hsk⟩ := List.forall_mem_cons.mp hsk
  have hk1 : qlv h i := hk1
  obtain ⟨z, hz1, hz2⟩ := qWl_at (ad := ad) (f := qent aC ad h) (qids_nodup h) (qids_of (qK_lt2 (by rw [hi]; show ka < 99; omega)) hk1)
  have e0 : Int32.ofNat n = Int32.ofInt (n : Int) := by
    rw [← Int32.toInt_inj, q32_i hq, Int32.toInt_ofNat_of_lt (by have := hq.2; omega)]
  have fin : W p l e R s m args below meth c H locs cells slots Q (F0 m (pc + 1) ls (.int (Int32.ofInt (n : Int)) :: st.map (q2 ad))) := (kk r h' hx).2 p l e R s m args below meth c H locs cells slots Q D aC A ad Kc Ks ls hE adE  ⟨hii, hRm, hG, ⟨hl, hlk, List.forall_mem_cons.mpr ⟨hq, hsk⟩⟩, hHk, hRep, hcs, hag⟩ hRc hRs hret
  by_cases hl4 : ka = 24
  · subst hl4
    rw [qent_long hi] at hz1
    exact va_alen hx0 hb hG.2.1 hRep.1.1 z 4 hz1 rfl e0 hd fin
  · rw [qent_int hi h1 (by omega)] at hz1
    rcases (show ka = 20 ∨ ka = 21 ∨ ka = 22 ∨ ka = 23 by omega) with rfl | rfl | rfl | rfl
    · exact va_alen hx0 hb hG.2.1 hRep.1.1 z 0 hz1 rfl e0 hd fin
    · exact va_alen hx0 hb hG.2.1 hRep.1.1 z 1 hz1 rfl e0 hd fin
    · exact va_alen hx0 hb hG.2.1 hRep.1.1 z 2 hz1 rfl e0 hd fin
    · exact va_alen hx0 hb hG.2.1 hRep.1.1 z 3 hz1 rfl e0 hd fin
end qarr
