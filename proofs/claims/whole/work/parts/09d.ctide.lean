/-! ===== the class: a tide for one bottle ===== -/
/-- where bottles stand -/
def okb (i : Nat) : Prop := i = 13 ∨ (26 ≤ i ∧ i < 212)
theorem up_same {v : Nat → Int} {k : Nat} {x : Int} (h : v k = x) : up v k x = v := by
  funext j
  unfold up
  split
  · next e => rw [e, h]
  · rfl
theorem c_step {h : qH} {A : Nat → Int} {e way N : Int} {i : Nat} (E : cE h A e) (hi : okb i) (b : cB A N (h.1 i)) (h0 : h.1 i 0 = 0) : ∃ h', DX2_step i way h = some (0, h') ∧ h'.1 i = cv_step A way (h.1 i) := by
  obtain ⟨G, r, _, _⟩ := E
  have b1 := b.2.1
  have hc := G.cells
  unfold DX2_step cv_step
  rw [c_beside G r b1.1 b1.2]
  simp only [qbd_some]
  have hr := cv_bes_r G (way := way) b1.1 b1.2
  generalize cv_bes A (h.1 i 1) way = k at *
  rw [c_isCell G r]
  simp only [qbd_some]
  by_cases ek : k = -1
  · rw [if_neg (show ¬ (0 ≤ k ∧ k < A 1 * A 2) by omega), if_neg (by decide), if_pos ek]
    exact ⟨h, rfl, rfl⟩
  · rw [if_pos (show 0 ≤ k ∧ k < A 1 * A 2 by omega), if_pos (by decide), if_neg ek]
    simp only [qlt]
    have hk : 0 ≤ k ∧ k < 36 := by omega
    have e6 : (qu h i 1 k).1 6 k.toNat = A (14 + k.toNat) := by
      rw [qu_ne (by unfold okb at hi; omega)]
      exact r.2.2.1 k.toNat (by omega)
    simp only [if_pos hk, e6]
    by_cases a1 : A (14 + k.toNat) = 1
    · rw [if_neg (fun g => g a1), if_neg (by omega), if_pos a1]
      exact ⟨_, rfl, by rw [qu_s, qu_s]⟩
    · rw [if_pos a1]
      have his := G.is (k := k) (by omega) (by omega)
      by_cases a2 : A (14 + k.toNat) = 0
      · rw [if_pos (by omega), if_pos a2]
        refine ⟨_, rfl, ?_⟩
        rw [qu_s, up_same (v := up (h.1 i) 1 k) (k := 0) (x := 0) (by rw [up_n _ _ (by decide)]; exact h0)]
      · rw [if_neg (by omega), if_neg a2, if_neg a1]
        exact ⟨_, rfl, by rw [qu_s, qu_s]⟩
theorem c_b68 {h : qH} {A : Nat → Int} {e t N : Int} {i : Nat} (E : cE h A e) (hi : okb i) (b : cB A N (h.1 i)) (t0 : 0 ≤ t) (t1 : t < 2147483648) : ∃ h', DX2_go_b68 i t h = some (0, h') ∧ h'.1 i = cv_blow A t (h.1 i) ∧ cW h' A := by
  have b1 := b.2.1
  unfold DX2_go_b68 cv_blow
  unfold okb at hi
  by_cases q : h.1 i 0 = 0 ∧ h.1 i 4 = 0
  · rw [if_neg (fun g => g q.1), if_neg (fun g => g q.2), if_pos q]
    obtain ⟨h1, e1, w1⟩ := c_wind E (k := h.1 i 1) (t := t) b1.1 b1.2 t0 t1
    have f1 := F_DX2_windAt _ _ _ _ _ e1
    have E1 : cE h1 A e := E.kp f1 (fun j k a b => by omega) w1
    have v1 : h1.1 i = h.1 i := f1.fn (fun k => by omega)
    rw [e1]
    simp only [qbd_some]
    obtain ⟨h2, e2, g2⟩ := c_step E1 hi (way := cv_wind A (h.1 i 1) (cv_ph A t) (cv_mo A t)) (N := N) (by rw [v1]; exact b) (by rw [v1]; exact q.1)
    have f2 := F_DX2_step _ _ _ _ _ e2
    rw [v1] at g2
    rw [e2]
    simp only [qbd_some]
    exact ⟨h2, rfl, g2, w1.cg (f2.fn (fun k => by omega)) (f2.2.1 (by omega))⟩
  · rw [if_neg q]
    by_cases q1 : h.1 i 0 = 0
    · rw [if_neg (fun g => g q1), if_pos (fun g => q ⟨q1, g⟩)]
      exact ⟨h, rfl, rfl, E.2.2.2⟩
    · rw [if_pos q1]
      exact ⟨h, rfl, rfl, E.2.2.2⟩
theorem c_b33 {h : qH} {A : Nat → Int} {e t N : Int} {i : Nat} (E : cE h A e) (hi : okb i) (b : cB A N (h.1 i)) (t0 : 0 ≤ t) (t1 : t < 2147483648) : ∃ h', DX2_go_b33 i t (cv_ph A t) h = some (0, h') ∧ h'.1 i = cv_blow A t (cv_cur2 A t (h.1 i)) ∧ cW h' A := by
  have b1 := b.2.1
  have G := E.1
  have hp := cv_ph_r G t
  have h3 := G.2.1
  unfold DX2_go_b33
  by_cases q : h.1 i 0 = 0
  · rw [if_neg (fun g => g q), c_spring G E.2.1 t0 t1]
    simp only [qbd_some]
    unfold cv_cur2 cv_cur
    by_cases q2 : 0 < A 5 ∧ cv_mo A t < A 6
    · rw [if_pos q2, if_neg (by decide), if_pos q2, if_pos q, c_current G E.2.1 b1 (by omega)]
      simp only [qbd_some]
      obtain ⟨h2, e2, g2⟩ := c_step E hi (way := A (50 + 6 * (h.1 i 1).toNat + (cv_ph A t).toNat)) b q
      have f2 := F_DX2_step _ _ _ _ _ e2
      unfold okb at hi
      have E2 : cE h2 A e := E.kq f2 (fun j k a b => by omega) (fun k => by omega)
      rw [e2]
      simp only [qbd_some]
      have := c_b68 E2 hi (N := N) (t := t) (by rw [g2]; exact cB_step G b q) t0 t1
      rw [g2] at this
      exact this
    · rw [if_neg q2, if_pos rfl, if_neg q2]
      exact c_b68 E hi b t0 t1
  · rw [if_pos q]
    have : cv_cur2 A t (h.1 i) = h.1 i := by
      unfold cv_cur2 cv_cur
      rw [if_neg q]
      split <;> rfl
    rw [this]
    exact c_b68 E hi b t0 t1
theorem c_go {h : qH} {A : Nat → Int} {e t N : Int} {i : Nat} (E : cE h A e) (hi : okb i) (b : cB A N (h.1 i)) (t0 : 0 ≤ t) (t1 : t < 2147483648) : ∃ h', DX2_go i t h = some (0, h') ∧ h'.1 i = cv_go A t (h.1 i) ∧ cW h' A := by
  have b1 := b.2.1
  have G := E.1
  have hp := cv_ph_r G t
  have h3 := G.2.1
  unfold DX2_go cv_go
  rw [c_phase G E.2.1 t0 t1]
  simp only [qbd_some]
  by_cases q : h.1 i 0 = 0
  · rw [if_neg (fun g => g q), c_current G E.2.1 b1 (by omega)]
    simp only [qbd_some]
    obtain ⟨h2, e2, g2⟩ := c_step E hi (way := A (50 + 6 * (h.1 i 1).toNat + (cv_ph A t).toNat)) b q
    have f2 := F_DX2_step _ _ _ _ _ e2
    have hi' := hi
    unfold okb at hi'
    have E2 : cE h2 A e := E.kq f2 (fun j k a b => by omega) (fun k => by omega)
    rw [e2]
    simp only [qbd_some]
    have ec : cv_cur A t (h.1 i) = cv_step A (A (50 + 6 * (h.1 i 1).toNat + (cv_ph A t).toNat)) (h.1 i) := by unfold cv_cur; rw [if_pos q]
    have := c_b33 E2 hi (N := N) (t := t) (by rw [g2]; exact cB_step G b q) t0 t1
    rw [g2] at this
    rw [ec]
    exact this
  · have ec : cv_cur A t (h.1 i) = h.1 i := by unfold cv_cur; rw [if_neg q]
    rw [if_pos q, ec]
    exact c_b33 E hi b t0 t1
theorem c_keeps {h : qH} {A : Nat → Int} {e s t N : Int} {i : Nat} (E : cE h A e) (hi : okb i) (b : cB A N (h.1 i)) (hN : N ≤ 1000000) (s0 : 0 ≤ s ∧ s < 6) (h1 : ¬ h.1 i 3 = s) (h2 : ¬ h.1 i 3 = -1) :
    ∃ h', (cv_keeps A (h.1 i) s (cv_ph A t) → DX2_keepsIt i s (cv_ph A t) h = some (1, h')) ∧ (¬ cv_keeps A (h.1 i) s (cv_ph A t) → DX2_keepsIt i s (cv_ph A t) h = some (0, h')) := by
  obtain ⟨G, r, _, _⟩ := E
  have ok := G.2.2.2.2.2.2.2.2.2.2
  have hp := cv_ph_r G t
  have h3 := G.2.1
  have b6 := b.2.2.2.2.2.2.1
  unfold okb at hi
  unfold DX2_keepsIt
  rcases r.2.2.2.2.2.2 with ⟨l1, l2⟩ | ⟨l1, l2, l3, _⟩
  · have l1' : A 9 = 0 := l1
    rw [if_neg (by show ¬ h.1 5 (7 + 2 * 1) < h.1 5 (8 + 2 * 1); omega)]
    refine ⟨h, fun g => ?_, fun _ => rfl⟩
    rcases g with g | g | g
    · exact absurd g h1
    · exact absurd g h2
    · omega
  · have : h.1 5 9 < h.1 5 10 := by
      have l2' : h.1 5 9 = A 11 := l2
      have l3' : h.1 5 10 = A 11 + A 13 := l3
      rcases ok with ok | ⟨_, _, o2, _⟩
      · have : A (8 + 1) = 0 := ok
        omega
      · have o2' : 0 < A 13 := o2
        omega
    rw [if_pos this]
    simp only [qlt]
    have n14 : ¬ i = 14 := by omega
    simp only [qu_ne n14]
    unfold DX2_keepsIt_b83
    have hi5 : (0 : Int) ≤ 5 ∧ (5 : Int) < 7 := by decide
    simp only [if_pos hi5, qlt]
    generalize hq : qu (qu (qu (qu (qu h 14 0 (h.1 i 2)) 14 1 (h.1 i 3)) 14 2 s) 14 3 (h.1 i 5)) 14 4 (h.1 i 6) = h10
    have key : ∀ x : Int, x = h.1 i 4 → ∃ h', (cv_keeps A (h.1 i) s (cv_ph A t) → (qbd (DX2_lawSays ((qu (qu h10 14 (Int.toNat 5) x) 14 6 (cv_ph A t)).1 5 9) ((qu (qu h10 14 (Int.toNat 5) x) 14 6 (cv_ph A t)).1 5 10) (qu (qu h10 14 (Int.toNat 5) x) 14 6 (cv_ph A t))) fun r3 h4 => if r3 = 0 then some (0, h4) else some (1, h4)) = some (1, h')) ∧
        (¬ cv_keeps A (h.1 i) s (cv_ph A t) → (qbd (DX2_lawSays ((qu (qu h10 14 (Int.toNat 5) x) 14 6 (cv_ph A t)).1 5 9) ((qu (qu h10 14 (Int.toNat 5) x) 14 6 (cv_ph A t)).1 5 10) (qu (qu h10 14 (Int.toNat 5) x) 14 6 (cv_ph A t))) fun r3 h4 => if r3 = 0 then some (0, h4) else some (1, h4)) = some (0, h')) := by
      intro x hx
      generalize hh : qu (qu h10 14 (Int.toNat 5) x) 14 6 (cv_ph A t) = hh2
      have o2 : ∀ j, ¬ j = 14 → hh2.1 j = h.1 j := fun j hj => by rw [← hh, ← hq, qu_ne hj, qu_ne hj, qu_ne hj, qu_ne hj, qu_ne hj, qu_ne hj, qu_ne hj]
      have r2 : cR hh2 5 A := r.cg (fun j a b => o2 j (by omega))
      have w2 : ∀ j : Nat, (j : Int) < (if true = true then 1007 else 1004) - 1000 → hh2.1 14 j = cv_kw (h.1 i) s (cv_ph A t) j := by
        intro j hj
        rw [if_pos rfl] at hj
        have : j = 0 ∨ j = 1 ∨ j = 2 ∨ j = 3 ∨ j = 4 ∨ j = 5 ∨ j = 6 := by omega
        rw [← hh, ← hq, hx, qu_s, qu_s, qu_s, qu_s, qu_s, qu_s, qu_s]
        rcases this with rfl | rfl | rfl | rfl | rfl | rfl | rfl <;> rfl
      have hb := fun j => cv_kw_b b hN (s := s) (ph := cv_ph A t) (by omega) (by omega) j
      obtain ⟨h4, e4⟩ := c_law (law := 1) (Or.inr rfl) r2 ok l1 hb w2
      have hr := cv_law_r ok l1 hb
      rw [e4]
      simp only [qbd_some]
      refine ⟨h4, fun g => ?_, fun g => ?_⟩
      · rcases g with g | g | g
        · exact absurd g h1
        · exact absurd g h2
        · rw [g.2, if_neg (by decide)]
      · have : ¬ cv_law A 1 (cv_kw (h.1 i) s (cv_ph A t)) = 1 := fun q => g (Or.inr (Or.inr ⟨l1, q⟩))
        rcases hr.2 rfl with q | q
        · rw [if_pos q]
        · exact absurd q this
    have e4 : h10.1 i 4 = h.1 i 4 := by rw [← hq, qu_ne n14, qu_ne n14, qu_ne n14, qu_ne n14, qu_ne n14]
    by_cases q : h.1 i 4 = 0
    · rw [if_pos q]
      exact key 0 q.symm
    · rw [if_neg q]
      exact key 1 (by omega)
