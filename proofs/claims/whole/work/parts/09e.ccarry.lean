/-! ===== the class: found on a shore; a tide whole ===== -/
theorem c_find {h : qH} {A : Nat → Int} {e t N : Int} {i : Nat} (E : cE h A e) (hi : okb i) (b : cB A N (h.1 i)) (hN : N ≤ 1000000) (h0 : h.1 i 0 = 1) (t0 : 0 ≤ t) (t1 : t < 2147483648) :
    ∃ h', DX2_find i t h = some (0, h') ∧ h'.1 i = cv_find A e t (h.1 i) := by
  have G := E.1
  have r := E.2.1
  have e6 := E.2.2.1
  have b1 := b.2.1
  have b7 := b.2.2.2.2.2.2.2.1
  have hc := G.cells
  have hp := cv_ph_r G t
  have h3 := G.2.1
  have h4 := G.2.2.1
  have hs := cB_sh G b h0
  have hi' := hi
  unfold okb at hi'
  unfold DX2_find DX2_find_b33
  rw [c_isCell G r, if_pos b1]
  simp only [qbd_some]
  rw [if_neg (by decide), if_pos (by omega), r.2.2.1 (h.1 i 1).toNat (by omega)]
  have hsd : A (14 + (h.1 i 1).toNat) - 10 = cv_sh A (h.1 i) := rfl
  rw [hsd, qw_e (x := cv_sh A (h.1 i)) (by omega) (by omega), c_phase G r t0 t1]
  simp only [qbd_some]
  rw [c_isShore G r, if_pos hs]
  simp only [qbd_some]
  rw [if_neg (by decide), e6]
  have hwk := G.2.2.2.2.2.2.2.2.1 (cv_sh A (h.1 i)).toNat (by omega)
  unfold cv_find
  by_cases a1 : cv_sh A (h.1 i) = e
  · rw [if_pos a1, if_pos (Or.inl a1)]
    exact ⟨h, rfl, rfl⟩
  · rw [if_neg a1, if_pos (by omega), (r.2.2.2.2.1 (cv_sh A (h.1 i)).toNat (by omega)).2.2.1, qbit_i (by constructor <;> omega) hp.1 (by omega)]
    by_cases a2 : qbit (A (278 + (cv_sh A (h.1 i)).toNat)) (cv_ph A t) = 0
    · rw [if_neg (fun g => g a2), if_pos (Or.inr a2)]
      exact ⟨h, rfl, rfl⟩
    · have a12 : ¬ (cv_sh A (h.1 i) = e ∨ qbit (A (278 + (cv_sh A (h.1 i)).toNat)) (cv_ph A t) = 0) := fun g => g.elim a1 a2
      rw [if_pos a2, if_neg a12]
      by_cases k1 : h.1 i 3 = -1
      · have kk : cv_keeps A (h.1 i) (cv_sh A (h.1 i)) (cv_ph A t) := Or.inr (Or.inl k1)
        rw [if_pos k1, if_pos kk]
        exact ⟨_, rfl, by rw [qu_s, qu_s]⟩
      · rw [if_neg k1]
        by_cases k2 : h.1 i 3 = cv_sh A (h.1 i)
        · have kk : cv_keeps A (h.1 i) (cv_sh A (h.1 i)) (cv_ph A t) := Or.inl k2
          rw [if_pos k2, if_pos kk]
          exact ⟨_, rfl, by rw [qu_s, qu_s]⟩
        · rw [if_neg k2]
          obtain ⟨hk, g1, g0⟩ := c_keeps E hi b hN (s := cv_sh A (h.1 i)) (t := t) (by omega) k2 k1
          by_cases a3 : cv_keeps A (h.1 i) (cv_sh A (h.1 i)) (cv_ph A t)
          · have e1 := g1 a3
            have f1 := F_DX2_keepsIt _ _ _ _ _ _ e1
            have gi : hk.1 i = h.1 i := f1.fn (fun k => by omega)
            rw [e1, if_pos a3]
            simp only [qbd_some]
            rw [if_neg (by decide)]
            exact ⟨_, rfl, by rw [qu_s, qu_s, gi]⟩
          · have e1 := g0 a3
            have f1 := F_DX2_keepsIt _ _ _ _ _ _ e1
            have gi : hk.1 i = h.1 i := f1.fn (fun k => by omega)
            have rk : cR hk 5 A := r.cg (fun j x y => f1.fn (fun k => by omega))
            rw [e1, if_neg a3]
            simp only [qbd_some, qlt]
            rw [if_pos trivial, gi, qw_e (by omega) (by omega)]
            have rk2 : cR (qu hk i 6 (h.1 i 6 + 1)) 5 A := rk.cg (fun j x y => qu_ne (by omega))
            rw [c_throwCell G rk2, if_pos hs]
            simp only [qbd_some]
            unfold cv_pass
            by_cases a4 : cv_to A (cv_sh A (h.1 i)) = -1
            · rw [if_pos a4, if_pos a4]
              exact ⟨_, rfl, by rw [qu_s, gi]⟩
            · rw [if_neg a4, if_neg a4]
              refine ⟨_, rfl, ?_⟩
              rw [qu_s, qu_s, qu_s, gi]
              funext j
              unfold up
              (repeat' split) <;> first | rfl | omega
theorem c_b77f {h : qH} {A : Nat → Int} {e t N : Int} {i : Nat} (E : cE h A e) (hi : okb i) (b : cB A N (h.1 i)) (hN : N ≤ 1000000) (t0 : 0 ≤ t) (t1 : t < 2147483648) :
    ∃ h', DX2_carry_b77 i t h = some (0, h') ∧ h'.1 i = cv_end A e t (h.1 i) ∧ cW h' A := by
  unfold DX2_carry_b77 cv_end
  by_cases q : h.1 i 0 = 1
  · rw [if_neg (fun g => g q), if_pos q]
    obtain ⟨h1, e1, g1⟩ := c_find E hi b hN q t0 t1
    have f1 := F_DX2_find _ _ _ _ _ e1
    unfold okb at hi
    rw [e1]
    exact ⟨h1, rfl, g1, E.2.2.2.cg (f1.fn (fun k => by omega)) (f1.2.1 (by omega))⟩
  · rw [if_pos q, if_neg q]
    exact ⟨h, rfl, rfl, E.2.2.2⟩
/-- AGE, SUNK and who is found: behind the going, for a bottle that is at sea or lies -/
theorem c_aged {h : qH} {A : Nat → Int} {e t N : Int} {i : Nat} (E : cE h A e) (hi : okb i) (b : cB A N (h.1 i)) (hN : N < 1000000) (t0 : 0 ≤ t) (t1 : t < 2147483648) :
    ∃ h', (qlt (qu h i 5 (qw (h.1 i 5 + 1))) fun h7 => (if ¬ h7.1 i 0 = 0 then (DX2_carry_b77 i t h7) else (if h7.1 5 19 ≤ 0 then (DX2_carry_b77 i t h7) else (if h7.1 i 5 < h7.1 5 19 then (DX2_carry_b77 i t h7) else (qlt (qu h7 i 0 4) fun h8 => (DX2_carry_b77 i t h8)))))) = some (0, h') ∧ h'.1 i = cv_end A e t (cv_age A false (h.1 i)) ∧ cW h' A := by
  have b7 := b.2.2.2.2.2.2.2.1
  have r := E.2.1
  obtain ⟨g1, g2, g3⟩ := cB_age (c := false) b
  have hi' := hi
  unfold okb at hi'
  simp only [qlt]
  rw [qw_e (by omega) (by omega)]
  have o1 : ∀ j, ¬ j = i → (qu h i 5 (h.1 i 5 + 1)).1 j = h.1 j := fun j hj => qu_ne hj
  have o2 : ∀ j, ¬ j = i → (qu (qu h i 5 (h.1 i 5 + 1)) i 0 4).1 j = h.1 j := fun j hj => by rw [qu_ne hj, qu_ne hj]
  have E1 : cE (qu h i 5 (h.1 i 5 + 1)) A e := ⟨E.1, r.cg (fun j a b => o1 j (by omega)), by rw [o1 4 (by omega)]; exact E.2.2.1, E.2.2.2.cg (o1 225 (by omega)) rfl⟩
  have E2 : cE (qu (qu h i 5 (h.1 i 5 + 1)) i 0 4) A e := ⟨E.1, r.cg (fun j a b => o2 j (by omega)), by rw [o2 4 (by omega)]; exact E.2.2.1, E.2.2.2.cg (o2 225 (by omega)) rfl⟩
  have s0 : (qu h i 5 (h.1 i 5 + 1)).1 i 0 = h.1 i 0 := by rw [qu_s, up_n _ _ (by decide)]
  have s5 : (qu h i 5 (h.1 i 5 + 1)).1 i 5 = h.1 i 5 + 1 := by rw [qu_s, up_s]
  have s19 : (qu h i 5 (h.1 i 5 + 1)).1 5 19 = A 7 := by rw [o1 5 (by omega)]; exact r.2.1.2.2.2.1
  rw [s0, s5, s19]
  by_cases q : h.1 i 0 = 0 ∧ false = false ∧ 0 < A 7 ∧ A 7 ≤ h.1 i 5 + 1
  · have ea : cv_age A false (h.1 i) = up (up (h.1 i) 5 (h.1 i 5 + 1)) 0 4 := by unfold cv_age; rw [if_pos q]
    rw [if_neg (fun g => g q.1), if_neg (by omega), if_neg (by omega)]
    have e17 : (qu (qu h i 5 (h.1 i 5 + 1)) i 0 4).1 i = cv_age A false (h.1 i) := by rw [qu_s, qu_s, ea]
    have := c_b77f E2 hi (t := t) (N := N + 1) (by rw [e17]; exact g1) (by omega) t0 t1
    rw [e17] at this
    exact this
  · have ea : cv_age A false (h.1 i) = up (h.1 i) 5 (h.1 i 5 + 1) := by unfold cv_age; rw [if_neg q]
    have e17 : (qu h i 5 (h.1 i 5 + 1)).1 i = cv_age A false (h.1 i) := by rw [qu_s, ea]
    have := c_b77f E1 hi (t := t) (N := N + 1) (by rw [e17]; exact g1) (by omega) t0 t1
    rw [e17] at this
    by_cases q1 : h.1 i 0 = 0
    · rw [if_neg (fun g => g q1)]
      by_cases q2 : A 7 ≤ 0
      · rw [if_pos q2]
        exact this
      · rw [if_neg q2, if_pos (by
          by_cases q3 : h.1 i 5 + 1 < A 7
          · exact q3
          · exact absurd ⟨q1, rfl, by omega, by omega⟩ q)]
        exact this
    · rw [if_pos q1]
      exact this
theorem st_s (x : Int) : (if x = 0 then (0 : Int) else if x = 1 then 3 else 1) = 0 ∨ (if x = 0 then (0 : Int) else if x = 1 then 3 else 1) = 1 ∨ (if x = 0 then (0 : Int) else if x = 1 then 3 else 1) = 3 := by
  by_cases a : x = 0
  · rw [if_pos a]; exact Or.inl rfl
  · rw [if_neg a]
    by_cases b : x = 1
    · rw [if_pos b]; exact Or.inr (Or.inr rfl)
    · rw [if_neg b]; exact Or.inr (Or.inl rfl)
theorem cv_step_s {A : Nat → Int} {w : Int} {v : Nat → Int} (k : v 0 = 0 ∨ v 0 = 1 ∨ v 0 = 3) : cv_step A w v 0 = 0 ∨ cv_step A w v 0 = 1 ∨ cv_step A w v 0 = 3 := by
  unfold cv_step
  by_cases a : cv_bes A (v 1) w = -1
  · rw [if_pos a]; exact k
  · rw [if_neg a, up_s]
    exact st_s _
theorem cv_cur_s {A : Nat → Int} {t : Int} {v : Nat → Int} (k : v 0 = 0 ∨ v 0 = 1 ∨ v 0 = 3) : cv_cur A t v 0 = 0 ∨ cv_cur A t v 0 = 1 ∨ cv_cur A t v 0 = 3 := by
  unfold cv_cur
  by_cases a : v 0 = 0
  · rw [if_pos a]; exact cv_step_s k
  · rw [if_neg a]; exact k
theorem cv_cur2_s {A : Nat → Int} {t : Int} {v : Nat → Int} (k : v 0 = 0 ∨ v 0 = 1 ∨ v 0 = 3) : cv_cur2 A t v 0 = 0 ∨ cv_cur2 A t v 0 = 1 ∨ cv_cur2 A t v 0 = 3 := by
  unfold cv_cur2
  by_cases a : 0 < A 5 ∧ cv_mo A t < A 6
  · rw [if_pos a]; exact cv_cur_s k
  · rw [if_neg a]; exact k
theorem cv_go_s {A : Nat → Int} {t : Int} {v : Nat → Int} (k : v 0 = 0 ∨ v 0 = 1 ∨ v 0 = 3) : cv_go A t v 0 = 0 ∨ cv_go A t v 0 = 1 ∨ cv_go A t v 0 = 3 := by
  have k2 := cv_cur2_s (A := A) (t := t) (cv_cur_s (A := A) (t := t) k)
  unfold cv_go cv_blow
  by_cases a : (cv_cur2 A t (cv_cur A t v)) 0 = 0 ∧ (cv_cur2 A t (cv_cur A t v)) 4 = 0
  · rw [if_pos a]; exact cv_step_s k2
  · rw [if_neg a]; exact k2
theorem c_b16 {h : qH} {A : Nat → Int} {e t N : Int} {i : Nat} (E : cE h A e) (hi : okb i) (b : cB A N (h.1 i)) (hN : N < 1000000) (t0 : 0 ≤ t) (t1 : t < 2147483648) (k : h.1 i 0 = 0 ∨ h.1 i 0 = 1) :
    ∃ h', DX2_carry_b16 i t h = some (0, h') ∧ h'.1 i = (if (cv_go A t (h.1 i)) 0 = 0 ∨ (cv_go A t (h.1 i)) 0 = 1 then cv_end A e t (cv_age A false (cv_go A t (h.1 i))) else cv_go A t (h.1 i)) ∧ cW h' A := by
  unfold DX2_carry_b16
  obtain ⟨h1, e1, v1, w1⟩ := c_go E hi b t0 t1
  have f1 := F_DX2_go _ _ _ _ _ e1
  have hi' := hi
  unfold okb at hi'
  have E1 : cE h1 A e := E.kp f1 (fun j k a b => by omega) w1
  rw [e1]
  simp only [qbd_some]
  by_cases q : (cv_go A t (h.1 i)) 0 = 0 ∨ (cv_go A t (h.1 i)) 0 = 1
  · rw [if_pos q]
    have := c_aged E1 hi (t := t) (N := N) (by rw [v1]; exact cB_go E.1 b) hN t0 t1
    rw [v1] at this
    rw [v1, if_pos (by omega)]
    exact this
  · have q3 := cv_go_s (A := A) (t := t) (v := h.1 i) (by omega)
    rw [if_neg q, v1, if_neg (by omega)]
    exact ⟨h1, rfl, v1, w1⟩
theorem c_carry {h : qH} {A : Nat → Int} {e t N : Int} {i : Nat} (E : cE h A e) (hi : okb i) (b : cB A N (h.1 i)) (hN : N < 1000000) (t0 : 0 ≤ t) (t1 : t < 2147483648) :
    ∃ h', DX2_carry i t h = some (0, h') ∧ h'.1 i = cv_tide A e t false (h.1 i) ∧ cE h' A e := by
  have hi' := hi
  unfold okb at hi'
  unfold cv_tide
  have key : ∀ h', DX2_carry i t h = some (0, h') → cW h' A → cE h' A e := fun h' e1 w => E.kp (F_DX2_carry _ _ _ _ _ e1) (fun j k a b => by omega) w
  by_cases q : h.1 i 0 = 0 ∨ h.1 i 0 = 1
  · obtain ⟨h1, e1, v1, w1⟩ := c_b16 E hi b hN t0 t1 q
    have e2 : DX2_carry i t h = some (0, h1) := by
      unfold DX2_carry
      by_cases q1 : h.1 i 0 = 0
      · rw [if_pos q1, e1]
      · rw [if_neg q1, if_pos (by omega), e1]
    rw [if_pos q]
    exact ⟨h1, e2, v1, key h1 e2 w1⟩
  · have e2 : DX2_carry i t h = some (0, h) := by
      unfold DX2_carry
      rw [if_neg (fun g => q (Or.inl g)), if_neg (fun g => q (Or.inr g))]
    rw [if_neg q]
    exact ⟨h, e2, rfl, E⟩
