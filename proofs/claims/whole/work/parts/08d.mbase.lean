/-! ===== the reference: small computations ===== -/
theorem qw_s {n : Nat} (h : n < 2147483647) : qw ((n : Int) + 1) = ((n + 1 : Nat) : Int) := by rw [qw_e (by omega) (by omega)]; omega
theorem mul_bd {a b : Int} (ha : -1000000 ≤ a ∧ a ≤ 1000000) (hb : -1000000 ≤ b ∧ b ≤ 1000000) : -1000000000000 ≤ a * b ∧ a * b ≤ 1000000000000 := by
  have h1 : a.natAbs ≤ 1000000 := by omega
  have h2 : b.natAbs ≤ 1000000 := by omega
  have h3 := Nat.mul_le_mul h1 h2
  rw [← Int.natAbs_mul] at h3
  omega
theorem m_within (a lo hi : Int) (h : qH) : DX10_within a lo hi h = some (if lo ≤ a ∧ a ≤ hi then 1 else 0, h) := by
  unfold DX10_within
  simp only [qcmp_l, qcmp_g]
  by_cases h1 : a < lo
  · rw [if_pos h1, if_neg (by omega)]
  · rw [if_neg h1]
    by_cases h2 : hi < a
    · rw [if_pos h2, if_neg (by omega)]
    · rw [if_neg h2, if_pos (by omega)]
theorem m_isOn (h : qH) : DX10_isOn h = some (if h.1 217 0 = 0 ∨ h.1 217 0 = 1 then 1 else 0, h) := by
  unfold DX10_isOn
  by_cases h1 : h.1 217 0 = 0
  · rw [if_pos h1, if_pos (Or.inl h1)]
  · rw [if_neg h1]
    by_cases h2 : h.1 217 0 = 1
    · rw [if_neg (fun g => g h2), if_pos (Or.inr h2)]
    · rw [if_pos h2, if_neg (fun g => g.elim h1 h2)]
theorem m_phase {h : qH} (G : cG (h.1 213)) {t : Int} (h0 : 0 ≤ t) (h1 : t < 2147483648) : DX10_phaseOf t h = some (cv_ph (h.1 213) t, h) := by
  have := G.2.1
  unfold DX10_phaseOf cv_ph
  rw [if_neg (by omega), qrem_e h0 h1 (by omega) (by omega)]
theorem m_moon {h : qH} (G : cG (h.1 213)) {t : Int} (h0 : 0 ≤ t) (h1 : t < 2147483648) : DX10_moonOf t h = some (cv_mo (h.1 213) t, h) := by
  have := G.2.2.2.1
  unfold DX10_moonOf cv_mo
  by_cases e : h.1 213 5 = 0
  · rw [if_neg (fun g => g e), if_pos e]
  · rw [if_pos e, if_neg e, if_neg e, qrem_e h0 h1 (by omega) (by omega)]
theorem m_beyond {h : qH} (G : cG (h.1 213)) {k way : Int} (h0 : 0 ≤ k) (h1 : k < h.1 213 1 * h.1 213 2) (w1 : 1 ≤ way) (w2 : way ≤ 4) : DX10_beyond k way h = some (cv_bes (h.1 213) k way, h) := by
  obtain ⟨hw, hh1, hh2⟩ := G.wh h0 h1
  have hk : k < 36 := by have := G.cells; omega
  have wy : way = 1 ∨ way = 2 ∨ way = 3 ∨ way = 4 := by omega
  unfold DX10_beyond DX10_beyond_b27 DX10_beyond_b56 cv_bes
  simp only [m_within, qbd_some, qlt]
  generalize h.1 213 1 = W at *
  generalize h.1 213 2 = H at *
  have e1 : qrem k W = k % W := qrem_e h0 (by omega) (by omega) (by omega)
  have e2 : qdiv k W = k / W := qdiv_e h0 (by omega) (by omega) (by omega)
  rw [e1, e2]
  have dv : k = W * (k / W) + k % W := (Int.mul_ediv_add_emod k W).symm
  have m1 : 0 ≤ k % W := Int.emod_nonneg _ (by omega)
  have m2 : k % W < W := Int.emod_lt_of_pos _ (by omega)
  have d1 : 0 ≤ k / W := Int.ediv_nonneg h0 (by omega)
  generalize k % W = x at *
  generalize k / W = y at *
  have hy : y < H := by
    rcases hw with rfl | rfl | rfl | rfl | rfl <;> omega
  rcases wy with rfl | rfl | rfl | rfl
  all_goals
    simp only [Int.reduceEq, not_true_eq_false, not_false_eq_true, if_true, if_false, reduceIte, Int.add_zero]
    rw [if_neg (show ¬ W = 0 by omega), if_neg (show ¬ W = 0 by omega)]
    rcases hw with rfl | rfl | rfl | rfl | rfl
    all_goals
      simp (disch := omega) only [qw_e]
      (repeat' split) <;> first | rfl | omega | (congr 2; omega) | contradiction
theorem m_isOpen {h : qH} (G : cG (h.1 213)) {k : Int} (h0 : k = -1 ∨ (0 ≤ k ∧ k < 36)) : DX10_isOpen k h = some (if k ≠ -1 ∧ h.1 213 (14 + k.toNat) = 0 then 1 else 0, h) := by
  unfold DX10_isOpen
  by_cases e : k = -1
  · rw [if_pos e, if_neg (fun g => g.1 e)]
  · rw [if_neg e, qw_e (by omega) (by omega), if_pos (by omega), show (14 + k).toNat = 14 + k.toNat by omega]
    by_cases e2 : h.1 213 (14 + k.toNat) = 0
    · rw [if_neg (fun g => g e2), if_pos ⟨e, e2⟩]
    · rw [if_pos e2, if_neg (fun g => e2 g.2)]
theorem m_to {h : qH} (G : cG (h.1 213)) {s : Int} (h0 : 0 ≤ s) (h1 : s < h.1 213 4) : DX10_throwsTo s h = some (cv_to (h.1 213) s, h) := by
  have h4 := G.2.2.1
  obtain ⟨n, rfl⟩ := Int.eq_ofNat_of_zero_le h0
  have hs := G.2.2.2.2.2.2.2.2.1 n h1
  unfold DX10_throwsTo cv_to
  rw [Int.toNat_natCast, qw_e (by omega) (by omega), qw_e (by omega) (by omega), if_pos (by omega), if_pos (by omega), show (266 + (n : Int)).toNat = 266 + n by omega, show (272 + (n : Int)).toNat = 272 + n by omega,
    m_beyond G hs.1 hs.2.1 hs.2.2.1 hs.2.2.2.1]
  simp only [qbd_some]
  have hb := cv_bes_r G (way := h.1 213 (272 + n)) hs.1 hs.2.1
  have hc := G.cells
  generalize cv_bes (h.1 213) (h.1 213 (266 + n)) (h.1 213 (272 + n)) = r at *
  rw [m_isOpen G (by omega)]
  simp only [qbd_some]
  by_cases hcc : r ≠ -1 ∧ h.1 213 (14 + r.toNat) = 0
  · rw [if_pos hcc, if_pos hcc, if_neg (by decide)]
  · rw [if_neg hcc, if_neg hcc, if_pos rfl]
theorem m_bet {c a b : Int} (hc : 3000 ≤ c ∧ c ≤ 3007) (ha : -1000000 ≤ a ∧ a ≤ 1000000) (hb : -1000000 ≤ b ∧ b ≤ 1000000) (h : qH) : DX10_between c a b h = some (cv_bet c a b, h) := by
  have hm := mul_bd ha hb
  unfold DX10_between DX10_between_b42 cv_bet cv_cl
  generalize a * b = p at *
  have hc2 : c = 3000 ∨ c = 3001 ∨ c = 3002 ∨ c = 3003 ∨ c = 3004 ∨ c = 3005 ∨ c = 3006 ∨ c = 3007 := by omega
  simp (disch := omega) only [qwl_e, qcmp_le, qcmp_ge]
  rcases hc2 with rfl | rfl | rfl | rfl | rfl | rfl | rfl | rfl
  all_goals
    simp only [Int.reduceEq, Int.reduceLT, not_true_eq_false, not_false_eq_true, if_true, if_false, reduceIte]
    (repeat' split) <;> first | rfl | omega | (rw [qw_e (by omega) (by omega)] at *; first | rfl | omega) | (rw [qw_e (by omega) (by omega)])
