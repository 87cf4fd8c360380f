/-! ===== feed ===== -/
def cst (a s : Int) (h : qH) : qH := qu (qu h 1 (h.1 0 1).toNat (qb8 (qb8 (qshr a s)))) 0 1 (qw (h.1 0 1 + 1))
def mst (a s : Int) (h : qH) : qH := qu (qu h 215 (h.1 212 5).toNat (qand (qshr a s) 255)) 212 5 (qw (h.1 212 5 + 1))
def FD (hc0 hm0 hc hm : qH) (p : Int) : Prop := TA hc hm ∧ hm.1 212 5 = p ∧ (∀ i k, ¬ (i = 1 ∨ (i = 0 ∧ k = 1)) → hc.1 i k = hc0.1 i k) ∧ hc.2 = hc0.2 ∧ (∀ i k, ¬ i = 215 → ¬ (i = 212 ∧ k = 5) → hm.1 i k = hm0.1 i k)
theorem qshr_32 (a b : Int) : q32 (qshr a b) := q32_of _
theorem FD.go {hc0 hm0 hc hm : qH} {p : Int} (a s : Int) (D : FD hc0 hm0 hc hm p) (hp : 0 ≤ p ∧ p < 900) : FD hc0 hm0 (cst a s hc) (mst a s hm) (p + 1) := by
  obtain ⟨⟨t1, t2, t3⟩, d1, d2, d3, d4⟩ := D
  have v1 : qb8 (qb8 (qshr a s)) = qb8 (qshr a s) := qb8_i (qb8_b _).1 (qb8_b _).2
  have v2 : qand (qshr a s) 255 = qb8 (qb8 (qshr a s)) % 256 := by rw [qand_255, v1, qb8_m (qshr_32 a s)]
  have vb := qb8_b (qb8 (qshr a s))
  rw [d1] at t1
  unfold cst mst
  rw [d1, t1, v2, qw_e (by omega) (by omega)]
  generalize qb8 (qb8 (qshr a s)) = v at vb
  have m5 : (qu (qu hm 215 p.toNat (v % 256)) 212 5 (p + 1)).1 212 5 = p + 1 := by rw [qu_s, up_s]
  refine ⟨⟨?_, ?_, fun k hk => ?_⟩, m5, fun i k z => ?_, d3, fun i k z1 z2 => ?_⟩
  · rw [m5, qu_s, up_s]
  · rw [m5]
    omega
  · rw [qu_ne (i := 0) (by decide), qu_s, qu_ne (i := 212) (by decide), qu_s]
    by_cases e : k = p.toNat
    · rw [e, up_s, up_s]
      exact ⟨vb, rfl⟩
    · rw [up_n _ _ e, up_n _ _ e]
      exact t3 k hk
  · rw [qu_1, if_neg (by omega), qu_1, if_neg (by omega)]
    exact d2 i k z
  · rw [qu_1, if_neg (by omega), qu_1, if_neg (by omega)]
    exact d4 i k z1 z2
theorem c_t1 {F : Nat} {a s : Int} {h : qH} (hs : ¬ s < 0) (hp : 0 ≤ h.1 0 1 ∧ h.1 0 1 < 900) : DX9_tapeFour_l3 (F + 1) a s h = DX9_tapeFour_l3 F a (qw (s + (-8))) (cst a s h) := by
  rw [DX9_tapeFour_l3.eq_2, if_neg hs, if_neg (show ¬ h.1 0 1 < 0 by omega), if_neg (show ¬ 900 ≤ h.1 0 1 by omega), if_pos hp, qlt_e, qlt_e, qu_ne (i := 1) (j := 0) (by decide)]
  rfl
theorem m_t1 {k24 : Int → Int → Int → Int → Int → Int → qH → Option (Int × qH)} {a1 a2 a3 a4 a5 a6 b : Int} {h : qH} (hp : 0 ≤ h.1 212 5 ∧ h.1 212 5 < 900) : DX10_feed_b77 k24 a1 a2 a3 a4 a5 a6 b h = k24 a1 a2 a3 a4 a5 (qw (a6 + 1)) (mst b (qw (24 - qw (8 * qrem a6 4))) h) := by
  unfold DX10_feed_b77
  rw [if_pos hp, qlt_e, qlt_e, qu_ne (i := 215) (j := 212) (by decide)]
  rfl
/-- one word of the class: four bytes -/
theorem c_t4 {hc0 hm0 hc hm : qH} {p : Int} (a : Int) (D : FD hc0 hm0 hc hm p) (hp : 0 ≤ p ∧ p + 4 ≤ 900) : DX9_tapeFour a hc = some (0, cst a 0 (cst a 8 (cst a 16 (cst a 24 hc)))) ∧ FD hc0 hm0 (cst a 0 (cst a 8 (cst a 16 (cst a 24 hc)))) (mst a 0 (mst a 8 (mst a 16 (mst a 24 hm)))) (p + 4) ∧
    (hm.1 212 5 = p ∧ (mst a 24 hm).1 212 5 = p + 1 ∧ (mst a 16 (mst a 24 hm)).1 212 5 = p + 2 ∧ (mst a 8 (mst a 16 (mst a 24 hm))).1 212 5 = p + 3) := by
  have D1 := D.go a 24 (by omega)
  have D2 := D1.go a 16 (by omega)
  have D3 := D2.go a 8 (by omega)
  have D4 := D3.go a 0 (by omega)
  have q0 : hc.1 0 1 = p := by rw [D.1.1, D.2.1]
  have q1 : (cst a 24 hc).1 0 1 = p + 1 := by rw [D1.1.1, D1.2.1]
  have q2 : (cst a 16 (cst a 24 hc)).1 0 1 = p + 1 + 1 := by rw [D2.1.1, D2.2.1]
  have q3 : (cst a 8 (cst a 16 (cst a 24 hc))).1 0 1 = p + 1 + 1 + 1 := by rw [D3.1.1, D3.2.1]
  refine ⟨?_, by rw [show p + 4 = p + 1 + 1 + 1 + 1 by omega]; exact D4, D.2.1, D1.2.1, by rw [D2.2.1]; omega, by rw [D3.2.1]; omega⟩
  show DX9_tapeFour_l3 (13995 + 1 + 1 + 1 + 1 + 1) a 24 hc = _
  rw [c_t1 (by decide) (by omega), show qw (24 + -8) = 16 by decide, c_t1 (by decide) (by omega), show qw (16 + -8) = 8 by decide, c_t1 (by decide) (by omega), show qw (8 + -8) = 0 by decide, c_t1 (by decide) (by omega), show qw (0 + -8) = -8 by decide, DX9_tapeFour_l3.eq_2, if_pos (by decide)]
theorem m_f0 {F : Nat} {a1 a2 a3 a4 a5 p : Int} {h : qH} (hp : 0 ≤ p ∧ p + 4 ≤ 900) (q0 : h.1 212 5 = p) (q1 : (mst a1 24 h).1 212 5 = p + 1) (q2 : (mst a1 16 (mst a1 24 h)).1 212 5 = p + 2) (q3 : (mst a1 8 (mst a1 16 (mst a1 24 h))).1 212 5 = p + 3) : DX10_feed_l24 (F + 1 + 1 + 1 + 1) a1 a2 a3 a4 a5 0 h = DX10_feed_l24 F a1 a2 a3 a4 a5 4 (mst a1 0 (mst a1 8 (mst a1 16 (mst a1 24 h)))) := by
  rw [DX10_feed_l24.eq_2, if_neg (show ¬ (20 : Int) ≤ 0 by decide), if_neg (show ¬ (4 : Int) ≤ 0 by decide), m_t1 (by omega), show qw (24 - qw (8 * qrem 0 4)) = 24 by decide, show qw (0 + 1) = 1 by decide, DX10_feed_l24.eq_2, if_neg (show ¬ (20 : Int) ≤ 1 by decide), if_neg (show ¬ (4 : Int) ≤ 1 by decide), m_t1 (by omega), show qw (24 - qw (8 * qrem 1 4)) = 16 by decide, show qw (1 + 1) = 2 by decide, DX10_feed_l24.eq_2, if_neg (show ¬ (20 : Int) ≤ 2 by decide), if_neg (show ¬ (4 : Int) ≤ 2 by decide), m_t1 (by omega), show qw (24 - qw (8 * qrem 2 4)) = 8 by decide, show qw (2 + 1) = 3 by decide, DX10_feed_l24.eq_2, if_neg (show ¬ (20 : Int) ≤ 3 by decide), if_neg (show ¬ (4 : Int) ≤ 3 by decide), m_t1 (by omega), show qw (24 - qw (8 * qrem 3 4)) = 0 by decide, show qw (3 + 1) = 4 by decide]
theorem m_f1 {F : Nat} {a1 a2 a3 a4 a5 p : Int} {h : qH} (hp : 0 ≤ p ∧ p + 4 ≤ 900) (q0 : h.1 212 5 = p) (q1 : (mst a2 24 h).1 212 5 = p + 1) (q2 : (mst a2 16 (mst a2 24 h)).1 212 5 = p + 2) (q3 : (mst a2 8 (mst a2 16 (mst a2 24 h))).1 212 5 = p + 3) : DX10_feed_l24 (F + 1 + 1 + 1 + 1) a1 a2 a3 a4 a5 4 h = DX10_feed_l24 F a1 a2 a3 a4 a5 8 (mst a2 0 (mst a2 8 (mst a2 16 (mst a2 24 h)))) := by
  rw [DX10_feed_l24.eq_2, if_neg (show ¬ (20 : Int) ≤ 4 by decide), if_pos (show (4 : Int) ≤ 4 by decide), if_neg (show ¬ (8 : Int) ≤ 4 by decide), m_t1 (by omega), show qw (24 - qw (8 * qrem 4 4)) = 24 by decide, show qw (4 + 1) = 5 by decide, DX10_feed_l24.eq_2, if_neg (show ¬ (20 : Int) ≤ 5 by decide), if_pos (show (4 : Int) ≤ 5 by decide), if_neg (show ¬ (8 : Int) ≤ 5 by decide), m_t1 (by omega), show qw (24 - qw (8 * qrem 5 4)) = 16 by decide, show qw (5 + 1) = 6 by decide, DX10_feed_l24.eq_2, if_neg (show ¬ (20 : Int) ≤ 6 by decide), if_pos (show (4 : Int) ≤ 6 by decide), if_neg (show ¬ (8 : Int) ≤ 6 by decide), m_t1 (by omega), show qw (24 - qw (8 * qrem 6 4)) = 8 by decide, show qw (6 + 1) = 7 by decide, DX10_feed_l24.eq_2, if_neg (show ¬ (20 : Int) ≤ 7 by decide), if_pos (show (4 : Int) ≤ 7 by decide), if_neg (show ¬ (8 : Int) ≤ 7 by decide), m_t1 (by omega), show qw (24 - qw (8 * qrem 7 4)) = 0 by decide, show qw (7 + 1) = 8 by decide]
theorem m_f2 {F : Nat} {a1 a2 a3 a4 a5 p : Int} {h : qH} (hp : 0 ≤ p ∧ p + 4 ≤ 900) (q0 : h.1 212 5 = p) (q1 : (mst a3 24 h).1 212 5 = p + 1) (q2 : (mst a3 16 (mst a3 24 h)).1 212 5 = p + 2) (q3 : (mst a3 8 (mst a3 16 (mst a3 24 h))).1 212 5 = p + 3) : DX10_feed_l24 (F + 1 + 1 + 1 + 1) a1 a2 a3 a4 a5 8 h = DX10_feed_l24 F a1 a2 a3 a4 a5 12 (mst a3 0 (mst a3 8 (mst a3 16 (mst a3 24 h)))) := by
  rw [DX10_feed_l24.eq_2, if_neg (show ¬ (20 : Int) ≤ 8 by decide), if_pos (show (4 : Int) ≤ 8 by decide), if_pos (show (8 : Int) ≤ 8 by decide), if_neg (show ¬ (12 : Int) ≤ 8 by decide), m_t1 (by omega), show qw (24 - qw (8 * qrem 8 4)) = 24 by decide, show qw (8 + 1) = 9 by decide, DX10_feed_l24.eq_2, if_neg (show ¬ (20 : Int) ≤ 9 by decide), if_pos (show (4 : Int) ≤ 9 by decide), if_pos (show (8 : Int) ≤ 9 by decide), if_neg (show ¬ (12 : Int) ≤ 9 by decide), m_t1 (by omega), show qw (24 - qw (8 * qrem 9 4)) = 16 by decide, show qw (9 + 1) = 10 by decide, DX10_feed_l24.eq_2, if_neg (show ¬ (20 : Int) ≤ 10 by decide), if_pos (show (4 : Int) ≤ 10 by decide), if_pos (show (8 : Int) ≤ 10 by decide), if_neg (show ¬ (12 : Int) ≤ 10 by decide), m_t1 (by omega), show qw (24 - qw (8 * qrem 10 4)) = 8 by decide, show qw (10 + 1) = 11 by decide, DX10_feed_l24.eq_2, if_neg (show ¬ (20 : Int) ≤ 11 by decide), if_pos (show (4 : Int) ≤ 11 by decide), if_pos (show (8 : Int) ≤ 11 by decide), if_neg (show ¬ (12 : Int) ≤ 11 by decide), m_t1 (by omega), show qw (24 - qw (8 * qrem 11 4)) = 0 by decide, show qw (11 + 1) = 12 by decide]
theorem m_f3 {F : Nat} {a1 a2 a3 a4 a5 p : Int} {h : qH} (hp : 0 ≤ p ∧ p + 4 ≤ 900) (q0 : h.1 212 5 = p) (q1 : (mst a4 24 h).1 212 5 = p + 1) (q2 : (mst a4 16 (mst a4 24 h)).1 212 5 = p + 2) (q3 : (mst a4 8 (mst a4 16 (mst a4 24 h))).1 212 5 = p + 3) : DX10_feed_l24 (F + 1 + 1 + 1 + 1) a1 a2 a3 a4 a5 12 h = DX10_feed_l24 F a1 a2 a3 a4 a5 16 (mst a4 0 (mst a4 8 (mst a4 16 (mst a4 24 h)))) := by
  rw [DX10_feed_l24.eq_2, if_neg (show ¬ (20 : Int) ≤ 12 by decide), if_pos (show (4 : Int) ≤ 12 by decide), if_pos (show (8 : Int) ≤ 12 by decide), if_pos (show (12 : Int) ≤ 12 by decide), if_neg (show ¬ (16 : Int) ≤ 12 by decide), m_t1 (by omega), show qw (24 - qw (8 * qrem 12 4)) = 24 by decide, show qw (12 + 1) = 13 by decide, DX10_feed_l24.eq_2, if_neg (show ¬ (20 : Int) ≤ 13 by decide), if_pos (show (4 : Int) ≤ 13 by decide), if_pos (show (8 : Int) ≤ 13 by decide), if_pos (show (12 : Int) ≤ 13 by decide), if_neg (show ¬ (16 : Int) ≤ 13 by decide), m_t1 (by omega), show qw (24 - qw (8 * qrem 13 4)) = 16 by decide, show qw (13 + 1) = 14 by decide, DX10_feed_l24.eq_2, if_neg (show ¬ (20 : Int) ≤ 14 by decide), if_pos (show (4 : Int) ≤ 14 by decide), if_pos (show (8 : Int) ≤ 14 by decide), if_pos (show (12 : Int) ≤ 14 by decide), if_neg (show ¬ (16 : Int) ≤ 14 by decide), m_t1 (by omega), show qw (24 - qw (8 * qrem 14 4)) = 8 by decide, show qw (14 + 1) = 15 by decide, DX10_feed_l24.eq_2, if_neg (show ¬ (20 : Int) ≤ 15 by decide), if_pos (show (4 : Int) ≤ 15 by decide), if_pos (show (8 : Int) ≤ 15 by decide), if_pos (show (12 : Int) ≤ 15 by decide), if_neg (show ¬ (16 : Int) ≤ 15 by decide), m_t1 (by omega), show qw (24 - qw (8 * qrem 15 4)) = 0 by decide, show qw (15 + 1) = 16 by decide]
theorem m_f4 {F : Nat} {a1 a2 a3 a4 a5 p : Int} {h : qH} (hp : 0 ≤ p ∧ p + 4 ≤ 900) (q0 : h.1 212 5 = p) (q1 : (mst a5 24 h).1 212 5 = p + 1) (q2 : (mst a5 16 (mst a5 24 h)).1 212 5 = p + 2) (q3 : (mst a5 8 (mst a5 16 (mst a5 24 h))).1 212 5 = p + 3) : DX10_feed_l24 (F + 1 + 1 + 1 + 1) a1 a2 a3 a4 a5 16 h = DX10_feed_l24 F a1 a2 a3 a4 a5 20 (mst a5 0 (mst a5 8 (mst a5 16 (mst a5 24 h)))) := by
  rw [DX10_feed_l24.eq_2, if_neg (show ¬ (20 : Int) ≤ 16 by decide), if_pos (show (4 : Int) ≤ 16 by decide), if_pos (show (8 : Int) ≤ 16 by decide), if_pos (show (12 : Int) ≤ 16 by decide), if_pos (show (16 : Int) ≤ 16 by decide), m_t1 (by omega), show qw (24 - qw (8 * qrem 16 4)) = 24 by decide, show qw (16 + 1) = 17 by decide, DX10_feed_l24.eq_2, if_neg (show ¬ (20 : Int) ≤ 17 by decide), if_pos (show (4 : Int) ≤ 17 by decide), if_pos (show (8 : Int) ≤ 17 by decide), if_pos (show (12 : Int) ≤ 17 by decide), if_pos (show (16 : Int) ≤ 17 by decide), m_t1 (by omega), show qw (24 - qw (8 * qrem 17 4)) = 16 by decide, show qw (17 + 1) = 18 by decide, DX10_feed_l24.eq_2, if_neg (show ¬ (20 : Int) ≤ 18 by decide), if_pos (show (4 : Int) ≤ 18 by decide), if_pos (show (8 : Int) ≤ 18 by decide), if_pos (show (12 : Int) ≤ 18 by decide), if_pos (show (16 : Int) ≤ 18 by decide), m_t1 (by omega), show qw (24 - qw (8 * qrem 18 4)) = 8 by decide, show qw (18 + 1) = 19 by decide, DX10_feed_l24.eq_2, if_neg (show ¬ (20 : Int) ≤ 19 by decide), if_pos (show (4 : Int) ≤ 19 by decide), if_pos (show (8 : Int) ≤ 19 by decide), if_pos (show (12 : Int) ≤ 19 by decide), if_pos (show (16 : Int) ≤ 19 by decide), m_t1 (by omega), show qw (24 - qw (8 * qrem 19 4)) = 0 by decide, show qw (19 + 1) = 20 by decide]
