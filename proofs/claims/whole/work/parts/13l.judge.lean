/-! ===== judge ===== -/
section jdg
variable {n : Int} {A : Nat → Int}
theorem t_judge {hc hm : qH} (R : RR n A hc hm) (hn : n ≤ 512) (a q : Int) : Out n (DX9_judge a q hc) (DX10_judge a q hm) := by
  have R1 := R.m0
  unfold DX9_judge DX10_judge
  rw [qlt_e]
  generalize qu hm 212 0 0 = hm1 at R1
  have P := R1.past
  have th := R1.thr
  rw [c_isTray, m_within, qbd_some, qbd_some]
  by_cases kq : 0 ≤ q ∧ q ≤ 3
  · rw [if_neg (show ¬ q < 0 by omega), if_pos kq.2, if_pos kq, if_pos (show ¬ (1 : Int) = 0 by decide), m_noTray, qbd_some]
    by_cases k : 0 ≤ a ∧ a < 4
    · rw [if_pos k, if_neg (show ¬ (1 : Int) = 0 by decide), if_pos k, if_pos k]
      obtain ⟨t, rfl⟩ := Int.eq_ofNat_of_zero_le k.1
      have ht : t < 4 := by omega
      rw [Int.toNat_natCast]
      obtain ⟨y1, y2, y3, y4, y5⟩ := R1.2.2.2.2.2.2.2.1 t ht
      unfold DX6_missing
      rw [y1]
      by_cases k2 : hm1.1 222 t = -1
      · rw [if_neg (show ¬ ¬ hm1.1 222 t = -1 from fun z => z k2), if_pos k2, qbd_some, if_neg (show ¬ (1 : Int) = 0 by decide), if_neg (show ¬ (-6 : Int) = 0 by decide)]
        exact Out.of R1 rfl rfl
      · rw [if_pos k2, if_neg k2, qbd_some, if_pos rfl, if_pos rfl]
        obtain ⟨h1, e1, w1, o1, f1⟩ := c_wtake (h := hc) (i0 := 34) (i1 := 24) (by omega) (by omega) R1.2.2.2.1
        obtain ⟨g1, x1, ka, kf⟩ := m_keeps hm1
        have g13 : g1.1 213 = hm1.1 213 := kf.fn (fun k => by omega)
        have mo : ∀ i, ¬ i = 219 → g1.1 i = hm1.1 i := fun i hi => kf.fn (fun k => by omega)
        have oc : ∀ i, ¬ (34 ≤ i ∧ i ≤ 43) → h1.1 i = hc.1 i := fun i hi => o1 i (by omega)
        have D1 : DR 34 A (99 * n + ((0 : Nat) : Int)) h1 (qu g1 212 21 0) := by
          rw [z0, Int.add_zero]
          refine ⟨⟨R1.1.1, R1.1.2.1.cg (fun i a b => oc i (by omega)), by rw [oc 4 (by omega)]; exact R1.1.2.2.1, R1.1.2.2.2.cg (oc 225 (by omega)) (by rw [f1])⟩, R1.2.1.cg (oc 226 (by omega)) (by rw [f1]), ⟨by rw [qu_ne (by decide), g13]; exact R1.2.2.1.1, by rw [qu_s, up_n _ _ (by decide), mo 212 (by decide)]; exact R1.2.2.1.2⟩, ?_⟩
          rw [show (qu g1 212 21 0).1 213 = hm1.1 213 by rw [qu_ne (by decide)]; exact g13]
          exact w1
        obtain ⟨N, hN⟩ := Int.eq_ofNat_of_zero_le y4.1
        have K := tell_l (A := A) (t := t) (N := N) (Or.inr rfl) ht (by omega) (T0 := 99 * n) (by omega) N 0 LF LF h1 (qu g1 212 21 0) (by omega) (by unfold LF; omega) (by unfold LF; omega) D1 (by rw [oc _ (by omega), y2, hN]) (by rw [qu_ne (by decide), mo 223 (by decide), hN]) (fun j hj => by rw [oc _ (by omega), qu_ne (by decide), mo 224 (by decide)]; exact y5 j (by omega)) (by rw [qu_s, up_s])
        rw [z0] at K
        obtain ⟨h2, g2, r, e2, x2, D2, fc2, fm2, r1, r2, r3, r4, r5⟩ := K
        have x3 : DX10_tells (t : Int) g1 = some ((r : Int), g2) := x2
        have e3 : DX9_doAll 34 (168 + 2 * t) h1 = some ((r : Int), h2) := e2
        have f3 := F_DX10_tells _ _ _ _ x3
        have fmA : fr Pmd g1 g2 := by
          have fm0 : fr Pmd g1 (qu g1 212 21 0) := fr.mk (fun i k z => by rw [qu_1, if_neg (by unfold Pmd at z; omega)]) rfl
          exact fm0.tr fm2
        have t8 : 0 ≤ g2.1 213 348 ∧ g2.1 213 348 ≤ 8 := D2.2.2.2.2.2.1
        have d1 : h2.1 34 1 = g2.1 213 348 := D2.2.2.2.1
        have M := m_ag_l 66 0 LF g2 rfl (by unfold LF; omega)
        rw [z0] at M
        obtain ⟨g3, x4, a1, a2, a3⟩ := M
        have x5 : DX10_isAgain g2 = some (0, g3) := x4
        have g321 : g3.1 212 21 = g2.1 212 21 := a2 212 21 (by omega)
        have e13 : g3.1 213 = hm1.1 213 := by
          funext j
          by_cases hj : 284 ≤ j ∧ j < 350
          · obtain ⟨i, rfl⟩ : ∃ i, j = 284 + i := ⟨j - 284, by omega⟩
            rw [a1 i (by omega) (by omega), f3.at 219 i (by omega), ka i (by omega)]
          · rw [a2 213 j (by omega), fmA.at 213 j (by unfold Pmd; omega), g13]
        have f4 : fr (fun i k => (i = 212 ∧ (k = 18 ∨ k = 21 ∨ k = 22)) ∨ i = 213 ∨ (217 ≤ i ∧ i ≤ 219)) hm1 g3 := by
          refine ((kf.mono (fun i k z => ?_)).tr (fmA.mono (fun i k z => ?_))).tr (fr.mk (fun i k z => a2 i k (by omega)) a3)
          · omega
          · unfold Pmd at z; omega
        have R2 : RR n A h2 g3 := by
          refine R1.keep (Pc := fun i k => (14 ≤ i ∧ i ≤ 15) ∨ i = 225 ∨ (34 ≤ i ∧ i ≤ 43)) D2.1 D2.2.1 ?_ (fun i k z p => by omega) (f4.e213 e13 (Q := fun i k => (i = 212 ∧ (k = 18 ∨ k = 21 ∨ k = 22)) ∨ (217 ≤ i ∧ i ≤ 219)) (fun i k z p => by omega)) (fun i k z p => by omega)
          exact (fr.mk (fun i k z => by rw [oc i (by omega)]) f1).tr (fc2.mono (fun i k z => by unfold Pcw at z; omega))
        have c2 : h2.1 (168 + 2 * t) 2 = N := by rw [fc2.at _ _ (by unfold Pcw; omega), oc _ (by omega), y2, hN]
        have cn : r < N → h2.1 (168 + 2 * t + 1) r = g2.1 224 (40 * t + r) := fun hr => by
          rw [show 168 + 2 * t + 1 = 169 + 2 * t by omega, fc2.at _ _ (by unfold Pcw; omega), oc _ (by omega), f3.at 224 _ (by omega), mo 224 (by decide)]
          exact y5 r (by omega)
        rw [e1, x1, qbd_some, qbd_some, if_pos k, e3, x3, qbd_some, qbd_some, if_pos k, c2, qlt_e, m_manyOf t8, qbd_some, x5, qbd_some, g321]
        unfold DX9_judge_b78
        by_cases hr : r < N
        · obtain ⟨s1, s2⟩ := r3 hr
          rw [if_pos (show (r : Int) < (N : Int) by omega), if_pos s2]
          by_cases q0 : q = 0
          · rw [if_pos q0, if_pos rfl, if_neg (show ¬ ¬ q = 0 from fun z => z q0)]
            exact Out.of R2 rfl rfl
          · rw [if_neg q0, if_pos q0]
            by_cases q1 : q = 1
            · rw [if_pos q1, if_pos rfl, if_pos k, if_neg (show ¬ ¬ q = 1 from fun z => z q1)]
              unfold DX6_numberAt
              rw [if_neg (show ¬ (r : Int) < 0 by omega), if_neg (show ¬ 40 ≤ (r : Int) by omega), if_pos (show 0 ≤ (r : Int) ∧ (r : Int) < 40 by omega), Int.toNat_natCast, Int.toNat_natCast, qbd_some, cn hr, c_whyNot D2, qbd_some, s1]
              exact Out.of R2 rfl rfl
            · rw [if_neg q1, if_pos q1]
              by_cases q2 : q = 2
              · rw [if_pos q2, if_neg (show ¬ ¬ q = 2 from fun z => z q2), d1]
                exact Out.of R2 rfl rfl
              · rw [if_neg q2, if_pos q2, D2.ct, qbd_some]
                exact Out.of R2 rfl rfl
        · have s2 := r4 (by omega)
          rw [if_neg (show ¬ (r : Int) < (N : Int) by omega), if_neg (show ¬ ¬ g2.1 212 21 = 0 from fun z => z s2)]
          by_cases q0 : q = 0
          · rw [if_pos q0, if_neg (show ¬ (1 : Int) = 0 by decide), if_neg (show ¬ ¬ q = 0 from fun z => z q0)]
            exact Out.of R2 rfl rfl
          · rw [if_neg q0, if_pos q0]
            by_cases q1 : q = 1
            · rw [if_pos q1, if_neg (show ¬ (1 : Int) = 0 by decide), if_neg (show ¬ ¬ q = 1 from fun z => z q1), s2]
              exact Out.of R2 rfl rfl
            · rw [if_neg q1, if_pos q1]
              by_cases q2 : q = 2
              · rw [if_pos q2, if_neg (show ¬ ¬ q = 2 from fun z => z q2), d1]
                exact Out.of R2 rfl rfl
              · rw [if_neg q2, if_pos q2, D2.ct, qbd_some]
                exact Out.of R2 rfl rfl
    · rw [if_neg k, if_pos rfl, if_neg k, if_neg (show ¬ (-2 : Int) = 0 by decide)]
      exact Out.of R1 rfl rfl
  · rw [if_neg kq, if_neg (show ¬ ¬ (0 : Int) = 0 by decide)]
    refine Out.of R1 (r := -2) ?_ rfl
    by_cases k : (if 0 ≤ a ∧ a < 4 then (1 : Int) else 0) = 0
    · rw [if_pos k]
    · rw [if_neg k]
      by_cases p1 : q < 0
      · rw [if_pos p1]
      · rw [if_neg p1, if_neg (show ¬ q ≤ 3 by omega)]
end jdg
