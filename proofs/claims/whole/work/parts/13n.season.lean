/-! ===== season: the loop of both ===== -/
section ssn
variable {n : Int} {A : Nat → Int}
theorem sea_l {N : Nat} (hN : N ≤ 40) {T0 : Int} (hT : T0 ≤ 60000) (h4 : ¬ A 4 = 0) : ∀ (m k Fc Fm acc : Nat) (s : Int) (hc g : qH), k + m = N → m < Fc → m < Fm → acc ≤ k → DR 24 A (T0 + k) hc g → g.1 212 22 = s →
    ∃ h' g', ∃ r : Nat, DX9_season_l46 Fc (N : Int) (acc : Int) s (k : Int) hc = (if (r : Int) ≤ 0 then some ((r : Int), h') else qbd (DX3_commit h') fun _ h9 => some ((r : Int), h9)) ∧ DX10_season_l46 Fm (N : Int) (acc : Int) (k : Int) g = (if (r : Int) ≤ 0 then some ((r : Int), g') else qbd (DX10_notes g') fun _ h2 => some ((r : Int), h2)) ∧ DR 24 A (T0 + N) h' g' ∧ fr (Pcw 24) hc h' ∧ fr Pmd g g' ∧ acc ≤ r ∧ (r = acc → h' = hc ∧ g'.1 213 = g.1 213) := by
  intro m
  induction m with
  | zero =>
    intro k Fc Fm acc s hc g hk hFc hFm ha D hs
    obtain ⟨Fc, rfl⟩ : ∃ n, Fc = n + 1 := ⟨Fc - 1, by omega⟩
    obtain ⟨Fm, rfl⟩ : ∃ n, Fm = n + 1 := ⟨Fm - 1, by omega⟩
    rw [DX9_season_l46.eq_2, DX10_season_l46.eq_2, if_pos (show (N : Int) ≤ (k : Int) by omega), if_pos (show (N : Int) ≤ (k : Int) by omega)]
    exact ⟨hc, g, acc, rfl, rfl, by rw [show N = k by omega]; exact D, fr.rf, fr.rf, by omega, fun _ => ⟨rfl, rfl⟩⟩
  | succ m ih =>
    intro k Fc Fm acc s hc g hk hFc hFm ha D hs
    obtain ⟨Fc, rfl⟩ : ∃ n, Fc = n + 1 := ⟨Fc - 1, by omega⟩
    obtain ⟨Fm, rfl⟩ : ∃ n, Fm = n + 1 := ⟨Fm - 1, by omega⟩
    have c4 : hc.1 5 14 = A 4 := D.1.2.1.1.2.2.2
    have m4 : g.1 213 4 = A 4 := D.2.2.1.1 4 (by omega)
    have w4 := cv_dd_w (A 4) s
    obtain ⟨g1, x1, s1, f1⟩ := m_drawn m4 h4
    rw [hs] at x1 s1
    generalize cv_dd (A 4) s = ds at x1 s1 w4
    rw [c_drawn c4 h4 (show ¬ (N : Int) ≤ (k : Int) by omega), DX10_season_l46.eq_2, if_neg (show ¬ (N : Int) ≤ (k : Int) by omega), x1, qbd_some]
    sorry
end ssn
