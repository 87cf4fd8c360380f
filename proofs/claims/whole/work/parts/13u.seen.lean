/-! ===== what was seen: may it be ===== -/
section sn
variable {n : Int} {A : Nat → Int}
theorem c_cells5 {h : qH} (G : cG A) (r : cR h 5 A) : DX1_cells 5 h = some (A 1 * A 2, h) := by
  unfold DX1_cells
  have c := G.cells
  rw [r.1.1, r.1.2.1, qw_e (by omega) (by omega)]
theorem sc_l {hc hm : qH} (R : RR n A hc hm) {t N : Nat} (ht : t < 4) (hN : N ≤ 8) (c2 : hc.1 (168 + 2 * t) 2 = 2 * (N : Int)) (m2 : hm.1 223 t = 2 * (N : Int)) (h8 : N ≤ 4) (cn : ∀ j : Nat, j < 2 * N → hc.1 (169 + 2 * t) j = hm.1 224 (40 * t + j)) : ∀ (m k Fc Fm : Nat), k + m = N → m < Fc → 2 * m < Fm →
    ∃ r, DX9_seenCode_l58 Fc (168 + 2 * t) (2 * (k : Int)) hc = some (r, hc) ∧ DX10_noSeen_l48 Fm (t : Int) (2 * (k : Int)) hm = some (r, hm) ∧ (r = 0 → ∀ i : Nat, k ≤ i → i < N → (0 ≤ hm.1 224 (40 * t + 2 * i) ∧ hm.1 224 (40 * t + 2 * i) < A 1 * A 2) ∧ (0 ≤ hm.1 224 (40 * t + (2 * i + 1)) ∧ hm.1 224 (40 * t + (2 * i + 1)) ≤ 30)) := by
  intro m
  have G := R.1.1
  induction m with
  | zero =>
    intro k Fc Fm hk hFc hFm
    obtain ⟨Fc, rfl⟩ : ∃ n, Fc = n + 1 := ⟨Fc - 1, by omega⟩
    obtain ⟨Fm, rfl⟩ : ∃ n, Fm = n + 1 := ⟨Fm - 1, by omega⟩
    rw [DX9_seenCode_l58.eq_2, DX10_noSeen_l48.eq_2, if_pos (show hc.1 (168 + 2 * t) 2 ≤ 2 * (k : Int) by omega), if_pos (show 0 ≤ (t : Int) ∧ (t : Int) < 4 by omega), Int.toNat_natCast, if_pos (show hm.1 223 t ≤ 2 * (k : Int) by omega)]
    exact ⟨0, rfl, rfl, fun _ i a b => by omega⟩
  | succ m ih =>
    intro k Fc Fm hk hFc hFm
    obtain ⟨Fc, rfl⟩ : ∃ n, Fc = n + 1 := ⟨Fc - 1, by omega⟩
    obtain ⟨Fm, rfl⟩ : ∃ n, Fm = n + 1 + 1 := ⟨Fm - 2, by omega⟩
    obtain ⟨r, i1, i2, i3⟩ := ih (k + 1) Fc Fm (by omega) (by omega) (by omega)
    have d0 := cn (2 * k) (by omega)
    have d1 := cn (2 * k + 1) (by omega)
    rw [DX9_seenCode_l58.eq_2, DX10_noSeen_l48.eq_2, if_neg (show ¬ hc.1 (168 + 2 * t) 2 ≤ 2 * (k : Int) by omega), if_pos (show 0 ≤ (t : Int) ∧ (t : Int) < 4 by omega), Int.toNat_natCast, if_neg (show ¬ hm.1 223 t ≤ 2 * (k : Int) by omega)]
    unfold DX6_numberAt
    rw [qw_e (x := 2 * (k : Int) + 1) (by omega) (by omega), if_neg (show ¬ 2 * (k : Int) < 0 by omega), if_neg (show ¬ 40 ≤ 2 * (k : Int) by omega), if_pos (show 0 ≤ 2 * (k : Int) ∧ 2 * (k : Int) < 40 by omega), qbd_some, if_neg (show ¬ 2 * (k : Int) + 1 < 0 by omega), if_neg (show ¬ 40 ≤ 2 * (k : Int) + 1 by omega), if_pos (show 0 ≤ 2 * (k : Int) + 1 ∧ 2 * (k : Int) + 1 < 40 by omega), qbd_some, show (2 * (k : Int)).toNat = 2 * k by omega, show (2 * (k : Int) + 1).toNat = 2 * k + 1 by omega, show 168 + 2 * t + 1 = 169 + 2 * t by omega, d0, d1, c_cells5 G R.1.2.1, qbd_some]
    rw [qrem_e (by omega) (by omega) (by decide) (by decide), if_neg (show ¬ ¬ 2 * (k : Int) % 2 = 0 by omega), qw_e (x := 40 * (t : Int)) (by omega) (by omega), qw_e (x := 40 * (t : Int) + 2 * (k : Int)) (by omega) (by omega), if_pos (show 0 ≤ 40 * (t : Int) + 2 * (k : Int) ∧ 40 * (t : Int) + 2 * (k : Int) < 160 by omega), show (40 * (t : Int) + 2 * (k : Int)).toNat = 40 * t + 2 * k by omega, m_isCellA R.2.2.1.1 G, qbd_some]
    simp only [qcmp_l, qcmp_le, qcmp_ge]
    generalize hx : hm.1 224 (40 * t + 2 * k) = x
    by_cases v : 0 ≤ x ∧ x < A 1 * A 2
    · rw [if_neg (show ¬ x < 0 by omega), if_neg (show ¬ A 1 * A 2 ≤ x by omega), if_pos v, if_pos (show ¬ (1 : Int) = 0 by decide), DX10_noSeen_l48.eq_2, if_pos (show 0 ≤ (t : Int) ∧ (t : Int) < 4 by omega), Int.toNat_natCast, if_neg (show ¬ hm.1 223 t ≤ 2 * (k : Int) + 1 by omega), qrem_e (by omega) (by omega) (by decide) (by decide), if_pos (show ¬ (2 * (k : Int) + 1) % 2 = 0 by omega), qw_e (x := 40 * (t : Int)) (by omega) (by omega), qw_e (x := 40 * (t : Int) + (2 * (k : Int) + 1)) (by omega) (by omega), if_pos (show 0 ≤ 40 * (t : Int) + (2 * (k : Int) + 1) ∧ 40 * (t : Int) + (2 * (k : Int) + 1) < 160 by omega), show (40 * (t : Int) + (2 * (k : Int) + 1)).toNat = 40 * t + (2 * k + 1) by omega, m_within, qbd_some]
      generalize hy : hm.1 224 (40 * t + (2 * k + 1)) = y
      by_cases u : 0 ≤ y ∧ y ≤ 30
      · rw [if_neg (show ¬ y < 0 by omega), if_pos u.2, if_pos u, if_pos (show ¬ (1 : Int) = 0 by decide), qw_e (x := 2 * (k : Int) + 2) (by omega) (by omega), qw_e (x := 2 * (k : Int) + 1 + 1) (by omega) (by omega), show 2 * (k : Int) + 2 = 2 * ((k + 1 : Nat) : Int) by omega, show 2 * (k : Int) + 1 + 1 = 2 * ((k + 1 : Nat) : Int) by omega]
        refine ⟨r, i1, i2, fun z i a b => ?_⟩
        by_cases e : i = k
        · subst e
          rw [hx, hy]
          exact ⟨v, u⟩
        · exact i3 z i (by omega) b
      · rw [if_neg u, if_neg (show ¬ ¬ (0 : Int) = 0 by decide)]
        refine ⟨-3, ?_, rfl, fun z => absurd z (by decide)⟩
        by_cases y0 : y < 0
        · rw [if_pos y0]
        · rw [if_neg y0, if_neg (show ¬ y ≤ 30 by omega)]
    · rw [if_neg v, if_neg (show ¬ ¬ (0 : Int) = 0 by decide)]
      refine ⟨-3, ?_, rfl, fun z => absurd z (by decide)⟩
      by_cases x0 : x < 0
      · rw [if_pos x0]
      · rw [if_neg x0, if_pos (show A 1 * A 2 ≤ x by omega)]
end sn
