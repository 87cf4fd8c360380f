section sn2
variable {n : Int} {A : Nat → Int}
theorem sc_both {hc hm : qH} (R : RR n A hc hm) (a : Int) : ∃ r, DX9_seenCode a hc = some (r, hc) ∧ DX10_noSeen a hm = some (r, hm) ∧ (¬ (0 ≤ a ∧ a < 4) → r = -2) ∧ (r = 0 → (0 ≤ a ∧ a < 4) ∧ ∃ N : Nat, 1 ≤ N ∧ N ≤ 4 ∧ hc.1 (168 + 2 * a.toNat) 2 = 2 * (N : Int) ∧ hm.1 223 a.toNat = 2 * (N : Int) ∧ (∀ j : Nat, j < 2 * N → hc.1 (169 + 2 * a.toNat) j = hm.1 224 (40 * a.toNat + j)) ∧
    ∀ i : Nat, i < N → (0 ≤ hm.1 224 (40 * a.toNat + 2 * i) ∧ hm.1 224 (40 * a.toNat + 2 * i) < A 1 * A 2) ∧ (0 ≤ hm.1 224 (40 * a.toNat + (2 * i + 1)) ∧ hm.1 224 (40 * a.toNat + (2 * i + 1)) ≤ 30)) := by
  unfold DX9_seenCode DX10_noSeen
  rw [c_isTray, m_noTray, qbd_some, qbd_some]
  by_cases k : 0 ≤ a ∧ a < 4
  · obtain ⟨t, rfl⟩ := Int.eq_ofNat_of_zero_le k.1
    have ht : t < 4 := by omega
    obtain ⟨y1, y2, y3, y4, y5⟩ := R.2.2.2.2.2.2.2.1 t ht
    unfold DX6_missing
    repeat rw [if_pos k]
    rw [if_pos (show ¬ (1 : Int) = 0 by decide), Int.toNat_natCast, y1]
    by_cases k2 : hm.1 222 t = -1
    · rw [if_neg (show ¬ ¬ hm.1 222 t = -1 from fun z => z k2), if_pos k2, qbd_some, if_neg (show ¬ (1 : Int) = 0 by decide), if_neg (show ¬ (-6 : Int) = 0 by decide)]
      exact ⟨-6, rfl, rfl, fun z => absurd k z, fun z => absurd z (by decide)⟩
    · rw [if_pos k2, if_neg k2, qbd_some, if_pos rfl, if_pos rfl, m_within, qbd_some, y2, qrem_e y4.1 (by omega) (by decide) (by decide)]
      by_cases o : hm.1 223 t % 2 = 1
      · rw [if_pos o, if_neg (show ¬ hm.1 223 t % 2 = 0 by omega)]
        refine ⟨-4, ?_, rfl, fun z => absurd k z, fun z => absurd z (by decide)⟩
        (repeat' split) <;> rfl
      · rw [if_neg o, if_pos (show hm.1 223 t % 2 = 0 by omega)]
        by_cases b : 2 ≤ hm.1 223 t ∧ hm.1 223 t ≤ 8
        · rw [if_neg (show ¬ hm.1 223 t < 2 by omega), if_neg (show ¬ 8 < hm.1 223 t by omega), if_pos b, if_pos (show ¬ (1 : Int) = 0 by decide)]
          obtain ⟨N, hN⟩ : ∃ N : Nat, hm.1 223 t = 2 * (N : Int) := ⟨(hm.1 223 t / 2).toNat, by omega⟩
          have cn : ∀ j : Nat, j < 2 * N → hc.1 (169 + 2 * t) j = hm.1 224 (40 * t + j) := fun j hj => y5 j (by omega)
          have K := sc_l R ht (by omega) (by rw [y2, hN]) hN (by omega) cn N 0 LF LF (by omega) (by unfold LF; omega) (by unfold LF; omega)
          rw [z0, Int.mul_zero] at K
          obtain ⟨r, e1, e2, e3⟩ := K
          exact ⟨r, e1, e2, fun z => absurd k z, fun z => ⟨k, N, by omega, by omega, by omega, hN, cn, fun i hi => e3 z i (by omega) hi⟩⟩
        · rw [if_neg b, if_neg (show ¬ ¬ (0 : Int) = 0 by decide)]
          refine ⟨-4, ?_, rfl, fun z => absurd k z, fun z => absurd z (by decide)⟩
          by_cases p1 : hm.1 223 t < 2
          · rw [if_pos p1]
          · rw [if_neg p1, if_pos (show 8 < hm.1 223 t by omega)]
  · rw [if_neg k, if_neg (show ¬ ¬ (0 : Int) = 0 by decide), if_neg k, if_neg (show ¬ (-2 : Int) = 0 by decide)]
    exact ⟨-2, rfl, rfl, fun _ => rfl, fun z => absurd z (by decide)⟩
end sn2
