section sy
variable {n : Int} {A : Nat → Int}
/-- both hear: what stands in the two counts -/
theorem seen_go {hc hm : qH} (R : RR n A hc hm) (hn : n ≤ 512) (a k : Int) : ∃ r, DX9_seenCode a hc = some (r, hc) ∧ DX10_noSeen a hm = some (r, hm) ∧ (¬ (0 ≤ a ∧ a < 4) → r = -2) ∧ (r = 0 → (0 ≤ a ∧ a < 4) ∧ ∃ hc' hm', DX8_hear (168 + 2 * a.toNat) (hc.1 24 2) k hc = some (0, hc') ∧ DX10_laysFits a k hm = some (0, hm') ∧ RR n A hc' hm' ∧ WS k 4000 hc' hm') := by
  obtain ⟨r, e1, e2, e3, e4⟩ := sc_both R a
  refine ⟨r, e1, e2, e3, fun z => ?_⟩
  obtain ⟨k0, N, n1, n4, c2, m2, cn, dd⟩ := e4 z
  obtain ⟨t, rfl⟩ := Int.eq_ofNat_of_zero_le k0.1
  rw [Int.toNat_natCast] at *
  exact ⟨k0, hear_both (t := t) (N := N) (d := fun j => hm.1 224 (40 * t + j)) (by omega) n4 (fun i hi => (dd i hi).2.1) hn R ⟨m2, fun _ _ => rfl⟩⟩
theorem t_seen {hc hm : qH} (R : RR n A hc hm) (hn : n ≤ 512) (a : Int) : Out n (DX9_seen a hc) (DX10_seen a hm) := by
  have R1 := R.m0
  unfold DX9_seen DX10_seen
  simp only [qlt]
  generalize qu hm 212 0 0 = hm1 at R1
  obtain ⟨r, e1, e2, _, e4⟩ := seen_go R1 hn a (-1)
  rw [e1, e2, qbd_some, qbd_some]
  by_cases z : r = 0
  · obtain ⟨k0, h1, h2, x1, x2, R2, W⟩ := e4 z
    rw [if_neg (show ¬ ¬ r = 0 from fun g => g z), if_pos z, c_isTray, qbd_some, if_pos k0, if_pos (show ¬ (1 : Int) = 0 by decide), if_pos k0, x1, x2, qbd_some, qbd_some, W.1]
    exact Out.of R2 rfl rfl
  · rw [if_pos z, if_neg z]
    exact Out.of R1 rfl rfl
theorem t_suspects {hc hm : qH} (R : RR n A hc hm) (hn : n ≤ 512) (a : Int) : Out n (DX9_suspects a hc) (DX10_suspects a hm) := by
  have R1 := R.m0
  unfold DX9_suspects DX10_suspects
  simp only [qlt]
  generalize qu hm 212 0 0 = hm1 at R1
  obtain ⟨r, e1, e2, _, e4⟩ := seen_go R1 hn a (-1)
  rw [e1, e2, qbd_some, qbd_some]
  by_cases z : r = 0
  · obtain ⟨k0, h1, h2, x1, x2, R2, W⟩ := e4 z
    rw [if_neg (show ¬ ¬ r = 0 from fun g => g z), if_pos z, c_isTray, qbd_some, if_pos k0, if_pos (show ¬ (1 : Int) = 0 by decide), if_pos k0, x1, x2, qbd_some, qbd_some, W.2.1]
    exact Out.of R2 rfl rfl
  · rw [if_pos z, if_neg z]
    exact Out.of R1 rfl rfl
theorem t_thrower {hc hm : qH} (R : RR n A hc hm) (hn : n ≤ 512) (a k w : Int) : Out n (DX9_thrower a k w hc) (DX10_thrower a k w hm) := by
  have R1 := R.m0
  unfold DX9_thrower DX10_thrower
  simp only [qlt]
  generalize qu hm 212 0 0 = hm1 at R1
  obtain ⟨r, e1, e2, e3, e4⟩ := seen_go R1 hn a k
  rw [c_isTray, qbd_some, m_within, qbd_some, e1, e2, qbd_some, qbd_some]
  by_cases w0 : 0 ≤ w ∧ w ≤ 3
  · rw [if_pos w0, if_pos (show ¬ (1 : Int) = 0 by decide), if_neg (show ¬ w < 0 by omega), if_pos w0.2]
    by_cases t0 : 0 ≤ a ∧ a < 4
    · rw [if_pos t0, if_neg (show ¬ (1 : Int) = 0 by decide), if_pos t0]
      by_cases z : r = 0
      · rw [if_pos z, if_pos z]
        by_cases kp : 0 ≤ k
        · obtain ⟨k0, h1, h2, x1, x2, R2, W⟩ := e4 z
          rw [if_pos kp, if_pos kp, x1, x2, qbd_some, qbd_some, W.1]
          by_cases kl : k < h2.1 212 30
          · obtain ⟨p0, p1, p2, p3⟩ := W.2.2.2 kp kl
            rw [if_pos kl, if_pos kl, if_pos (show 0 ≤ w ∧ w < 4 by omega)]
            have : w = 0 ∨ w = 1 ∨ w = 2 ∨ w = 3 := by omega
            rcases this with rfl | rfl | rfl | rfl
            · exact Out.of R2 (by rw [show (0 : Int).toNat = 0 from rfl, p0]) (by rw [if_neg (show ¬ ¬ (0 : Int) = 0 by decide)])
            · exact Out.of R2 (by rw [show (1 : Int).toNat = 1 from rfl, p1]) (by rw [if_pos (show ¬ (1 : Int) = 0 by decide), if_neg (show ¬ ¬ (1 : Int) = 1 by decide)])
            · exact Out.of R2 (by rw [show (2 : Int).toNat = 2 from rfl, p2]) (by rw [if_pos (show ¬ (2 : Int) = 0 by decide), if_pos (show ¬ (2 : Int) = 1 by decide), if_neg (show ¬ ¬ (2 : Int) = 2 by decide)])
            · exact Out.of R2 (by rw [show (3 : Int).toNat = 3 from rfl, p3]) (by rw [if_pos (show ¬ (3 : Int) = 0 by decide), if_pos (show ¬ (3 : Int) = 1 by decide), if_pos (show ¬ (3 : Int) = 2 by decide)])
          · rw [if_neg kl, if_neg kl]
            by_cases w1 : w = 1
            · rw [if_neg (show ¬ ¬ w = 1 from fun g => g w1), if_neg (show ¬ ¬ w = 1 from fun g => g w1)]
              exact Out.of R2 rfl rfl
            · rw [if_pos w1, if_pos w1]
              exact Out.of R2 rfl rfl
        · rw [if_neg kp, if_neg kp]
          exact Out.of R1 rfl rfl
      · rw [if_neg z, if_neg z]
        exact Out.of R1 rfl rfl
    · have r2 := e3 t0
      rw [if_neg t0, if_pos rfl, if_neg (show ¬ r = 0 by omega), r2]
      exact Out.of R1 rfl rfl
  · rw [if_neg w0, if_neg (show ¬ ¬ (0 : Int) = 0 by decide)]
    refine Out.of R1 ?_ rfl
    by_cases t0 : 0 ≤ a ∧ a < 4
    · rw [if_pos t0, if_neg (show ¬ (1 : Int) = 0 by decide)]
      by_cases w1 : w < 0
      · rw [if_pos w1]
      · rw [if_neg w1, if_neg (show ¬ w ≤ 3 by omega)]
    · rw [if_neg t0, if_pos rfl]
end sy
