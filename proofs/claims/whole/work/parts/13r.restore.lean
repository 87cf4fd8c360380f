/-! ===== restore ===== -/
theorem c_other {A : Nat → Int} (G : cG A) (h : qH) : ∃ h', DX9_becomeOther h = some (0, h') ∧ cW h' A ∧ cO h' A ∧ h'.1 44 1 = 0 ∧ h'.1 44 2 = 0 ∧ (∀ i, ¬ (i = 44 ∨ i = 225 ∨ i = 226) → h'.1 i = h.1 i) ∧ h'.2 = h.2 := by
  obtain ⟨h1, e1, a1, a2, a3, a4⟩ := c_forget h
  unfold DX9_becomeOther DX3_clear
  rw [e1, qbd_some, qlt_e, qlt_e, qbd_some]
  have h36 := G.cells
  have h3 := G.2.1
  have h4 := G.2.2.1
  have o : ∀ i, ¬ i = 44 → (qu (qu h1 44 1 0) 44 2 0).1 i = h1.1 i := fun i hi => by rw [qu_ne hi, qu_ne hi]
  have f2 : (qu (qu h1 44 1 0) 44 2 0).2 = h.2 := a4
  refine ⟨_, rfl, ?_, ?_, by rw [qu_s, up_n _ _ (by decide), qu_s, up_s], by rw [qu_s, up_s], fun i hi => by rw [o i (by omega), a3 i (by omega)], f2⟩
  · intro z k ph mo b1 b2 b3
    rw [f2] at z
    rw [o 225 (by decide)]
    exact Or.inl (a1 z _ (by omega))
  · intro z f tt hv t b1 b2 b3 b4 b5
    rw [f2] at z
    rw [o 226 (by decide)]
    have p := cv_ph_r G t
    have q := cv_mo_r G t
    refine Or.inl (a2 z _ ?_)
    unfold cv_slot
    have f6 : f < 6 := by omega
    have t6 : tt < 6 := by omega
    have p6 : (cv_ph A t).toNat < 6 := by omega
    have q30 : (cv_mo A t).toNat < 30 := by omega
    omega
theorem m_rs_l {t : Nat} (ht : t < 2) : ∀ (m k F : Nat) (h : qH), k + m = 1912 → m < F → ∃ h', DX10_restore_l32 F (t : Int) (k : Int) h = some (0, h') ∧ (∀ j, k ≤ j → j < 1912 → ¬ j = 350 → h'.1 213 j = h.1 213 (1912 * (t + 1) + j)) ∧ h'.1 213 350 = 0 ∧ (∀ i j, ¬ (i = 213 ∧ k ≤ j ∧ j < 1912) → ¬ (i = 213 ∧ j = 350) → h'.1 i j = h.1 i j) ∧ h'.2 = h.2 := by
  intro m
  induction m with
  | zero =>
    intro k F h hk hF
    obtain ⟨F, rfl⟩ : ∃ n, F = n + 1 := ⟨F - 1, by omega⟩
    rw [DX10_restore_l32.eq_2, if_pos (by omega), qlt_e]
    exact ⟨_, rfl, fun j a b => by omega, by rw [qu_s, up_s], fun i j _ g => by rw [qu_1, if_neg g], rfl⟩
  | succ m ih =>
    intro k F h hk hF
    obtain ⟨F, rfl⟩ : ∃ n, F = n + 1 := ⟨F - 1, by omega⟩
    obtain ⟨h', e1, e2, e3, e4, e5⟩ := ih (k + 1) F (qu h 213 k (h.1 213 (1912 * (t + 1) + k))) (by omega) (by omega)
    rw [DX10_restore_l32.eq_2, if_neg (by omega), qw_e (x := (t : Int) + 1) (by omega) (by omega), qw_e (x := 1912 * ((t : Int) + 1)) (by omega) (by omega), qw_e (x := 1912 * ((t : Int) + 1) + (k : Int)) (by omega) (by omega), if_pos (by omega), if_pos (by omega), qlt_e, show (1912 * ((t : Int) + 1) + (k : Int)).toNat = 1912 * (t + 1) + k by omega, Int.toNat_natCast, qw_s (by omega)]
    refine ⟨h', e1, fun j a c g => ?_, e3, fun i j g g2 => ?_, by rw [e5]; rfl⟩
    · by_cases ej : j = k
      · rw [e4 213 _ (by omega) (by omega), ej, qu_s, up_s]
      · rw [e2 j (by omega) c g, qu_s, up_n _ _ (by omega)]
    · rw [e4 i j (by omega) g2, qu_1, if_neg (by omega)]
section rst
variable {n : Int} {A : Nat → Int}
theorem t_restore {hc hm : qH} (R : RR n A hc hm) (a : Int) : Out n (DX9_restore a hc) (DX10_restore a hm) := by
  have R1 := R.m0
  unfold DX9_restore DX10_restore
  rw [qlt_e]
  generalize qu hm 212 0 0 = hm1 at R1
  rw [m_within, qbd_some]
  by_cases k : 0 ≤ a ∧ a ≤ 1
  · have k2 : 0 ≤ a ∧ a < 2 := by omega
    rw [if_neg (show ¬ a < 0 by omega), if_pos k2.2, if_pos k2, if_pos k, if_pos (show ¬ (1 : Int) = 0 by decide), if_pos k2, if_pos k2]
    obtain ⟨t, rfl⟩ := Int.eq_ofNat_of_zero_le k.1
    have ht : t < 2 := by omega
    rw [Int.toNat_natCast]
    obtain ⟨z1, z2⟩ := R1.2.2.2.2.2.2.2.2 t ht
    rw [z1]
    rcases z2 with z2 | ⟨z2, Ai, u1, G, u3, u4⟩
    · rw [if_neg (show ¬ ¬ hm1.1 214 t = 0 from fun z => z z2), if_neg (show ¬ ¬ hm1.1 214 t = 0 from fun z => z z2)]
      exact Out.of R1 rfl rfl
    · rw [if_pos (show ¬ hm1.1 214 t = 0 by omega), if_pos (show ¬ hm1.1 214 t = 0 by omega)]
      obtain ⟨h1, e1, C1⟩ := c_scp (h := hc) (i0 := 5) (i1 := 176 + 18 * t) (by omega)
      have s1 : cR h1 5 Ai := cR.cp G u3 C1
      have o1 : ∀ i, ¬ (5 ≤ i ∧ i ≤ 12) → h1.1 i = hc.1 i := fun i hi => C1.1.2.1 i (by omega)
      have f1 := C1.1.2.2
      obtain ⟨h2, e2, w2, o2, f2⟩ := c_wtake (h := h1) (i0 := 24) (i1 := 184 + 18 * t) (by omega) (by omega) (u4.cg (fun i a b => o1 i (by omega)))
      obtain ⟨h3, e3, c1, c2, c3, c4, o3, f3⟩ := c_other G h2
      have M := m_rs_l ht 1912 0 LF hm1 rfl (by unfold LF; omega)
      rw [z0] at M
      obtain ⟨g1, x1, a1, a2, a3, a4⟩ := M
      rw [e1, qbd_some, if_pos k2, e2, qbd_some, e3, qbd_some, x1]
      have oc : ∀ i, ¬ (5 ≤ i ∧ i ≤ 12) → ¬ (24 ≤ i ∧ i ≤ 33) → ¬ (i = 44 ∨ i = 225 ∨ i = 226) → h3.1 i = hc.1 i := fun i p q r => by rw [o3 i r, o2 i (by omega), o1 i p]
      have mo : ∀ i, ¬ i = 213 → g1.1 i = hm1.1 i := fun i h => funext (fun j => a3 i j (by omega) (by omega))
      refine ⟨0, h3, g1, Ai, rfl, rfl, RR.grow ?_ (by omega : n ≤ n + 1)⟩
      obtain ⟨r1, r2, ⟨r3, r3'⟩, r4, r5, r6, r7, r8, r9⟩ := R1
      refine ⟨⟨G, s1.cg (fun i a b => by rw [o3 i (by omega), o2 i (by omega)]), by rw [oc 4 (by omega) (by omega) (by omega)]; exact r1.2.2.1, c1⟩, c2, ⟨fun k hk => by rw [a1 k (by omega) (by omega) (by omega)]; exact u1 k hk, by rw [mo 212 (by decide)]; exact r3'⟩, (w2.cg (fun i a b => o3 i (by omega))).cb (fun j hj => a1 _ (by omega) (by omega) (by omega)), ?_, r6.cg (by rw [oc 0 (by omega) (by omega) (by omega)]) (oc 1 (by omega) (by omega) (by omega)) (by rw [mo 212 (by decide)]) (mo 215 (by decide)), r7.cg (by rw [oc 2 (by omega) (by omega) (by omega)]) (by rw [oc 2 (by omega) (by omega) (by omega)]) (by rw [mo 212 (by decide)]) (by rw [mo 212 (by decide)]), r8.cg (fun i a b => oc i (by omega) (by omega) (by omega)) (mo 222 (by decide)) (mo 223 (by decide)) (mo 224 (by decide)), r9.cg2 (fun i a b => oc i (by omega) (by omega) (by omega)) (fun k hk => a3 213 k (by omega) (by omega)) (mo 214 (by decide))⟩
      unfold PA
      rw [c3, c4, a2]
      exact ⟨by decide, rfl, by decide, fun i hi => by omega⟩
  · rw [if_neg k, if_neg (show ¬ ¬ (0 : Int) = 0 by decide)]
    refine Out.of R1 (r := -2) ?_ rfl
    by_cases p1 : a < 0
    · rw [if_pos p1]
    · rw [if_neg p1, if_neg (show ¬ a < 2 by omega)]
end rst
