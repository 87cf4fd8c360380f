/-! ===== to become another sea; restore ===== -/
theorem fillA_l {i0 : Nat} : ∀ (m k F n0 : Nat) (h : qH), k + m = n0 → n0 < 2147483647 → m < F → ∃ h', DJ7_fill_031fb_l5 F i0 n0 0 (k : Int) (n0 : Int) h = some (0, h') ∧ (∀ j, k ≤ j → j < n0 → h'.1 i0 j = 0) ∧ (∀ i j, ¬ (i = i0 ∧ k ≤ j ∧ j < n0) → h'.1 i j = h.1 i j) ∧ h'.2 = h.2 := by
  intro m
  induction m with
  | zero =>
    intro k F n0 h hk hn hF
    obtain ⟨F, rfl⟩ : ∃ n, F = n + 1 := ⟨F - 1, by omega⟩
    rw [DJ7_fill_031fb_l5.eq_2, if_pos (by omega)]
    exact ⟨h, rfl, fun j a b => by omega, fun _ _ _ => rfl, rfl⟩
  | succ m ih =>
    intro k F n0 h hk hn hF
    obtain ⟨F, rfl⟩ : ∃ n, F = n + 1 := ⟨F - 1, by omega⟩
    obtain ⟨h', e1, e2, e3, e4⟩ := ih (k + 1) F n0 (qu h i0 k 0) (by omega) hn (by omega)
    rw [DJ7_fill_031fb_l5.eq_2, if_neg (by omega), if_pos (by omega), Int.toNat_natCast, qw_s (by omega), show qb8 0 = 0 by decide, qlt_e]
    refine ⟨h', e1, fun j a b => ?_, fun i j g => ?_, by rw [e4]; rfl⟩
    · by_cases ej : j = k
      · rw [e3 i0 j (by omega), ej, qu_s, up_s]
      · exact e2 j (by omega) b
    · rw [e3 i j (by omega), qu_1, if_neg (by omega)]
theorem fillB_l {i0 : Nat} : ∀ (m k F n0 : Nat) (h : qH), k + m = n0 → n0 < 2147483647 → m < F → ∃ h', DJ7_fill_fb410_l5 F i0 n0 0 (k : Int) (n0 : Int) h = some (0, h') ∧ (∀ j, k ≤ j → j < n0 → h'.1 i0 j = 0) ∧ (∀ i j, ¬ (i = i0 ∧ k ≤ j ∧ j < n0) → h'.1 i j = h.1 i j) ∧ h'.2 = h.2 := by
  intro m
  induction m with
  | zero =>
    intro k F n0 h hk hn hF
    obtain ⟨F, rfl⟩ : ∃ n, F = n + 1 := ⟨F - 1, by omega⟩
    rw [DJ7_fill_fb410_l5.eq_2, if_pos (by omega)]
    exact ⟨h, rfl, fun j a b => by omega, fun _ _ _ => rfl, rfl⟩
  | succ m ih =>
    intro k F n0 h hk hn hF
    obtain ⟨F, rfl⟩ : ∃ n, F = n + 1 := ⟨F - 1, by omega⟩
    obtain ⟨h', e1, e2, e3, e4⟩ := ih (k + 1) F n0 (qu h i0 k 0) (by omega) hn (by omega)
    rw [DJ7_fill_fb410_l5.eq_2, if_neg (by omega), if_pos (by omega), Int.toNat_natCast, qw_s (by omega), show qs16 0 = 0 by decide, qlt_e]
    refine ⟨h', e1, fun j a b => ?_, fun i j g => ?_, by rw [e4]; rfl⟩
    · by_cases ej : j = k
      · rw [e3 i0 j (by omega), ej, qu_s, up_s]
      · exact e2 j (by omega) b
    · rw [e3 i j (by omega), qu_1, if_neg (by omega)]
theorem c_forget (h : qH) : ∃ h', DX2_forget h = some (0, h') ∧ (h.2.1 = true → ∀ j, j < 6480 → h'.1 225 j = 0) ∧ (h.2.2.1 = true → ∀ j, j < 12960 → h'.1 226 j = 0) ∧ (∀ i, ¬ (i = 225 ∨ i = 226) → h'.1 i = h.1 i) ∧ h'.2 = h.2 := by
  have B : ∀ g : qH, ∃ g', DX2_forget_b15 g = some (0, g') ∧ (g.2.2.1 = true → ∀ j, j < 12960 → g'.1 226 j = 0) ∧ (∀ i, ¬ i = 226 → g'.1 i = g.1 i) ∧ g'.2 = g.2 := fun g => by
    unfold DX2_forget_b15
    by_cases b : g.2.2.1 = true
    · have K := fillB_l (i0 := 226) 12960 0 LF 12960 g rfl (by decide) (by unfold LF; omega)
      rw [z0] at K
      obtain ⟨g', e1, e2, e3, e4⟩ := K
      have e1' : DJ7_fill_fb410 226 12960 0 g = some (0, g') := e1
      rw [if_pos b, if_pos b, e1', qbd_some]
      exact ⟨g', rfl, fun _ j hj => e2 j (by omega) hj, fun i hi => funext (fun j => e3 i j (by omega)), e4⟩
    · rw [if_neg b]
      exact ⟨g, rfl, fun z => absurd z b, fun _ _ => rfl, rfl⟩
  unfold DX2_forget
  by_cases a : h.2.1 = true
  · have K := fillA_l (i0 := 225) 6480 0 LF 6480 h rfl (by decide) (by unfold LF; omega)
    rw [z0] at K
    obtain ⟨g, e1, e2, e3, e4⟩ := K
    have e1' : DJ7_fill_031fb 225 6480 0 h = some (0, g) := e1
    obtain ⟨g', b1, b2, b3, b4⟩ := B g
    rw [if_pos a, if_pos a, e1', qbd_some, b1]
    rw [e4] at b2
    exact ⟨g', rfl, fun _ j hj => by rw [b3 225 (by omega)]; exact e2 j (by omega) hj, b2, fun i hi => by rw [b3 i (by omega)]; exact funext (fun j => e3 i j (by omega)), by rw [b4, e4]⟩
  · obtain ⟨g', b1, b2, b3, b4⟩ := B h
    rw [if_neg a, b1]
    exact ⟨g', rfl, fun z => absurd z a, b2, fun i hi => b3 i (by omega), b4⟩
