/-! ===== shore; trays ===== -/
section shr
variable {n : Int} {A : Nat → Int} {hc hm : qH}
theorem c_lying {h : qH} {w : Nat} {x : Int} (hb : 0 ≤ h.1 w 1 ∧ h.1 w 1 ≤ 8) : DX7_lyingOn w x h = some (cv_bs (fun b => decide (h.1 (w + 2 + b) 0 = 1 ∧ h.1 (w + 2 + b) 1 = x)) (h.1 w 1).toNat, h) :=
  c_ly_l (T := (h.1 w 1).toNat) (by omega) (by omega) (h.1 w 1).toNat 0 LF (by omega) (by unfold LF; omega)
theorem c_kept {h : qH} {w : Nat} {x : Int} (hb : 0 ≤ h.1 w 1 ∧ h.1 w 1 ≤ 8) : DX7_keptBy w x h = some (cv_bs (fun b => decide (h.1 (w + 2 + b) 0 = 2 ∧ h.1 (w + 2 + b) 7 = x)) (h.1 w 1).toNat, h) :=
  c_ke_l (T := (h.1 w 1).toNat) (by omega) (by omega) (h.1 w 1).toNat 0 LF (by omega) (by unfold LF; omega)
theorem t_shore (R : RR n A hc hm) (s w : Int) : Out n (DX9_shore s w hc) (DX10_shore s w hm) := by
  have R1 := R.m0
  have G := R1.1.1
  have r := R1.1.2.1
  have q := R1.2.2.1.1
  have th := R1.thr
  have h4 := G.2.2.1
  unfold DX9_shore DX10_shore
  simp only [qlt]
  rw [c_isShore G r, m_isShoreA q G]
  simp only [qbd_some]
  by_cases k : 0 ≤ s ∧ s < A 4
  · have rs := r.2.2.2.2.1 s.toNat (by omega)
    have e8 : hc.1 8 s.toNat = A (266 + s.toNat) := rs.1
    have e9 : hc.1 9 s.toNat = A (272 + s.toNat) := rs.2.1
    have e11 : hc.1 11 s.toNat = A (278 + s.toNat) := rs.2.2.1
    have s6 : 0 ≤ s ∧ s < 6 := by omega
    simp only [if_pos k, if_pos s6]
    rw [if_pos (show ¬ (1 : Int) = 0 by decide), if_pos (show ¬ (1 : Int) = 0 by decide), e8, e9, e11, c_throwCell G r, m_toA q G k.1 k.2, if_pos k, c_lying (by rw [th.2]; exact th.1), c_kept (by rw [th.2]; exact th.1),
      qw_e (x := 266 + s) (by omega) (by omega), qw_e (x := 272 + s) (by omega) (by omega), qw_e (x := 278 + s) (by omega) (by omega), if_pos (show 0 ≤ 266 + s ∧ 266 + s < 5736 by omega), if_pos (show 0 ≤ 272 + s ∧ 272 + s < 5736 by omega), if_pos (show 0 ≤ 278 + s ∧ 278 + s < 5736 by omega),
      show (266 + s).toNat = 266 + s.toNat by omega, show (272 + s).toNat = 272 + s.toNat by omega, show (278 + s).toNat = 278 + s.toNat by omega, q (266 + s.toNat) (by omega), q (272 + s.toNat) (by omega), q (278 + s.toNat) (by omega)]
    have e4 : DX10_stateSet s 1 (qu hm 212 0 0) = some (cv_bs (fun b => decide ((qu hm 212 0 0).1 213 (284 + (8 * b + 0)) = 1 ∧ (qu hm 212 0 0).1 213 (284 + (8 * b + 1)) = A (266 + s.toNat))) ((qu hm 212 0 0).1 213 348).toNat, qu hm 212 0 0) :=
      m_st_l (T := ((qu hm 212 0 0).1 213 348).toNat) (by omega) (by omega) s6 (Or.inl ⟨rfl, rfl, (q (266 + s.toNat) (by omega)).symm⟩) ((qu hm 212 0 0).1 213 348).toNat 0 LF (by omega) (by unfold LF; omega)
    have e5 : DX10_stateSet s 2 (qu hm 212 0 0) = some (cv_bs (fun b => decide ((qu hm 212 0 0).1 213 (284 + (8 * b + 0)) = 2 ∧ (qu hm 212 0 0).1 213 (284 + (8 * b + 7)) = s)) ((qu hm 212 0 0).1 213 348).toNat, qu hm 212 0 0) :=
      m_st_l (T := ((qu hm 212 0 0).1 213 348).toNat) (by omega) (by omega) s6 (Or.inr ⟨rfl, rfl, rfl⟩) ((qu hm 212 0 0).1 213 348).toNat 0 LF (by omega) (by unfold LF; omega)
    have d4 : cv_bs (fun b => decide (hc.1 (24 + 2 + b) 0 = 1 ∧ hc.1 (24 + 2 + b) 1 = A (266 + s.toNat))) (hc.1 24 1).toNat = cv_bs (fun b => decide ((qu hm 212 0 0).1 213 (284 + (8 * b + 0)) = 1 ∧ (qu hm 212 0 0).1 213 (284 + (8 * b + 1)) = A (266 + s.toNat))) ((qu hm 212 0 0).1 213 348).toNat := by
      rw [th.2]
      refine cv_bs_c _ (fun b hb => ?_)
      rw [show (24 + 2 + b) = 26 + b from rfl, R1.bat (b := b) (k := 0) (by omega) (by decide), R1.bat (b := b) (k := 1) (by omega) (by decide)]
    have d5 : cv_bs (fun b => decide (hc.1 (24 + 2 + b) 0 = 2 ∧ hc.1 (24 + 2 + b) 7 = s)) (hc.1 24 1).toNat = cv_bs (fun b => decide ((qu hm 212 0 0).1 213 (284 + (8 * b + 0)) = 2 ∧ (qu hm 212 0 0).1 213 (284 + (8 * b + 7)) = s)) ((qu hm 212 0 0).1 213 348).toNat := by
      rw [th.2]
      refine cv_bs_c _ (fun b hb => ?_)
      rw [show (24 + 2 + b) = 26 + b from rfl, R1.bat (b := b) (k := 0) (by omega) (by decide), R1.bat (b := b) (k := 7) (by omega) (by decide)]
    rw [e4, e5, d4, d5]
    simp only [qbd_some]
    by_cases a0 : w = 0
    · rw [if_pos a0, if_pos a0]
      exact Out.of R1 rfl rfl
    rw [if_neg a0, if_neg a0]
    by_cases a1 : w = 1
    · rw [if_pos a1, if_pos a1]
      exact Out.of R1 rfl rfl
    rw [if_neg a1, if_neg a1]
    by_cases a2 : w = 2
    · rw [if_pos a2, if_pos a2]
      exact Out.of R1 rfl rfl
    rw [if_neg a2, if_neg a2]
    by_cases a3 : w = 3
    · rw [if_pos a3, if_pos a3]
      exact Out.of R1 rfl rfl
    rw [if_neg a3, if_neg a3]
    by_cases a4 : w = 4
    · rw [if_pos a4, if_pos a4]
      exact Out.of R1 rfl rfl
    rw [if_neg a4, if_neg a4]
    by_cases a5 : w = 5
    · rw [if_pos a5, if_pos a5]
      exact Out.of R1 rfl rfl
    rw [if_neg a5, if_neg a5]
    exact Out.of R1 rfl rfl
  · rw [if_neg k]
    exact Out.of R1 rfl rfl
/-! trays -/
theorem c_isTray (a : Int) (h : qH) : DX9_isTray a h = some (if 0 ≤ a ∧ a < 4 then 1 else 0, h) := by
  unfold DX9_isTray
  (repeat' split) <;> first | rfl | omega
theorem c_missing (i : Nat) (h : qH) : DX6_missing i h = some (if h.1 i 1 = -1 then 1 else 0, h) := by
  unfold DX6_missing
  (repeat' split) <;> first | rfl | contradiction
theorem m_noTray (a : Int) (h : qH) : DX10_noTray a h = some (if 0 ≤ a ∧ a < 4 then (if h.1 222 a.toNat = -1 then -6 else 0) else -2, h) := by
  unfold DX10_noTray
  rw [m_within]
  simp only [qbd_some]
  by_cases k : 0 ≤ a ∧ a < 4
  · rw [if_pos (show 0 ≤ a ∧ a ≤ 3 by omega), if_pos (show ¬ (1 : Int) = 0 by decide), if_pos k, if_pos k]
    (repeat' split) <;> first | rfl | contradiction
  · rw [if_neg (show ¬ (0 ≤ a ∧ a ≤ 3) by omega), if_neg k, if_neg k]
    rfl
theorem c_numberAt (i : Nat) {a : Int} (h : qH) (h0 : 0 ≤ a ∧ a < 40) : DX6_numberAt i a h = some (h.1 (i + 1) a.toNat, h) := by
  unfold DX6_numberAt
  rw [if_neg (by omega), if_neg (by omega), if_pos h0]
theorem fill_l {i0 : Nat} {a1 : Int} : ∀ (m k F n0 : Nat) (h : qH), k + m = n0 → n0 < 2147483647 → m < F → ∃ h', DJ7_fill_d0a16_l6 F i0 n0 a1 (k : Int) (n0 : Int) h = some (0, h') ∧ (∀ j, k ≤ j → j < n0 → h'.1 i0 j = a1) ∧ (∀ i j, ¬ (i = i0 ∧ k ≤ j ∧ j < n0) → h'.1 i j = h.1 i j) ∧ h'.2 = h.2 := by
  intro m
  induction m with
  | zero =>
    intro k F n0 h hk hn hF
    obtain ⟨F, rfl⟩ : ∃ n, F = n + 1 := ⟨F - 1, by omega⟩
    rw [DJ7_fill_d0a16_l6.eq_2, if_pos (by omega)]
    exact ⟨h, rfl, fun j a b => by omega, fun _ _ _ => rfl, rfl⟩
  | succ m ih =>
    intro k F n0 h hk hn hF
    obtain ⟨F, rfl⟩ : ∃ n, F = n + 1 := ⟨F - 1, by omega⟩
    obtain ⟨h', e1, e2, e3, e4⟩ := ih (k + 1) F n0 (qu h i0 k a1) (by omega) hn (by omega)
    rw [DJ7_fill_d0a16_l6.eq_2, if_neg (by omega), if_pos (by omega), Int.toNat_natCast, qw_s (by omega)]
    simp only [qlt]
    refine ⟨h', e1, fun j a b => ?_, fun i j g => ?_, by rw [e4]; rfl⟩
    · by_cases ej : j = k
      · rw [e3 i0 j (by omega), ej, qu_s, up_s]
      · exact e2 j (by omega) b
    · rw [e3 i j (by omega), qu_1, if_neg (by omega)]
theorem m_num_l {t : Nat} (ht : t < 4) : ∀ (m k F sz : Nat) (h : qH), k + m = sz → sz ≤ 40 → m < F → ∃ h', DX10_numbers_l64 F (t : Int) (sz : Int) (k : Int) h = some (0, h') ∧ (∀ j, k ≤ j → j < sz → h'.1 224 (40 * t + j) = 0) ∧ (∀ i j, ¬ (i = 224 ∧ 40 * t + k ≤ j ∧ j < 40 * t + sz) → h'.1 i j = h.1 i j) := by
  intro m
  induction m with
  | zero =>
    intro k F sz h hk hn hF
    obtain ⟨F, rfl⟩ : ∃ n, F = n + 1 := ⟨F - 1, by omega⟩
    rw [DX10_numbers_l64.eq_2, if_pos (by omega)]
    exact ⟨h, rfl, fun j a b => by omega, fun _ _ _ => rfl⟩
  | succ m ih =>
    intro k F sz h hk hn hF
    obtain ⟨F, rfl⟩ : ∃ n, F = n + 1 := ⟨F - 1, by omega⟩
    obtain ⟨h', e1, e2, e3⟩ := ih (k + 1) F sz (qu h 224 (40 * t + k) 0) (by omega) hn (by omega)
    rw [DX10_numbers_l64.eq_2, if_neg (by omega), qw_e (x := 40 * (t : Int)) (by omega) (by omega), qw_e (x := 40 * (t : Int) + (k : Int)) (by omega) (by omega), if_pos (by omega), show (40 * (t : Int) + (k : Int)).toNat = 40 * t + k by omega, qw_s (by omega)]
    simp only [qlt]
    refine ⟨h', e1, fun j a b => ?_, fun i j g => ?_⟩
    · by_cases ej : j = k
      · rw [e3 224 (40 * t + j) (by omega), ej, qu_s, up_s]
      · exact e2 j (by omega) b
    · rw [e3 i j (by omega), qu_1, if_neg (by omega)]
end shr
