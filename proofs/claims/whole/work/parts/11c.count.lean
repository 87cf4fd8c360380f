/-! ===== counting: count, shore ===== -/
def cv_ct (f : Nat → Int) (st : Int) : Nat → Int
  | 0 => 0
  | n + 1 => cv_ct f st n + (if f n = st then 1 else 0)
theorem cv_ct_r (f : Nat → Int) (st : Int) : ∀ n, 0 ≤ cv_ct f st n ∧ cv_ct f st n ≤ n := by
  intro n
  induction n with
  | zero => exact ⟨Int.le_refl _, Int.le_refl _⟩
  | succ n ih =>
    unfold cv_ct
    split <;> omega
theorem cv_ct_c {f g : Nat → Int} {st : Int} : ∀ n, (∀ b, b < n → f b = g b) → cv_ct f st n = cv_ct g st n := by
  intro n
  induction n with
  | zero => intro _; rfl
  | succ n ih =>
    intro h
    unfold cv_ct
    rw [ih (fun b hb => h b (by omega)), h n (by omega)]
theorem c_ct_l {h : qH} {w : Nat} {st : Int} {T : Nat} (hT : h.1 w 1 = T) (h8 : T ≤ 8) : ∀ (m k F : Nat), k + m = T → m < F → DX7_countOf_l4 F w st (cv_ct (fun b => h.1 (w + 2 + b) 0) st k) (k : Int) h = some (cv_ct (fun b => h.1 (w + 2 + b) 0) st T, h) := by
  intro m
  induction m with
  | zero =>
    intro k F hk hF
    obtain ⟨F, rfl⟩ : ∃ n, F = n + 1 := ⟨F - 1, by omega⟩
    rw [DX7_countOf_l4.eq_2, if_pos (by omega), show k = T by omega]
  | succ m ih =>
    intro k F hk hF
    obtain ⟨F, rfl⟩ : ∃ n, F = n + 1 := ⟨F - 1, by omega⟩
    have hr := cv_ct_r (fun b => h.1 (w + 2 + b) 0) st k
    have := ih (k + 1) F (by omega) (by omega)
    rw [DX7_countOf_l4.eq_2, if_neg (by omega), if_neg (by omega), if_pos (by omega), Int.toNat_natCast, qw_s (by omega)]
    rw [cv_ct] at this
    by_cases e : h.1 (w + 2 + k) 0 = st
    · rw [if_neg (fun g => g e)]
      simp only [qlt]
      rw [qw_e (by omega) (by omega)]
      simp only [e, if_true] at this
      exact this
    · rw [if_pos e]
      simp only [e, if_false, Int.add_zero] at this
      exact this
theorem c_countOf {h : qH} {w : Nat} {st : Int} (hb : 0 ≤ h.1 w 1 ∧ h.1 w 1 ≤ 8) : DX7_countOf w st h = some (cv_ct (fun b => h.1 (w + 2 + b) 0) st (h.1 w 1).toNat, h) :=
  c_ct_l (T := (h.1 w 1).toNat) (by omega) (by omega) (h.1 w 1).toNat 0 LF (by omega) (by unfold LF; omega)
theorem m_ct_l {h : qH} {st : Int} {T : Nat} (hT : h.1 213 348 = T) (h8 : T ≤ 8) : ∀ (m k F : Nat), k + m = T → m < F → DX10_manyOf_l4 F st (cv_ct (fun b => h.1 213 (284 + (8 * b + 0))) st k) (k : Int) h = some (cv_ct (fun b => h.1 213 (284 + (8 * b + 0))) st T, h) := by
  intro m
  induction m with
  | zero =>
    intro k F hk hF
    obtain ⟨F, rfl⟩ : ∃ n, F = n + 1 := ⟨F - 1, by omega⟩
    rw [DX10_manyOf_l4.eq_2, if_pos (by omega), show k = T by omega]
  | succ m ih =>
    intro k F hk hF
    obtain ⟨F, rfl⟩ : ∃ n, F = n + 1 := ⟨F - 1, by omega⟩
    have hr := cv_ct_r (fun b => h.1 213 (284 + (8 * b + 0))) st k
    have := ih (k + 1) F (by omega) (by omega)
    rw [DX10_manyOf_l4.eq_2, if_neg (by omega), qw_e (x := 8 * (k : Int)) (by omega) (by omega), qw_e (x := 284 + 8 * (k : Int)) (by omega) (by omega), if_pos (by omega), show (284 + 8 * (k : Int)).toNat = 284 + (8 * k + 0) by omega, qw_s (by omega)]
    rw [cv_ct] at this
    by_cases e : h.1 213 (284 + (8 * k + 0)) = st
    · rw [if_neg (fun g => g e)]
      simp only [qlt]
      rw [qw_e (by omega) (by omega)]
      simp only [e, if_true] at this
      exact this
    · rw [if_pos e]
      simp only [qlt]
      rw [qw_e (by omega) (by omega)]
      simp only [e, if_false] at this
      exact this
theorem m_manyOf {h : qH} {st : Int} (hb : 0 ≤ h.1 213 348 ∧ h.1 213 348 ≤ 8) : DX10_manyOf st h = some (cv_ct (fun b => h.1 213 (284 + (8 * b + 0))) st (h.1 213 348).toNat, h) :=
  m_ct_l (T := (h.1 213 348).toNat) (by omega) (by omega) (h.1 213 348).toNat 0 LF (by omega) (by unfold LF; omega)
theorem RR.ct {n : Int} {A : Nat → Int} {hc hm : qH} (R : RR n A hc hm) (st : Int) : cv_ct (fun b => hc.1 (24 + 2 + b) 0) st (hc.1 24 1).toNat = cv_ct (fun b => hm.1 213 (284 + (8 * b + 0))) st (hm.1 213 348).toNat := by
  have th := R.thr
  rw [th.2]
  exact cv_ct_c _ (fun b hb => R.bat (b := b) (k := 0) (by omega) (by decide))
theorem cv_cnt_r (A : Nat → Int) : ∀ n : Nat, 0 ≤ cv_cnt A n ∧ cv_cnt A n ≤ n := by
  intro n
  induction n with
  | zero => exact ⟨Int.le_refl _, Int.le_refl _⟩
  | succ n ih =>
    unfold cv_cnt
    split <;> omega
theorem m_rk_l {h : qH} {A : Nat → Int} (q : sq A (h.1 213)) (G : cG A) {T : Nat} (hT : A 1 * A 2 = T) : ∀ (m k F : Nat), k + m = T → m < F → DX10_rocks_l4 F (cv_cnt A k) (k : Int) h = some (cv_cnt A T, h) := by
  have cc := G.cells
  intro m
  induction m with
  | zero =>
    intro k F hk hF
    obtain ⟨F, rfl⟩ : ∃ n, F = n + 1 := ⟨F - 1, by omega⟩
    rw [DX10_rocks_l4.eq_2]
    unfold DX10_cells
    simp only [qbd_some]
    rw [q 1 (by omega), q 2 (by omega), qw_e (x := A 1 * A 2) (by omega) (by omega), if_pos (by omega), show k = T by omega]
  | succ m ih =>
    intro k F hk hF
    obtain ⟨F, rfl⟩ : ∃ n, F = n + 1 := ⟨F - 1, by omega⟩
    have hr := cv_cnt_r A k
    have := ih (k + 1) F (by omega) (by omega)
    rw [DX10_rocks_l4.eq_2]
    unfold DX10_cells
    simp only [qbd_some]
    rw [q 1 (by omega), q 2 (by omega), qw_e (x := A 1 * A 2) (by omega) (by omega), if_neg (by omega), qw_e (x := 14 + (k : Int)) (by omega) (by omega), if_pos (by omega), show (14 + (k : Int)).toNat = 14 + k by omega, q (14 + k) (by omega), qw_s (by omega)]
    rw [cv_cnt] at this
    by_cases e : A (14 + k) = 1
    · rw [if_neg (fun g => g e)]
      simp only [qlt]
      rw [qw_e (by omega) (by omega)]
      simp only [e, if_true] at this
      exact this
    · rw [if_pos e]
      simp only [qlt]
      rw [qw_e (by omega) (by omega)]
      simp only [e, if_false] at this
      exact this
section cnts
variable {n : Int} {A : Nat → Int} {hc hm : qH}
theorem t_count (R : RR n A hc hm) (hn : n ≤ 512) (a : Int) : Out n (DX9_count a hc) (DX10_count a hm) := by
  have R1 := R.m0
  have G := R1.1.1
  have r := R1.1.2.1
  have q := R1.2.2.1.1
  have td := R1.tid
  have th := R1.thr
  have cc := G.cells
  unfold DX9_count DX10_count
  simp only [qlt]
  have a5 := R1.2.2.2.2.1.2.1
  have a11 := R1.2.2.2.2.2.1.1
  rw [c_countOf (by rw [th.2]; exact th.1), c_countOf (by rw [th.2]; exact th.1), m_manyOf th.1, m_manyOf th.1, R1.ct, R1.ct, td.2, c_phase G r (by omega) (by omega), c_moon G r (by omega) (by omega), m_phaseA q G (by omega) (by omega), m_moonA q G (by omega) (by omega)]
  unfold DX10_rocks
  rw [show DX10_rocks_l4 LF 0 0 (qu hm 212 0 0) = some (cv_cnt A (A 1 * A 2).toNat, qu hm 212 0 0) from m_rk_l q G (T := (A 1 * A 2).toNat) (by omega) (A 1 * A 2).toNat 0 LF (by omega) (by unfold LF; omega)]
  simp only [qbd_some]
  rw [r.1.1, r.1.2.1, r.1.2.2.1, r.1.2.2.2, r.2.1.1, r.2.1.2.2.2.2, th.2, a5, a11, q 0 (by omega), q 1 (by omega), q 2 (by omega), q 3 (by omega), q 4 (by omega)]
  by_cases a0 : a = 0
  · rw [if_pos a0, if_pos a0]
    exact Out.of R1 rfl rfl
  rw [if_neg a0, if_neg a0]
  by_cases a1 : a = 1
  · rw [if_pos a1, if_pos a1]
    exact Out.of R1 rfl rfl
  rw [if_neg a1, if_neg a1]
  by_cases a2 : a = 2
  · rw [if_pos a2, if_pos a2]
    exact Out.of R1 rfl rfl
  rw [if_neg a2, if_neg a2]
  by_cases a3 : a = 3
  · rw [if_pos a3, if_pos a3]
    exact Out.of R1 rfl rfl
  rw [if_neg a3, if_neg a3]
  by_cases a4 : a = 4
  · rw [if_pos a4, if_pos a4]
    exact Out.of R1 rfl rfl
  rw [if_neg a4, if_neg a4]
  by_cases a5 : a = 5
  · rw [if_pos a5, if_pos a5]
    exact Out.of R1 rfl rfl
  rw [if_neg a5, if_neg a5]
  by_cases a6 : a = 6
  · rw [if_pos a6, if_pos a6]
    exact Out.of R1 rfl rfl
  rw [if_neg a6, if_neg a6]
  by_cases a7 : a = 7
  · rw [if_pos a7, if_pos a7]
    exact Out.of R1 rfl rfl
  rw [if_neg a7, if_neg a7]
  by_cases a8 : a = 8
  · rw [if_pos a8, if_pos a8]
    exact Out.of R1 rfl rfl
  rw [if_neg a8, if_neg a8]
  by_cases a9 : a = 9
  · rw [if_pos a9, if_pos a9]
    exact Out.of R1 rfl rfl
  rw [if_neg a9, if_neg a9]
  by_cases a10 : a = 10
  · rw [if_pos a10, if_pos a10]
    exact Out.of R1 rfl rfl
  rw [if_neg a10, if_neg a10]
  by_cases a11 : a = 11
  · rw [if_pos a11, if_pos a11]
    exact Out.of R1 rfl rfl
  rw [if_neg a11, if_neg a11]
  by_cases a12 : a = 12
  · rw [if_pos a12, if_pos a12]
    exact Out.of R1 rfl rfl
  rw [if_neg a12, if_neg a12]
  by_cases a13 : a = 13
  · rw [if_pos a13, if_pos a13]
    exact Out.of R1 rfl rfl
  rw [if_neg a13, if_neg a13]
  exact Out.of R1 rfl rfl
/-! bits of bottles -/
def cv_bs (p : Nat → Bool) : Nat → Int
  | 0 => 0
  | n + 1 => if p n = true then qor (cv_bs p n) (qshl 1 n) else cv_bs p n
theorem cv_bs_c {p r : Nat → Bool} : ∀ n, (∀ b, b < n → p b = r b) → cv_bs p n = cv_bs r n := by
  intro n
  induction n with
  | zero => intro _; rfl
  | succ n ih =>
    intro h
    unfold cv_bs
    rw [ih (fun b hb => h b (by omega)), h n (by omega)]
theorem c_ly_l {h : qH} {w : Nat} {x : Int} {T : Nat} (hT : h.1 w 1 = T) (h8 : T ≤ 8) : ∀ (m k F : Nat), k + m = T → m < F → DX7_lyingOn_l4 F w x (cv_bs (fun b => decide (h.1 (w + 2 + b) 0 = 1 ∧ h.1 (w + 2 + b) 1 = x)) k) (k : Int) h = some (cv_bs (fun b => decide (h.1 (w + 2 + b) 0 = 1 ∧ h.1 (w + 2 + b) 1 = x)) T, h) := by
  intro m
  induction m with
  | zero =>
    intro k F hk hF
    obtain ⟨F, rfl⟩ : ∃ n, F = n + 1 := ⟨F - 1, by omega⟩
    rw [DX7_lyingOn_l4.eq_2, if_pos (by omega), show k = T by omega]
  | succ m ih =>
    intro k F hk hF
    obtain ⟨F, rfl⟩ : ∃ n, F = n + 1 := ⟨F - 1, by omega⟩
    have := ih (k + 1) F (by omega) (by omega)
    have h01 : 0 ≤ (k : Int) ∧ (k : Int) < 8 := by omega
    rw [DX7_lyingOn_l4.eq_2, if_neg (by omega), if_neg (by omega)]
    simp only [if_pos h01, Int.toNat_natCast, qw_s (show k < 2147483647 by omega)]
    rw [cv_bs] at this
    simp only [decide_eq_true_eq] at this
    by_cases e : h.1 (w + 2 + k) 0 = 1
    · rw [if_neg (fun g => g e)]
      by_cases e2 : h.1 (w + 2 + k) 1 = x
      · rw [if_neg (fun g => g e2)]
        rw [if_pos ⟨e, e2⟩] at this
        exact this
      · rw [if_pos e2]
        rw [if_neg (fun g => e2 g.2)] at this
        exact this
    · rw [if_pos e]
      rw [if_neg (fun g => e g.1)] at this
      exact this
theorem c_ke_l {h : qH} {w : Nat} {x : Int} {T : Nat} (hT : h.1 w 1 = T) (h8 : T ≤ 8) : ∀ (m k F : Nat), k + m = T → m < F → DX7_keptBy_l4 F w x (cv_bs (fun b => decide (h.1 (w + 2 + b) 0 = 2 ∧ h.1 (w + 2 + b) 7 = x)) k) (k : Int) h = some (cv_bs (fun b => decide (h.1 (w + 2 + b) 0 = 2 ∧ h.1 (w + 2 + b) 7 = x)) T, h) := by
  intro m
  induction m with
  | zero =>
    intro k F hk hF
    obtain ⟨F, rfl⟩ : ∃ n, F = n + 1 := ⟨F - 1, by omega⟩
    rw [DX7_keptBy_l4.eq_2, if_pos (by omega), show k = T by omega]
  | succ m ih =>
    intro k F hk hF
    obtain ⟨F, rfl⟩ : ∃ n, F = n + 1 := ⟨F - 1, by omega⟩
    have := ih (k + 1) F (by omega) (by omega)
    have h01 : 0 ≤ (k : Int) ∧ (k : Int) < 8 := by omega
    rw [DX7_keptBy_l4.eq_2, if_neg (by omega), if_neg (by omega)]
    simp only [if_pos h01, Int.toNat_natCast, qw_s (show k < 2147483647 by omega)]
    rw [cv_bs] at this
    simp only [decide_eq_true_eq] at this
    by_cases e : h.1 (w + 2 + k) 0 = 2
    · rw [if_neg (fun g => g e)]
      by_cases e2 : h.1 (w + 2 + k) 7 = x
      · rw [if_neg (fun g => g e2)]
        rw [if_pos ⟨e, e2⟩] at this
        exact this
      · rw [if_pos e2]
        rw [if_neg (fun g => e2 g.2)] at this
        exact this
    · rw [if_pos e]
      rw [if_neg (fun g => e g.1)] at this
      exact this
theorem m_st_l {h : qH} {s st : Int} {T j : Nat} {x : Int} (hT : h.1 213 348 = T) (h8 : T ≤ 8) (hs : 0 ≤ s ∧ s < 6) (hj : (st = 1 ∧ j = 1 ∧ x = h.1 213 (266 + s.toNat)) ∨ (st = 2 ∧ j = 7 ∧ x = s)) : ∀ (m k F : Nat), k + m = T → m < F →
    DX10_stateSet_l5 F s st (cv_bs (fun b => decide (h.1 213 (284 + (8 * b + 0)) = st ∧ h.1 213 (284 + (8 * b + j)) = x)) k) (k : Int) h = some (cv_bs (fun b => decide (h.1 213 (284 + (8 * b + 0)) = st ∧ h.1 213 (284 + (8 * b + j)) = x)) T, h) := by
  intro m
  induction m with
  | zero =>
    intro k F hk hF
    obtain ⟨F, rfl⟩ : ∃ n, F = n + 1 := ⟨F - 1, by omega⟩
    rw [DX10_stateSet_l5.eq_2, if_pos (by omega), show k = T by omega]
  | succ m ih =>
    intro k F hk hF
    obtain ⟨F, rfl⟩ : ∃ n, F = n + 1 := ⟨F - 1, by omega⟩
    have := ih (k + 1) F (by omega) (by omega)
    rw [cv_bs] at this
    simp only [decide_eq_true_eq] at this
    have b86 : ∀ (b0 acc : Int), DX10_stateSet_b86 (DX10_stateSet_l5 F) s st acc (k : Int) b0 h = if h.1 213 (284 + (8 * k + 0)) = st ∧ ¬ b0 = 0 then DX10_stateSet_l5 F s st (qor acc (qshl 1 (k : Int))) ((k + 1 : Nat) : Int) h else DX10_stateSet_l5 F s st acc ((k + 1 : Nat) : Int) h := by
      intro b0 acc
      unfold DX10_stateSet_b86
      rw [qw_e (x := 8 * (k : Int)) (by omega) (by omega), qw_e (x := 284 + 8 * (k : Int)) (by omega) (by omega), if_pos (by omega), show (284 + 8 * (k : Int)).toNat = 284 + (8 * k + 0) by omega, qw_s (by omega)]
      simp only [qlt]
      (repeat' split) <;> first | rfl | omega
    rw [DX10_stateSet_l5.eq_2, if_neg (by omega), b86, b86, qw_e (x := 8 * (k : Int)) (by omega) (by omega), qw_e (x := 284 + 8 * (k : Int)) (by omega) (by omega)]
    rcases hj with ⟨j1, j2, j3⟩ | ⟨j1, j2, j3⟩
    · rw [if_neg (show ¬ ¬ st = 1 by omega), qw_e (x := 284 + 8 * (k : Int) + 1) (by omega) (by omega), if_pos (by omega), qw_e (x := 266 + s) (by omega) (by omega), if_pos (by omega), show (284 + 8 * (k : Int) + 1).toNat = 284 + (8 * k + 1) by omega, show (266 + s).toNat = 266 + s.toNat by omega, ← j3]
      rw [j2] at this ⊢
      by_cases e : h.1 213 (284 + (8 * k + 1)) = x
      · rw [if_neg (fun g => g e)]
        by_cases e0 : h.1 213 (284 + (8 * k + 0)) = st
        · rw [if_pos ⟨e0, by decide⟩]
          rw [if_pos ⟨e0, e⟩] at this
          exact this
        · rw [if_neg (c := _ ∧ _) (fun g => e0 g.1)]
          rw [if_neg (c := _ ∧ _) (fun g => e0 g.1)] at this
          exact this
      · rw [if_pos e, if_neg (show ¬ (h.1 213 (284 + (8 * k + 0)) = st ∧ ¬ (0 : Int) = 0) from fun g => g.2 rfl)]
        rw [if_neg (c := _ ∧ _) (fun g => e g.2)] at this
        exact this
    · rw [if_pos (show ¬ st = 1 by omega), qw_e (x := 284 + 8 * (k : Int) + 7) (by omega) (by omega), if_pos (by omega), show (284 + 8 * (k : Int) + 7).toNat = 284 + (8 * k + 7) by omega, ← j3]
      rw [j2] at this ⊢
      by_cases e : h.1 213 (284 + (8 * k + 7)) = x
      · rw [if_neg (fun g => g e)]
        by_cases e0 : h.1 213 (284 + (8 * k + 0)) = st
        · rw [if_pos ⟨e0, by decide⟩]
          rw [if_pos ⟨e0, e⟩, ← j3] at this
          exact this
        · rw [if_neg (c := _ ∧ _) (fun g => e0 g.1)]
          rw [if_neg (c := _ ∧ _) (fun g => e0 g.1), ← j3] at this
          exact this
      · rw [if_pos e, if_neg (show ¬ (h.1 213 (284 + (8 * k + 0)) = st ∧ ¬ (0 : Int) = 0) from fun g => g.2 rfl)]
        rw [if_neg (c := _ ∧ _) (fun g => e g.2), ← j3] at this
        exact this
end cnts
