/-! ===== catches, net, calm ===== -/
theorem qor_tab : (List.range 8).all (fun n => (List.range (2 ^ n)).all (fun a => decide (qor (a : Int) (qshl 1 (n : Int)) = ((a + 2 ^ n : Nat) : Int)))) = true := by decide +kernel
theorem cv_bs_b (p : Nat → Bool) : ∀ n, n ≤ 8 → ∃ a : Nat, cv_bs p n = (a : Int) ∧ a < 2 ^ n := by
  intro n
  induction n with
  | zero => intro _; exact ⟨0, rfl, by decide⟩
  | succ n ih =>
    intro h
    obtain ⟨a, e, ha⟩ := ih (by omega)
    rw [cv_bs]
    split
    · have h1 := List.all_eq_true.mp qor_tab n (List.mem_range.mpr (by omega))
      have h2 := of_decide_eq_true (List.all_eq_true.mp h1 a (List.mem_range.mpr ha))
      rw [e, h2]
      exact ⟨a + 2 ^ n, rfl, by rw [Nat.pow_succ]; omega⟩
    · exact ⟨a, e, by rw [Nat.pow_succ]; omega⟩
theorem cv_bs_ext {p : Nat → Bool} {t : Nat} : ∀ m, t ≤ m → (∀ b, t ≤ b → b < m → p b = false) → cv_bs p m = cv_bs p t := by
  intro m
  induction m with
  | zero => intro h _; rw [show t = 0 by omega]
  | succ m ih =>
    intro h g
    by_cases e : t = m + 1
    · rw [e]
    · rw [cv_bs, g m (by omega) (by omega), if_neg (by decide)]
      exact ih (by omega) (fun b h1 h2 => g b h1 (by omega))
def bcnt (a0 : Int) : Int :=
  let v1 := qw (a0 - qand (qush a0 1) 1431655765)
  let v2 := qw (qand v1 858993459 + qand (qush v1 2) 858993459)
  let v3 := qand (qw (v2 + qush v2 4)) 252645135
  let v4 := qw (v3 + qush v3 8)
  let v5 := qw (v4 + qush v4 16)
  qand v5 63
def bsum (a : Int) : Nat → Int
  | 0 => 0
  | n + 1 => qw (bsum a n + qand (qshr a (n : Int)) 1)
theorem bc_tab : (List.range 256).all (fun a => decide (bcnt (a : Int) = bsum (a : Int) 8)) = true := by decide +kernel
theorem c_bitCount (a : Int) (h : qH) : DJ6_bitCount_0f7a4 a h = some (bcnt a, h) := rfl
theorem m_bits_l (a : Int) : ∀ (m k F : Nat) (h : qH), k + m = 8 → m < F → DX10_bitsOf_l4 F a (bsum a k) (k : Int) h = some (bsum a 8, h) := by
  intro m
  induction m with
  | zero =>
    intro k F h hk hF
    obtain ⟨F, rfl⟩ : ∃ n, F = n + 1 := ⟨F - 1, by omega⟩
    rw [DX10_bitsOf_l4.eq_2, if_pos (by omega), show k = 8 by omega]
  | succ m ih =>
    intro k F h hk hF
    obtain ⟨F, rfl⟩ : ∃ n, F = n + 1 := ⟨F - 1, by omega⟩
    rw [DX10_bitsOf_l4.eq_2, if_neg (by omega), qw_s (by omega)]
    exact ih (k + 1) F h (by omega) (by omega)
theorem m_bits (a : Int) (h : qH) : DX10_bitsOf a h = some (bsum a 8, h) := by
  have K := m_bits_l a 8 0 LF h rfl (by unfold LF; omega)
  rw [z0] at K
  exact K
section nt2
variable {n : Int} {A : Nat → Int}
theorem c_ca_l {h : qH} {c : Int} (hc0 : 0 ≤ c ∧ c < 64) (h64 : ∀ b, b < 8 → q64 (h.1 163 b)) : ∀ (m k F : Nat), k + m = 8 → m < F → DX9_caughtOn_l4 F c (cv_bs (fun b => decide (qbit (h.1 163 b) c = 1)) k) (k : Int) h = some (cv_bs (fun b => decide (qbit (h.1 163 b) c = 1)) 8, h) := by
  intro m
  induction m with
  | zero =>
    intro k F hk hF
    obtain ⟨F, rfl⟩ : ∃ n, F = n + 1 := ⟨F - 1, by omega⟩
    rw [DX9_caughtOn_l4.eq_2, if_pos (by omega), show k = 8 by omega]
  | succ m ih =>
    intro k F hk hF
    obtain ⟨F, rfl⟩ : ∃ n, F = n + 1 := ⟨F - 1, by omega⟩
    have K := ih (k + 1) F (by omega) (by omega)
    rw [cv_bs] at K
    simp only [decide_eq_true_eq] at K
    rw [DX9_caughtOn_l4.eq_2, if_neg (by omega), if_pos (by omega), Int.toNat_natCast, qbit_l (h64 k (by omega)) hc0.1 hc0.2, qw_s (by omega)]
    simp only [qcmp_z, qlt]
    rcases qbit_01 (h.1 163 k) c with e | e
    · rw [if_pos e]
      rw [if_neg (by omega)] at K
      exact K
    · rw [if_neg (by omega)]
      rw [if_pos e] at K
      exact K
theorem m_ca_l {c m : Int} (hn : n ≤ 512) (hc0 : 0 ≤ c ∧ c < 64) (hm0 : 0 ≤ m ∧ m ≤ 60) {hm0' : qH} {hc : qH} {T : Nat} (hT : hm0'.1 213 348 = T) : ∀ (j k F : Nat) (hm : qH), k + j = T → j < F → RR n A hc hm → hm.1 213 = hm0'.1 213 →
    ∃ hm', DX10_catchOf_l5 F c m (cv_bs (fun b => decide (qbit (cv_tr A hm0' m b) c = 1)) k) (k : Int) hm = some (cv_bs (fun b => decide (qbit (cv_tr A hm0' m b) c = 1)) T, hm') ∧ RR n A hc hm' ∧ hm'.1 213 = hm0'.1 213 := by
  intro j
  induction j with
  | zero =>
    intro k F hm hk hF R e13
    obtain ⟨F, rfl⟩ : ∃ n, F = n + 1 := ⟨F - 1, by omega⟩
    rw [DX10_catchOf_l5.eq_2, e13, if_pos (by omega), show k = T by omega]
    exact ⟨hm, rfl, R, e13⟩
  | succ j ih =>
    intro k F hm hk hF R e13
    obtain ⟨F, rfl⟩ : ∃ n, F = n + 1 := ⟨F - 1, by omega⟩
    have th := R.thr
    rw [e13] at th
    obtain ⟨h1, e1, R1, a13⟩ := m_beenBy R hn (b := k) (m := m) (by rw [e13]; omega) hm0
    have et : cv_tr A hm m k = cv_tr A hm0' m k := by unfold cv_tr; rw [e13]
    have e64 : q64 (cv_tr A hm0' m k) := cv_been_64 _ _ _ _ ⟨by decide, by decide⟩
    obtain ⟨a, ea, _⟩ := cv_bs_b (fun b => decide (qbit (cv_tr A hm0' m b) c = 1)) k (by omega)
    obtain ⟨h2, K⟩ := ih (k + 1) F h1 (by omega) (by omega) R1 (by rw [a13, e13])
    rw [cv_bs] at K
    simp only [decide_eq_true_eq] at K
    rw [DX10_catchOf_l5.eq_2, e13, if_neg (by omega), e1, et]
    simp only [qbd_some]
    rw [m_isIn e64 hc0.1 hc0.2]
    simp only [qbd_some, qlt]
    rw [qw_s (by omega)]
    have hx : q32 (cv_bs (fun b => decide (qbit (cv_tr A hm0' m b) c = 1)) k) := by
      cases k with
      | zero => exact ⟨by show (-2147483648 : Int) ≤ 0; decide, by show (0 : Int) < 2147483648; decide⟩
      | succ k =>
        obtain ⟨a, ea, ha⟩ := cv_bs_b (fun b => decide (qbit (cv_tr A hm0' m b) c = 1)) (k + 1) (by omega)
        have : 2 ^ (k + 1) ≤ 2 ^ 8 := Nat.pow_le_pow_right (by decide) (by omega)
        rw [ea]
        exact ⟨by omega, by omega⟩
    rcases qbit_01 (cv_tr A hm0' m k) c with e | e
    · rw [if_pos e, qor_0 hx]
      rw [if_neg (by omega)] at K
      exact ⟨h2, K⟩
    · rw [if_neg (by omega)]
      rw [if_pos e] at K
      exact ⟨h2, K⟩
/-- both count who comes by a cell -/
theorem RR.caught {hc hm : qH} {c m : Int} (R : RR n A hc hm) (hn : n ≤ 512) (hc0 : 0 ≤ c ∧ c < 64) (hm0 : 0 ≤ m ∧ m ≤ 60) (H : ∀ b, b < 8 → hc.1 163 b = if (b : Int) < hm.1 213 348 then cv_tr A hm m b else 0) :
    ∃ x hm', DX9_caughtOn c hc = some (x, hc) ∧ DX10_catchOf c m hm = some (x, hm') ∧ RR n A hc hm' ∧ hm'.1 213 = hm.1 213 ∧ ∃ a : Nat, x = (a : Int) ∧ a < 256 := by
  have th := R.thr
  have h64 : ∀ b, b < 8 → q64 (hc.1 163 b) := by
    intro b hb
    rw [H b hb]
    split
    · exact cv_been_64 _ _ _ _ ⟨by decide, by decide⟩
    · exact ⟨by decide, by decide⟩
  have K1 := c_ca_l (h := hc) hc0 h64 8 0 LF rfl (by unfold LF; omega)
  obtain ⟨hm', K2, R2, a13⟩ := m_ca_l (A := A) (hm0' := hm) (T := (hm.1 213 348).toNat) hn hc0 hm0 (by omega) (hm.1 213 348).toNat 0 LF hm (by omega) (by unfold LF; omega) R rfl
  rw [z0] at K1 K2
  have eq : cv_bs (fun b => decide (qbit (hc.1 163 b) c = 1)) 8 = cv_bs (fun b => decide (qbit (cv_tr A hm m b) c = 1)) (hm.1 213 348).toNat := by
    rw [cv_bs_ext (t := (hm.1 213 348).toNat) 8 (by omega) (fun b h1 h2 => by
      rw [H b h2, if_neg (by omega)]
      unfold qbit
      simp)]
    refine cv_bs_c _ (fun b hb => ?_)
    rw [H b (by omega), if_pos (by omega)]
  obtain ⟨a, ea, ha⟩ := cv_bs_b (fun b => decide (qbit (hc.1 163 b) c = 1)) 8 (by omega)
  refine ⟨_, hm', K1, ?_, R2, a13, a, ea, ha⟩
  rw [eq]
  exact K2
theorem t_catches {hc hm : qH} (R : RR n A hc hm) (hn : n ≤ 512) (c m : Int) : Out n (DX9_catches c m hc) (DX10_catches c m hm) := by
  have R1 := R.m0
  unfold DX9_catches DX10_catches
  simp only [qlt]
  generalize qu hm 212 0 0 = hm1 at R1
  have G := R1.1.1
  have r := R1.1.2.1
  have q := R1.2.2.1.1
  have cc := G.cells
  rw [c_isCell G r, m_isCellA q G]
  simp only [qbd_some]
  by_cases k0 : 0 ≤ c ∧ c < A 1 * A 2
  · rw [if_pos k0, if_pos (show ¬ (1 : Int) = 0 by decide), if_pos (show ¬ (1 : Int) = 0 by decide), m_within]
    simp only [qbd_some]
    by_cases m0 : 1 ≤ m ∧ m ≤ 60
    · rw [if_neg (show ¬ m < 1 by omega), if_pos m0.2, if_pos m0, if_pos (show ¬ (1 : Int) = 0 by decide), c_isOpen G r, m_isOpenA q G k0]
      simp only [qbd_some]
      by_cases o : A (14 + c.toNat) = 0
      · rw [if_pos (show 0 ≤ c ∧ c < A 1 * A 2 ∧ A (14 + c.toNat) = 0 from ⟨k0.1, k0.2, o⟩), if_pos o, if_pos (show ¬ (1 : Int) = 0 by decide), if_neg (show ¬ (1 : Int) = 0 by decide)]
        obtain ⟨h1, e1, R2, H⟩ := c_followAll R1 hn (m := m) (by omega)
        rw [e1]
        simp only [qbd_some]
        obtain ⟨x, h2, e3, e4, R3, _, _⟩ := R2.caught (c := c) (m := m) hn (by omega) (by omega) H
        rw [e3, e4]
        simp only [qbd_some]
        exact Out.of R3 rfl rfl
      · rw [if_neg (show ¬ (0 ≤ c ∧ c < A 1 * A 2 ∧ A (14 + c.toNat) = 0) from fun g => o g.2.2), if_neg o]
        exact Out.of R1 rfl rfl
    · rw [if_neg m0]
      by_cases p1 : m < 1
      · rw [if_pos p1]
        exact Out.of R1 rfl rfl
      · rw [if_neg p1, if_neg (show ¬ m ≤ 60 by omega)]
        exact Out.of R1 rfl rfl
  · rw [if_neg k0]
    exact Out.of R1 rfl rfl
theorem t_net_l {m a2 : Int} (hn : n ≤ 512) (hm0 : 0 ≤ m ∧ m ≤ 60) {T : Nat} (hT : A 1 * A 2 = T) {hc : qH} : ∀ (j k Fc Fm : Nat) (best most : Int) (hm : qH), k + j = T → j < Fc → j < Fm → RR n A hc hm → (∀ b, b < 8 → hc.1 163 b = if (b : Int) < hm.1 213 348 then cv_tr A hm m b else 0) → Out n (DX9_net_l39 Fc a2 best most (k : Int) hc) (DX10_net_l41 Fm m a2 best most (k : Int) hm) := by
  intro j
  induction j with
  | zero =>
    intro k Fc Fm best most hm hk hFc hFm R H
    obtain ⟨Fc, rfl⟩ : ∃ n, Fc = n + 1 := ⟨Fc - 1, by omega⟩
    obtain ⟨Fm, rfl⟩ : ∃ n, Fm = n + 1 := ⟨Fm - 1, by omega⟩
    have cc := R.1.1.cells
    rw [DX9_net_l39.eq_2, DX10_net_l41.eq_2]
    unfold DX1_cells DX10_cells
    simp only [qbd_some]
    rw [R.1.2.1.1.1, R.1.2.1.1.2.1, R.2.2.1.1 1 (by omega), R.2.2.1.1 2 (by omega), qw_e (x := A 1 * A 2) (by omega) (by omega), if_pos (show A 1 * A 2 ≤ (k : Int) by omega), if_pos (show A 1 * A 2 ≤ (k : Int) by omega)]
    by_cases a : a2 = 0
    · rw [if_neg (show ¬ ¬ a2 = 0 from fun g => g a), if_neg (show ¬ ¬ a2 = 0 from fun g => g a)]
      exact Out.of R rfl rfl
    · rw [if_pos a, if_pos a]
      exact Out.of R rfl rfl
  | succ j ih =>
    intro k Fc Fm best most hm hk hFc hFm R H
    obtain ⟨Fc, rfl⟩ : ∃ n, Fc = n + 1 := ⟨Fc - 1, by omega⟩
    obtain ⟨Fm, rfl⟩ : ∃ n, Fm = n + 1 := ⟨Fm - 1, by omega⟩
    have G := R.1.1
    have cc := G.cells
    have r := R.1.2.1
    have q := R.2.2.1.1
    rw [DX9_net_l39.eq_2, DX10_net_l41.eq_2]
    unfold DX1_cells DX10_cells
    simp only [qbd_some]
    rw [r.1.1, r.1.2.1, q 1 (by omega), q 2 (by omega), qw_e (x := A 1 * A 2) (by omega) (by omega), if_neg (show ¬ A 1 * A 2 ≤ (k : Int) by omega), if_neg (show ¬ A 1 * A 2 ≤ (k : Int) by omega), c_isOpen G r, m_isOpenA q G (by omega)]
    simp only [qbd_some]
    rw [Int.toNat_natCast]
    have fin : ∀ (x : Int) (hm' : qH), RR n A hc hm' → hm'.1 213 = hm.1 213 → Out n (DX9_net_b76 (DX9_net_l39 Fc) a2 best most (k : Int) x hc) (DX10_net_b73 (DX10_net_l41 Fm) m a2 best most (k : Int) x hm') := by
      intro x hm' R' e13
      have H' : ∀ b, b < 8 → hc.1 163 b = if (b : Int) < hm'.1 213 348 then cv_tr A hm' m b else 0 := by
        intro b hb
        rw [H b hb]
        unfold cv_tr
        rw [e13]
      unfold DX9_net_b76 DX10_net_b73
      rw [qw_s (by omega)]
      by_cases g : x ≤ most
      · rw [if_pos g, if_neg (by omega)]
        exact ih (k + 1) Fc Fm _ _ hm' (by omega) (by omega) (by omega) R' H'
      · rw [if_neg g, if_pos (by omega)]
        exact ih (k + 1) Fc Fm _ _ hm' (by omega) (by omega) (by omega) R' H'
    by_cases o : A (14 + k) = 0
    · rw [if_pos (show 0 ≤ (k : Int) ∧ (k : Int) < A 1 * A 2 ∧ A (14 + k) = 0 from ⟨by omega, by omega, o⟩), if_pos o, if_neg (show ¬ (1 : Int) = 0 by decide), if_neg (show ¬ (1 : Int) = 0 by decide)]
      obtain ⟨x, h2, e3, e4, R3, a13, a, ea, ha⟩ := R.caught (c := (k : Int)) (m := m) hn (by omega) hm0 H
      rw [e3, e4]
      simp only [qbd_some]
      rw [c_bitCount, m_bits]
      simp only [qbd_some]
      have hb := of_decide_eq_true (List.all_eq_true.mp bc_tab a (List.mem_range.mpr ha))
      rw [ea, hb]
      exact fin _ h2 R3 a13
    · rw [if_neg (show ¬ (0 ≤ (k : Int) ∧ (k : Int) < A 1 * A 2 ∧ A (14 + k) = 0) from fun g => o g.2.2), if_neg o, if_pos rfl, if_pos rfl]
      exact fin _ hm R rfl
theorem t_net {hc hm : qH} (R : RR n A hc hm) (hn : n ≤ 512) (m w : Int) : Out n (DX9_net m w hc) (DX10_net m w hm) := by
  have R1 := R.m0
  unfold DX9_net DX10_net
  simp only [qlt]
  generalize qu hm 212 0 0 = hm1 at R1
  have cc := R1.1.1.cells
  rw [m_within]
  simp only [qbd_some]
  by_cases w0 : 0 ≤ w ∧ w ≤ 1
  · rw [if_neg (show ¬ w < 0 by omega), if_pos w0.2, if_pos w0, if_pos (show ¬ (1 : Int) = 0 by decide), m_within]
    simp only [qbd_some]
    by_cases m0 : 1 ≤ m ∧ m ≤ 60
    · rw [if_neg (show ¬ m < 1 by omega), if_pos m0.2, if_pos m0, if_pos (show ¬ (1 : Int) = 0 by decide)]
      obtain ⟨h1, e1, R2, H⟩ := c_followAll R1 hn (m := m) (by omega)
      rw [e1]
      simp only [qbd_some]
      have K := t_net_l (a2 := w) hn (m := m) (by omega) (T := (A 1 * A 2).toNat) (by omega) (hc := h1) (A 1 * A 2).toNat 0 LF LF (-1) (-1) hm1 (by omega) (by unfold LF; omega) (by unfold LF; omega) R2 H
      rw [z0] at K
      exact K
    · rw [if_neg m0]
      by_cases p1 : m < 1
      · rw [if_pos p1]
        exact Out.of R1 rfl rfl
      · rw [if_neg p1, if_neg (show ¬ m ≤ 60 by omega)]
        exact Out.of R1 rfl rfl
  · rw [if_neg w0]
    by_cases p1 : w < 0
    · rw [if_pos p1]
      exact Out.of R1 rfl rfl
    · rw [if_neg p1, if_neg (show ¬ w ≤ 1 by omega)]
      exact Out.of R1 rfl rfl
end nt2
