/-! ===== calm ===== -/
def cv_ob (A : Nat → Int) : Nat → Int
  | 0 => 0
  | k + 1 => if A (14 + k) = 0 then qorl (cv_ob A k) (qshll 1 (k : Int)) else cv_ob A k
theorem cv_ob_64 (A : Nat → Int) : ∀ k, q64 (cv_ob A k) := by
  intro k
  induction k with
  | zero => exact ⟨by show (-9223372036854775808 : Int) ≤ 0; decide, by show (0 : Int) < 9223372036854775808; decide⟩
  | succ k ih =>
    rw [cv_ob]
    split
    · exact qorl_64 _ _
    · exact ih
section clm
variable {n : Int} {A : Nat → Int}
theorem c_ob_l {h : qH} (G : cG A) (r : cR h 5 A) {T : Nat} (hT : A 1 * A 2 = T) : ∀ (m k F : Nat), k + m = T → m < F → DX9_calm_l25 F (cv_ob A k) (k : Int) h = DX9_calm_l65 LF (cv_ob A T) 0 h := by
  have cc := G.cells
  intro m
  induction m with
  | zero =>
    intro k F hk hF
    obtain ⟨F, rfl⟩ : ∃ n, F = n + 1 := ⟨F - 1, by omega⟩
    rw [DX9_calm_l25.eq_2]
    unfold DX1_cells
    simp only [qbd_some]
    rw [r.1.1, r.1.2.1, qw_e (x := A 1 * A 2) (by omega) (by omega), if_pos (by omega), show k = T by omega]
  | succ m ih =>
    intro k F hk hF
    obtain ⟨F, rfl⟩ : ∃ n, F = n + 1 := ⟨F - 1, by omega⟩
    have K := ih (k + 1) F (by omega) (by omega)
    rw [cv_ob] at K
    rw [DX9_calm_l25.eq_2]
    unfold DX1_cells
    simp only [qbd_some]
    rw [r.1.1, r.1.2.1, qw_e (x := A 1 * A 2) (by omega) (by omega), if_neg (by omega), c_isOpen G r]
    simp only [qbd_some, qlt]
    rw [Int.toNat_natCast, qw_s (by omega)]
    by_cases o : A (14 + k) = 0
    · rw [if_pos (show 0 ≤ (k : Int) ∧ (k : Int) < A 1 * A 2 ∧ A (14 + k) = 0 from ⟨by omega, by omega, o⟩), if_neg (show ¬ (1 : Int) = 0 by decide)]
      rw [if_pos o] at K
      exact K
    · rw [if_neg (show ¬ (0 ≤ (k : Int) ∧ (k : Int) < A 1 * A 2 ∧ A (14 + k) = 0) from fun g => o g.2.2), if_pos rfl]
      rw [if_neg o] at K
      exact K
theorem m_ob_l {h : qH} (G : cG A) (q : sq A (h.1 213)) {T : Nat} (hT : A 1 * A 2 = T) : ∀ (m k F : Nat), k + m = T → m < F → DX10_openSea_l4 F (cv_ob A k) (k : Int) h = some (cv_ob A T, h) := by
  have cc := G.cells
  intro m
  induction m with
  | zero =>
    intro k F hk hF
    obtain ⟨F, rfl⟩ : ∃ n, F = n + 1 := ⟨F - 1, by omega⟩
    rw [DX10_openSea_l4.eq_2]
    unfold DX10_cells
    simp only [qbd_some]
    rw [q 1 (by omega), q 2 (by omega), qw_e (x := A 1 * A 2) (by omega) (by omega), if_pos (by omega), show k = T by omega]
  | succ m ih =>
    intro k F hk hF
    obtain ⟨F, rfl⟩ : ∃ n, F = n + 1 := ⟨F - 1, by omega⟩
    have K := ih (k + 1) F (by omega) (by omega)
    rw [cv_ob] at K
    rw [DX10_openSea_l4.eq_2]
    unfold DX10_cells
    simp only [qbd_some]
    rw [q 1 (by omega), q 2 (by omega), qw_e (x := A 1 * A 2) (by omega) (by omega), if_neg (by omega), m_isOpenA q G (by omega)]
    simp only [qbd_some, qlt]
    rw [Int.toNat_natCast, qw_s (by omega)]
    by_cases o : A (14 + k) = 0
    · rw [if_pos o, if_neg (show ¬ (1 : Int) = 0 by decide)]
      rw [if_pos o] at K
      exact K
    · rw [if_neg o, if_pos rfl, qorl_0 (cv_ob_64 A k)]
      rw [if_neg o] at K
      exact K
theorem c_ob {h : qH} (G : cG A) (r : cR h 5 A) : DX9_calm_l25 LF 0 0 h = DX9_calm_l65 LF (cv_ob A (A 1 * A 2).toNat) 0 h := by
  have cc := G.cells
  have K1 := c_ob_l (h := h) G r (T := (A 1 * A 2).toNat) (by omega) (A 1 * A 2).toNat 0 LF (by omega) (by unfold LF; omega)
  rw [z0, show cv_ob A 0 = 0 from rfl] at K1
  exact K1
theorem m_ob {h : qH} (G : cG A) (q : sq A (h.1 213)) : DX10_openSea h = some (cv_ob A (A 1 * A 2).toNat, h) := by
  have cc := G.cells
  have K2 := m_ob_l (h := h) G q (T := (A 1 * A 2).toNat) (by omega) (A 1 * A 2).toNat 0 LF (by omega) (by unfold LF; omega)
  rw [z0, show cv_ob A 0 = 0 from rfl] at K2
  exact K2
theorem c_tail {h : qH} {acc : Int} (hb : 0 ≤ h.1 24 1 ∧ h.1 24 1 ≤ 8) : ∀ (m k F : Nat), k + m = 8 → h.1 24 1 ≤ (k : Int) → m < F → DX9_calm_l65 F acc (k : Int) h = some (acc, h) := by
  intro m
  induction m with
  | zero =>
    intro k F hk h1 hF
    obtain ⟨F, rfl⟩ : ∃ n, F = n + 1 := ⟨F - 1, by omega⟩
    rw [DX9_calm_l65.eq_2, if_pos (by omega)]
  | succ m ih =>
    intro k F hk h1 hF
    obtain ⟨F, rfl⟩ : ∃ n, F = n + 1 := ⟨F - 1, by omega⟩
    rw [DX9_calm_l65.eq_2, if_neg (by omega), c_has hb]
    simp only [qbd_some]
    rw [if_neg (show ¬ (0 ≤ (k : Int) ∧ (k : Int) < h.1 24 1) by omega), if_pos rfl, qw_s (by omega)]
    exact ih (k + 1) F (by omega) (by omega) (by omega)
theorem t_cl_l {m : Int} (hn : n ≤ 512) (hm0 : 0 ≤ m ∧ m ≤ 60) {hc : qH} {T : Nat} : ∀ (j k Fc Fm : Nat) (acc : Int) (hm : qH), hm.1 213 348 = T → k + j = T → 8 - k < Fc → j < Fm → RR n A hc hm → (∀ b, b < 8 → hc.1 163 b = if (b : Int) < hm.1 213 348 then cv_tr A hm m b else 0) → Out n (DX9_calm_l65 Fc acc (k : Int) hc) (DX10_calm_l29 Fm m acc (k : Int) hm) := by
  intro j
  induction j with
  | zero =>
    intro k Fc Fm acc hm hT hk hFc hFm R H
    obtain ⟨Fm, rfl⟩ : ∃ n, Fm = n + 1 := ⟨Fm - 1, by omega⟩
    have th := R.thr
    rw [c_tail (by rw [th.2]; exact th.1) (8 - k) k Fc (by omega) (by omega) (by omega), DX10_calm_l29.eq_2, if_pos (by omega)]
    exact Out.of R rfl rfl
  | succ j ih =>
    intro k Fc Fm acc hm hT hk hFc hFm R H
    obtain ⟨Fc, rfl⟩ : ∃ n, Fc = n + 1 := ⟨Fc - 1, by omega⟩
    obtain ⟨Fm, rfl⟩ : ∃ n, Fm = n + 1 := ⟨Fm - 1, by omega⟩
    have th := R.thr
    have k8 : 0 ≤ (k : Int) ∧ (k : Int) < 8 := by omega
    rw [DX9_calm_l65.eq_2, if_neg (show ¬ 8 ≤ (k : Int) by omega), c_has (by rw [th.2]; exact th.1), th.2, DX10_calm_l29.eq_2, if_neg (show ¬ hm.1 213 348 ≤ (k : Int) by omega), qw_e (x := 8 * (k : Int)) (by omega) (by omega), qw_e (x := 284 + 8 * (k : Int)) (by omega) (by omega), if_pos (show 0 ≤ 284 + 8 * (k : Int) ∧ 284 + 8 * (k : Int) < 5736 by omega), show (284 + 8 * (k : Int)).toNat = 284 + (8 * k + 0) by omega]
    simp only [qbd_some, qlt]
    simp only [if_pos k8, Int.toNat_natCast]
    rw [if_pos (show 0 ≤ (k : Int) ∧ (k : Int) < hm.1 213 348 by omega), if_neg (show ¬ (1 : Int) = 0 by decide), R.bat (b := k) (k := 0) (by omega) (by decide), qw_s (by omega)]
    by_cases s : hm.1 213 (284 + (8 * k + 0)) = 0
    · rw [if_neg (show ¬ ¬ hm.1 213 (284 + (8 * k + 0)) = 0 from fun g => g s), if_neg (show ¬ ¬ hm.1 213 (284 + (8 * k + 0)) = 0 from fun g => g s)]
      obtain ⟨h1, e1, R1, a13⟩ := m_beenBy R hn (b := k) (m := m) (by omega) hm0
      rw [e1, H k (by omega), if_pos (show (k : Int) < hm.1 213 348 by omega)]
      simp only [qbd_some]
      refine ih (k + 1) Fc Fm _ h1 (by rw [a13]; exact hT) (by omega) (by omega) (by omega) R1 (fun b hb => ?_)
      rw [H b hb]
      unfold cv_tr
      rw [a13]
    · rw [if_pos s, if_pos s]
      exact ih (k + 1) Fc Fm _ hm hT (by omega) (by omega) (by omega) R H
theorem t_calm {hc hm : qH} (R : RR n A hc hm) (hn : n ≤ 512) (m : Int) : Out n (DX9_calm m hc) (DX10_calm m hm) := by
  have R1 := R.m0
  unfold DX9_calm DX10_calm
  simp only [qlt]
  generalize qu hm 212 0 0 = hm1 at R1
  have G := R1.1.1
  have cc := G.cells
  have th := R1.thr
  rw [m_within]
  simp only [qbd_some]
  by_cases m0 : 1 ≤ m ∧ m ≤ 60
  · rw [if_neg (show ¬ m < 1 by omega), if_pos m0.2, if_pos m0, if_pos (show ¬ (1 : Int) = 0 by decide)]
    obtain ⟨h1, e1, R2, H⟩ := c_followAll R1 hn (m := m) (by omega)
    have K3 := t_cl_l (m := m) hn (by omega) (hc := h1) (T := (hm1.1 213 348).toNat) (hm1.1 213 348).toNat 0 LF LF (cv_ob A (A 1 * A 2).toNat) hm1 (by omega) (by omega) (by unfold LF; omega) (by unfold LF; omega) R2 H
    rw [z0] at K3
    rw [e1, m_ob G R1.2.2.1.1, qbd_some, qbd_some, c_ob G R2.1.2.1]
    exact K3
  · rw [if_neg m0]
    by_cases p1 : m < 1
    · rw [if_pos p1]
      exact Out.of R1 rfl rfl
    · rw [if_neg p1, if_neg (show ¬ m ≤ 60 by omega)]
      exact Out.of R1 rfl rfl
end clm
