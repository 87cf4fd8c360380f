/-! ===== lists, deadly ===== -/
section lis
variable {n : Int} {A : Nat → Int}
theorem c_cut_i {i : Nat} {x : Int} (h : qH) (hx : -128 ≤ x ∧ x < 128) : DX6_cut i x h = some (x, h) := by
  unfold DX6_cut
  rw [qw_e (by omega) (by omega), qb8_i hx.1 hx.2, qs16_i (by omega) (by omega)]
  (repeat' split) <;> rfl
theorem cv_pl_r {A : Nat → Int} (G : cG A) {N : Int} {v : Nat → Int} (b : cB A N v) : -128 ≤ cv_pl v ∧ cv_pl v < 128 := by
  have b1 := b.2.1
  have cc := G.cells
  unfold cv_pl
  split <;> omega
/-- both write one number -/
theorem RR.put {hc hm : qH} {t k : Nat} {x : Int} (R : RR n A hc hm) (ht : t < 4) (hk : (k : Int) < hm.1 223 t) : RR n A (qu hc (169 + 2 * t) k x) (qu hm 224 (40 * t + k) x) := by
  have fc : fr (fun i y => i = 169 + 2 * t) hc (qu hc (169 + 2 * t) k x) := fr.mk (fun i y q => by rw [qu_1, if_neg (fun g => q g.1)]) rfl
  have fm : fr (fun i y => i = 224) hm (qu hm 224 (40 * t + k) x) := fr.mk (fun i y q => by rw [qu_1, if_neg (fun g => q g.1)]) rfl
  have y0 := (R.2.2.2.2.2.2.2.1 t ht).2.2.2.1
  refine R.trays (R.1.kq fc (fun i k a b => by omega) (fun k => by omega)) (R.2.1.cg (fc.fn (fun k => by omega)) (fc.2.2.1 (by omega))) fc (fun i k g => by omega) fm (fun i k g => by omega) ?_
  intro u hu
  have yu := R.2.2.2.2.2.2.2.1 u hu
  rw [qu_ne (j := 168 + 2 * u) (by omega), qu_ne (j := 222) (by decide), qu_ne (j := 223) (by decide)]
  refine ⟨yu.1, yu.2.1, yu.2.2.1, yu.2.2.2.1, fun j hj => ?_⟩
  have y5 := yu.2.2.2.1
  have y6 := yu.2.2.2.2 j hj
  rw [qu_1, qu_1, y6]
  by_cases eu : u = t ∧ j = k
  · rw [if_pos (by omega), if_pos (by omega)]
  · rw [if_neg (by omega), if_neg (by omega)]
theorem t_li_l {t : Nat} (ht : t < 4) (hn : n ≤ 512) : ∀ (m k Fc Fm : Nat) (N : Int) (v : Nat → Int) (hc hm : qH), (k : Int) + m = hm.1 223 t → m < Fc → m < Fm → RR n A hc hm → nb (hc.1 156) = v → nb (hm.1 217) = v → cB A N v → N + m < 1000000 → Out n (DX9_lists_l57 Fc (168 + 2 * t) (k : Int) hc) (DX10_lists_l49 Fm (t : Int) (k : Int) hm) := by
  intro m
  induction m with
  | zero =>
    intro k Fc Fm N v hc hm hk hFc hFm R v1 v2 b hN
    obtain ⟨Fc, rfl⟩ : ∃ n, Fc = n + 1 := ⟨Fc - 1, by omega⟩
    obtain ⟨Fm, rfl⟩ : ∃ n, Fm = n + 1 := ⟨Fm - 1, by omega⟩
    have yt := R.2.2.2.2.2.2.2.1 t ht
    have h4 : 0 ≤ (t : Int) ∧ (t : Int) < 4 := by omega
    rw [DX9_lists_l57.eq_2, DX10_lists_l49.eq_2, yt.2.1]
    simp only [if_pos h4, Int.toNat_natCast]
    rw [if_pos (by omega), if_pos (by omega)]
    exact Out.of R rfl rfl
  | succ m ih =>
    intro k Fc Fm N v hc hm hk hFc hFm R v1 v2 b hN
    obtain ⟨Fc, rfl⟩ : ∃ n, Fc = n + 1 := ⟨Fc - 1, by omega⟩
    obtain ⟨Fm, rfl⟩ : ∃ n, Fm = n + 1 := ⟨Fm - 1, by omega⟩
    have yt := R.2.2.2.2.2.2.2.1 t ht
    have y4 := yt.2.2.2.1
    have h4 : 0 ≤ (t : Int) ∧ (t : Int) < 4 := by omega
    have pr := cv_pl_r R.1.1 b
    have Rp := R.put (k := k) (x := cv_pl v) ht (by omega)
    have w1 : nb ((qu hc (169 + 2 * t) k (cv_pl v)).1 156) = v := by rw [qu_ne (by omega)]; exact v1
    have w2 : nb ((qu hm 224 (40 * t + k) (cv_pl v)).1 217) = v := by rw [qu_ne (by decide)]; exact v2
    have td := Rp.tid
    obtain ⟨h3, h4', e3, e4, R3, v3, v4⟩ := Rp.step (i := 156) (t := (qu hm 224 (40 * t + k) (cv_pl v)).1 213 349 + (k : Int)) (by omega) w1 w2 b (by omega) (by omega) (by omega)
    have f4 := F_DX10_goesTide _ _ _ _ _ e4
    have s3 : h4'.1 223 t = hm.1 223 t := by rw [f4.at 223 t (by omega), qu_ne (by decide)]
    rw [DX9_lists_l57.eq_2, DX10_lists_l49.eq_2, yt.2.1]
    simp only [if_pos h4, Int.toNat_natCast]
    rw [if_neg (show ¬ hm.1 223 t ≤ (k : Int) by omega), if_neg (show ¬ hm.1 223 t ≤ (k : Int) by omega), c_place v1, m_here v2]
    simp only [qbd_some]
    unfold DX6_put
    rw [if_neg (show ¬ (k : Int) < 0 by omega), if_neg (show ¬ 40 ≤ (k : Int) by omega), c_cut_i _ pr]
    simp only [qbd_some, qlt]
    rw [if_pos (show 0 ≤ (k : Int) ∧ (k : Int) < 40 by omega)]
    simp only [qbd_some]
    rw [Int.toNat_natCast, qw_e (x := 40 * (t : Int)) (by omega) (by omega), qw_e (x := 40 * (t : Int) + (k : Int)) (by omega) (by omega), if_pos (show 0 ≤ 40 * (t : Int) + (k : Int) ∧ 40 * (t : Int) + (k : Int) < 160 by omega), show (40 * (t : Int) + (k : Int)).toNat = 40 * t + k by omega, show 168 + 2 * t + 1 = 169 + 2 * t by omega, td.2, qw_e (x := (qu hm 224 (40 * t + k) (cv_pl v)).1 213 349 + (k : Int)) (by omega) (by omega), e3, e4, qw_s (by omega)]
    simp only [qbd_some]
    exact ih (k + 1) Fc Fm (N + 1) _ h3 h4' (by omega) (by omega) (by omega) R3 v3 v4 (cB_tide R.1.1 b) (by omega)
theorem t_lists {hc hm : qH} (R : RR n A hc hm) (hn : n ≤ 512) (a b : Int) : Out n (DX9_lists a b hc) (DX10_lists a b hm) := by
  have R1 := R.m0
  unfold DX9_lists DX10_lists
  simp only [qlt]
  generalize qu hm 212 0 0 = hm1 at R1
  have th := R1.thr
  have td := R1.tid
  rw [c_isTray, m_within]
  simp only [qbd_some]
  by_cases k0 : 0 ≤ a ∧ a < 4
  · rw [if_pos k0, if_pos (show 0 ≤ a ∧ a ≤ 3 by omega), if_neg (show ¬ (1 : Int) = 0 by decide), if_neg (show ¬ (1 : Int) = 0 by decide), c_has (by rw [th.2]; exact th.1), m_isBottleA th.1, th.2]
    simp only [qbd_some]
    by_cases k : 0 ≤ b ∧ b < hm1.1 213 348
    · have yt := R1.2.2.2.2.2.2.2.1 a.toNat (by omega)
      rw [if_pos k, if_pos (show ¬ (1 : Int) = 0 by decide), if_pos (show ¬ (1 : Int) = 0 by decide), if_pos k0, c_missing, m_noTray, if_pos k0, yt.1]
      simp only [qbd_some]
      by_cases km : hm1.1 222 a.toNat = -1
      · rw [if_pos km, if_pos km]
        exact Out.of R1 rfl rfl
      · rw [if_neg km, if_neg km, if_pos rfl, if_pos rfl, if_pos (show 0 ≤ b ∧ b < 8 by omega)]
        obtain ⟨h1, h2, v, e1, e2, R2, v1, v2, bv, _, _⟩ := R1.pick k
        have f2 := F_DX10_loads _ _ _ _ e2
        have s3 : h2.1 223 a.toNat = hm1.1 223 a.toNat := f2.at 223 a.toNat (by omega)
        have y4 := yt.2.2.2.1
        rw [e1, e2]
        simp only [qbd_some]
        have K := t_li_l (t := a.toNat) (by omega) hn (hm1.1 223 a.toNat).toNat 0 LF LF _ v h1 h2 (by omega) (by unfold LF; omega) (by unfold LF; omega) R2 v1 v2 bv (by omega)
        rw [z0, show ((a.toNat : Nat) : Int) = a by omega] at K
        exact K
    · rw [if_neg k]
      exact Out.of R1 rfl rfl
  · rw [if_neg k0, if_neg (show ¬ (0 ≤ a ∧ a ≤ 3) by omega)]
    exact Out.of R1 rfl rfl
/-- both think of a bottle thrown -/
theorem RR.throw {hc hm : qH} {f to hv k : Int} {i : Nat} (R : RR n A hc hm) (hi : 156 ≤ i ∧ i ≤ 166) (hh : hv = 0 ∨ hv = 1) : ∃ hc' hm', DX0_launch i f to hv k hc = some (0, hc') ∧ DX10_isThrown f to hv k hm = some (0, hm') ∧ RR n A hc' hm' ∧ nb (hc'.1 i) = cv_new f to hv k ∧ nb (hm'.1 217) = cv_new f to hv k := by
  obtain ⟨h1, e1, v1⟩ := c_launch (f := f) (to := to) (hv := hv) (k := k) (i := i) hh hc
  obtain ⟨h2, e2, v2⟩ := m_thrown (f := f) (to := to) (a3 := hv) (k := k) hm
  rw [show (if hv = 0 then (0 : Int) else 1) = hv by split <;> omega] at v2
  have f1 := F_DX0_launch _ _ _ _ _ _ _ _ e1
  have f2 := F_DX10_isThrown _ _ _ _ _ _ _ e2
  exact ⟨h1, h2, e1, e2, R.keep (R.1.kq f1 (fun j k a b => by omega) (fun k => by omega)) (R.2.1.cg (f1.fn (fun k => by omega)) (f1.2.2.1 (by omega))) f1 (fun i k g => by omega) f2 (fun i k g => by omega), v1, v2⟩
theorem t_de_l {a1 : Int} (ha : a1 = 0 ∨ a1 = 1) (hn : n ≤ 512) {T : Nat} (hT : A 1 * A 2 = T) : ∀ (m k Fc Fm : Nat) (acc : Int) (hc hm : qH), k + m = T → m < Fc → m < Fm → RR n A hc hm → Out n (DX9_deadly_l5 Fc a1 acc (k : Int) hc) (DX10_deadly_l10 Fm a1 acc (k : Int) hm) := by
  intro m
  induction m with
  | zero =>
    intro k Fc Fm acc hc hm hk hFc hFm R
    obtain ⟨Fc, rfl⟩ : ∃ n, Fc = n + 1 := ⟨Fc - 1, by omega⟩
    obtain ⟨Fm, rfl⟩ : ∃ n, Fm = n + 1 := ⟨Fm - 1, by omega⟩
    have cc := R.1.1.cells
    have r := R.1.2.1
    have q := R.2.2.1.1
    rw [DX9_deadly_l5.eq_2, DX10_deadly_l10.eq_2]
    unfold DX1_cells DX10_cells
    simp only [qbd_some]
    rw [r.1.1, r.1.2.1, q 1 (by omega), q 2 (by omega), qw_e (x := A 1 * A 2) (by omega) (by omega), if_pos (by omega), if_pos (by omega)]
    exact Out.of R rfl rfl
  | succ m ih =>
    intro k Fc Fm acc hc hm hk hFc hFm R
    obtain ⟨Fc, rfl⟩ : ∃ n, Fc = n + 1 := ⟨Fc - 1, by omega⟩
    obtain ⟨Fm, rfl⟩ : ∃ n, Fm = n + 1 := ⟨Fm - 1, by omega⟩
    have G := R.1.1
    have cc := G.cells
    have r := R.1.2.1
    have q := R.2.2.1.1
    rw [DX9_deadly_l5.eq_2, DX10_deadly_l10.eq_2]
    unfold DX1_cells DX10_cells
    simp only [qbd_some]
    rw [r.1.1, r.1.2.1, q 1 (by omega), q 2 (by omega), qw_e (x := A 1 * A 2) (by omega) (by omega), if_neg (show ¬ A 1 * A 2 ≤ (k : Int) by omega), if_neg (show ¬ A 1 * A 2 ≤ (k : Int) by omega), c_isOpen G r, m_isOpenA q G (by omega)]
    simp only [qbd_some]
    rw [Int.toNat_natCast, qw_s (by omega)]
    by_cases o : A (14 + k) = 0
    · rw [if_pos (show 0 ≤ (k : Int) ∧ (k : Int) < A 1 * A 2 ∧ A (14 + k) = 0 from ⟨by omega, by omega, o⟩), if_pos o, if_neg (show ¬ (1 : Int) = 0 by decide), if_pos (show ¬ (1 : Int) = 0 by decide)]
      obtain ⟨h1, h2, e1, e2, R2, v1, v2⟩ := R.throw (f := -1) (to := -1) (hv := a1) (k := (k : Int)) (i := 156) (by omega) ha
      have td := R2.tid
      have bv : cB A 0 (cv_new (-1) (-1) a1 (k : Int)) := cB_new ⟨by omega, by omega⟩ (by rw [Int.toNat_natCast]; exact o) (by decide) (by decide) ha
      rw [e1, e2]
      simp only [qbd_some]
      obtain ⟨h3, e3, v3, E3⟩ := c_settle (i := 156) (t := h2.1 213 349) (Or.inr (by omega)) (by omega) (by omega) R2.1 v1 bv (by omega)
      obtain ⟨h4, e4, v4⟩ := m_ends (h := h2) (e := -1) (t := h2.1 213 349) R2.1.1 (by omega) (by omega) R2.2.2.1.1 R2.2.2.1.2 v2 bv (by omega)
      have f3 := F_DX2_settle _ _ _ _ _ e3
      have f4 := F_DX10_endsIn _ _ _ _ _ e4
      rw [td.2, e3, e4]
      simp only [qbd_some]
      have R3 : RR n A h3 h4 := R2.keep E3 (R2.2.1.cg (f3.fn (fun k => by omega)) (f3.2.2.1 (by omega))) f3 (fun i k g => by omega) f4 (fun i k g => by omega)
      have c0 : h3.1 156 0 = h4.1 217 0 := by
        have := congrFun (v3.trans v4.symm) 0
        rw [nb_at _ (by decide), nb_at _ (by decide)] at this
        exact this
      rw [c0]
      by_cases s3 : h4.1 217 0 = 3
      · rw [if_neg (fun g => g s3), if_neg (fun g => g s3)]
        exact ih (k + 1) Fc Fm _ h3 h4 (by omega) (by omega) (by omega) R3
      · rw [if_pos s3, if_pos s3]
        exact ih (k + 1) Fc Fm _ h3 h4 (by omega) (by omega) (by omega) R3
    · rw [if_neg (show ¬ (0 ≤ (k : Int) ∧ (k : Int) < A 1 * A 2 ∧ A (14 + k) = 0) from fun g => o g.2.2), if_neg o, if_pos rfl, if_neg (show ¬ ¬ (0 : Int) = 0 by decide)]
      exact ih (k + 1) Fc Fm _ hc hm (by omega) (by omega) (by omega) R
theorem t_deadly {hc hm : qH} (R : RR n A hc hm) (hn : n ≤ 512) {a1 : Int} (ha : a1 = 0 ∨ a1 = 1) : Out n (DX9_deadly a1 hc) (DX10_deadly a1 hm) := by
  have R1 := R.m0
  have cc := R1.1.1.cells
  unfold DX9_deadly DX10_deadly
  simp only [qlt]
  have K := t_de_l ha hn (T := (A 1 * A 2).toNat) (by omega) (A 1 * A 2).toNat 0 LF LF 0 hc (qu hm 212 0 0) (by omega) (by unfold LF; omega) (by unfold LF; omega) R1
  rw [z0] at K
  exact K
end lis
