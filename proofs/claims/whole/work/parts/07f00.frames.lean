/-! ===== frames, printed by wip/whole/gen/gen_frames.py ===== -/
theorem F_DJ7_fill_031fb_l5   : ∀ (n : Nat) (i0 : Nat) (n0 : Nat) (a1 : Int) (a2 : Int) (a3 : Int) (h : qH), Fp (fun (i k : Nat) => i = i0) h (DJ7_fill_031fb_l5  n i0 n0 a1 a2 a3 h) := by
  intro n
  induction n with
  | zero =>
    intro i0 n0 a1 a2 a3 h
    exact Fp_none
  | succ n ih =>
    intro i0 n0 a1 a2 a3 h
    rw [DJ7_fill_031fb_l5.eq_2]
    refine Fp_ite (fun gc => ?_) (fun gc => ?_)
    · exact Fp_some
    · refine Fp_ite (fun gc => ?_) (fun gc => ?_)
      · refine Fp_qu (by first | omega | (simp only []; omega)) (fun h1 => ?_)
        exact (ih i0 n0 a1 (qw (a2 + 1)) a3 h1)
      · exact Fp_none
theorem F_DJ7_fill_031fb  (i0 : Nat) (n0 : Nat) (a1 : Int) (h : qH)  : Fp (fun (i k : Nat) => i = i0) h (DJ7_fill_031fb i0 n0 a1 h) := by
  unfold DJ7_fill_031fb
  exact (F_DJ7_fill_031fb_l5 LF i0 n0 a1 0 (n0 : Int) h)
theorem F_DJ7_fill_fb410_l5   : ∀ (n : Nat) (i0 : Nat) (n0 : Nat) (a1 : Int) (a2 : Int) (a3 : Int) (h : qH), Fp (fun (i k : Nat) => i = i0) h (DJ7_fill_fb410_l5  n i0 n0 a1 a2 a3 h) := by
  intro n
  induction n with
  | zero =>
    intro i0 n0 a1 a2 a3 h
    exact Fp_none
  | succ n ih =>
    intro i0 n0 a1 a2 a3 h
    rw [DJ7_fill_fb410_l5.eq_2]
    refine Fp_ite (fun gc => ?_) (fun gc => ?_)
    · exact Fp_some
    · refine Fp_ite (fun gc => ?_) (fun gc => ?_)
      · refine Fp_qu (by first | omega | (simp only []; omega)) (fun h1 => ?_)
        exact (ih i0 n0 a1 (qw (a2 + 1)) a3 h1)
      · exact Fp_none
theorem F_DJ7_fill_fb410  (i0 : Nat) (n0 : Nat) (a1 : Int) (h : qH)  : Fp (fun (i k : Nat) => i = i0) h (DJ7_fill_fb410 i0 n0 a1 h) := by
  unfold DJ7_fill_fb410
  exact (F_DJ7_fill_fb410_l5 LF i0 n0 a1 0 (n0 : Int) h)
theorem F_DX2_forget_b15  (h : qH)  : Fp (fun (i k : Nat) => (225 ≤ i ∧ i ≤ 226)) h (DX2_forget_b15 h) := by
  unfold DX2_forget_b15
  refine Fp_ite (fun gc => ?_) (fun gc => ?_)
  · refine Fp_ite (fun gc => ?_) (fun gc => ?_)
    · refine Fp_bd ((F_DJ7_fill_fb410 226 12960 0 h).mono (fun i k g => by omega)) (fun r1 h2 => ?_)
      exact Fp_some
    · exact Fp_none
  · exact Fp_some
theorem F_DX2_forget  (h : qH)  : Fp (fun (i k : Nat) => (225 ≤ i ∧ i ≤ 226)) h (DX2_forget h) := by
  unfold DX2_forget
  refine Fp_ite (fun gc => ?_) (fun gc => ?_)
  · refine Fp_ite (fun gc => ?_) (fun gc => ?_)
    · refine Fp_bd ((F_DJ7_fill_031fb 225 6480 0 h).mono (fun i k g => by omega)) (fun r4 h5 => ?_)
      exact (F_DX2_forget_b15 h5)
    · exact Fp_none
  · exact (F_DX2_forget_b15 h)
theorem F_DX3_clear  (h : qH)  : Fp (fun (i k : Nat) => (i = 44 ∧ 1 ≤ k ∧ k ≤ 2)) h (DX3_clear h) := by
  unfold DX3_clear
  refine Fp_qu (by first | omega | (simp only []; omega)) (fun h1 => ?_)
  refine Fp_qu (by first | omega | (simp only []; omega)) (fun h2 => ?_)
  exact Fp_some
theorem F_DX9_becomeOther  (h : qH)  : Fp (fun (i k : Nat) => (i = 44 ∧ 1 ≤ k ∧ k ≤ 2) ∨ (225 ≤ i ∧ i ≤ 226)) h (DX9_becomeOther h) := by
  unfold DX9_becomeOther
  refine Fp_bd ((F_DX2_forget h).mono (fun i k g => by omega)) (fun r1 h2 => ?_)
  refine Fp_bd ((F_DX3_clear h2).mono (fun i k g => by omega)) (fun r4 h5 => ?_)
  exact Fp_some
theorem F_DX1_isShore  (i0 : Nat) (a1 : Int) (h : qH)  : Fp (fun _ _ => False) h (DX1_isShore i0 a1 h) := by
  unfold DX1_isShore
  refine Fp_ite (fun gc => ?_) (fun gc => ?_)
  · exact Fp_some
  · refine Fp_ite (fun gc => ?_) (fun gc => ?_)
    · exact Fp_some
    · refine Fp_ite (fun gc => ?_) (fun gc => ?_)
      · exact Fp_some
      · exact Fp_some
theorem F_DX1_throwCell  (i0 : Nat) (a1 : Int) (h : qH)  : Fp (fun _ _ => False) h (DX1_throwCell i0 a1 h) := by
  unfold DX1_throwCell
  refine Fp_ite (fun gc => ?_) (fun gc => ?_)
  · exact Fp_some
  · refine Fp_ite (fun gc => ?_) (fun gc => ?_)
    · exact Fp_some
    · refine Fp_ite (fun gc => ?_) (fun gc => ?_)
      · exact Fp_some
      · refine Fp_ite (fun gc => ?_) (fun gc => ?_)
        · exact Fp_some
        · exact Fp_none
theorem F_DX9_throwerCode  (a1 : Int) (h : qH)  : Fp (fun _ _ => False) h (DX9_throwerCode a1 h) := by
  unfold DX9_throwerCode
  refine Fp_bd ((F_DX1_isShore 5 a1 h).mono (fun i k g => g.elim)) (fun r1 h2 => ?_)
  refine Fp_ite (fun gc => ?_) (fun gc => ?_)
  · refine Fp_bd ((F_DX1_throwCell 5 a1 h2).mono (fun i k g => g.elim)) (fun r4 h5 => ?_)
    refine Fp_ite (fun gc => ?_) (fun gc => ?_)
    · exact Fp_some
    · exact Fp_some
  · exact Fp_some
theorem F_DX9_pairCode  (a1 : Int) (a2 : Int) (h : qH)  : Fp (fun _ _ => False) h (DX9_pairCode a1 a2 h) := by
  unfold DX9_pairCode
  refine Fp_bd ((F_DX1_isShore 5 a2 h).mono (fun i k g => g.elim)) (fun r1 h2 => ?_)
  refine Fp_ite (fun gc => ?_) (fun gc => ?_)
  · exact Fp_some
  · refine Fp_ite (fun gc => ?_) (fun gc => ?_)
    · refine Fp_bd ((F_DX9_throwerCode a1 h2).mono (fun i k g => g.elim)) (fun r4 h5 => ?_)
      exact Fp_some
    · exact Fp_some
theorem F_DX2_arrivalOf  (a0 : Int) (h : qH)  : Fp (fun _ _ => False) h (DX2_arrivalOf a0 h) := by
  unfold DX2_arrivalOf
  exact Fp_some
theorem F_DX2_keeperOf  (a0 : Int) (h : qH)  : Fp (fun _ _ => False) h (DX2_keeperOf a0 h) := by
  unfold DX2_keeperOf
  exact Fp_some
theorem F_DX0_launch  (i0 : Nat) (a1 : Int) (a2 : Int) (a3 : Int) (a4 : Int) (h : qH)  : Fp (fun (i k : Nat) => i = i0) h (DX0_launch i0 a1 a2 a3 a4 h) := by
  unfold DX0_launch
  refine Fp_qu (by first | omega | (simp only []; omega)) (fun h1 => ?_)
  refine Fp_qu (by first | omega | (simp only []; omega)) (fun h2 => ?_)
  refine Fp_qu (by first | omega | (simp only []; omega)) (fun h3 => ?_)
  refine Fp_qu (by first | omega | (simp only []; omega)) (fun h4 => ?_)
  refine Fp_ite (fun gc => ?_) (fun gc => ?_)
  · refine Fp_qu (by first | omega | (simp only []; omega)) (fun h5 => ?_)
    refine Fp_qu (by first | omega | (simp only []; omega)) (fun h6 => ?_)
    refine Fp_qu (by first | omega | (simp only []; omega)) (fun h7 => ?_)
    refine Fp_qu (by first | omega | (simp only []; omega)) (fun h8 => ?_)
    exact Fp_some
  · exact Fp_none
theorem F_DX1_moonOf  (i0 : Nat) (a1 : Int) (h : qH)  : Fp (fun _ _ => False) h (DX1_moonOf i0 a1 h) := by
  unfold DX1_moonOf
  refine Fp_ite (fun gc => ?_) (fun gc => ?_)
  · exact Fp_some
  · refine Fp_ite (fun gc => ?_) (fun gc => ?_)
    · exact Fp_none
    · exact Fp_some
theorem F_DX1_phaseOf  (i0 : Nat) (a1 : Int) (h : qH)  : Fp (fun _ _ => False) h (DX1_phaseOf i0 a1 h) := by
  unfold DX1_phaseOf
  refine Fp_ite (fun gc => ?_) (fun gc => ?_)
  · exact Fp_some
  · refine Fp_ite (fun gc => ?_) (fun gc => ?_)
    · exact Fp_none
    · exact Fp_some
theorem F_DX1_isCell  (i0 : Nat) (a1 : Int) (h : qH)  : Fp (fun _ _ => False) h (DX1_isCell i0 a1 h) := by
  unfold DX1_isCell
  refine Fp_ite (fun gc => ?_) (fun gc => ?_)
  · exact Fp_some
  · refine Fp_ite (fun gc => ?_) (fun gc => ?_)
    · exact Fp_some
    · refine Fp_ite (fun gc => ?_) (fun gc => ?_)
      · exact Fp_some
      · exact Fp_some
theorem F_DJ9_max_f86c9  (a0 : Int) (a2 : Int) (h : qH)  : Fp (fun _ _ => False) h (DJ9_max_f86c9 a0 a2 h) := by
  unfold DJ9_max_f86c9
  refine Fp_ite (fun gc => ?_) (fun gc => ?_)
  · exact Fp_some
  · exact Fp_some
theorem F_DJ9_min_f86c9  (a0 : Int) (a2 : Int) (h : qH)  : Fp (fun _ _ => False) h (DJ9_min_f86c9 a0 a2 h) := by
  unfold DJ9_min_f86c9
  refine Fp_ite (fun gc => ?_) (fun gc => ?_)
  · exact Fp_some
  · exact Fp_some
theorem F_DX2_lawSays_b367  (a3 : Int) (h : qH)  : Fp (fun (i k : Nat) => i = 15) h (DX2_lawSays_b367 a3 h) := by
  unfold DX2_lawSays_b367
  refine Fp_ite (fun gc => ?_) (fun gc => ?_)
  · exact Fp_some
  · exact Fp_some
theorem F_DX2_lawSays_b338 (k5 : Int → Int → Int → qH → Option (Int × qH)) (a2 : Int) (a3 : Int) (a4 : Int) (a11 : Int) (h : qH) (k5_h : ∀ (x0 : Int) (x1 : Int) (x2 : Int) (hx : qH), Fp (fun (i k : Nat) => i = 15) hx (k5 x0 x1 x2 hx)) : Fp (fun (i k : Nat) => i = 15) h (DX2_lawSays_b338 k5 a2 a3 a4 a11 h) := by
  unfold DX2_lawSays_b338
  refine Fp_bd ((F_DJ9_min_f86c9 1000000 a11 h).mono (fun i k g => g.elim)) (fun r3 h4 => ?_)
  refine Fp_bd ((F_DJ9_max_f86c9 (-1000000) r3 h4).mono (fun i k g => g.elim)) (fun r6 h7 => ?_)
  refine Fp_ite (fun gc => ?_) (fun gc => ?_)
  · refine Fp_qu (by first | omega | (simp only []; omega)) (fun h9 => ?_)
    exact (k5_h a2 a3 (qw (a4 + 1)) h9)
  · exact Fp_none
theorem F_DX2_lawSays_b109 (k5 : Int → Int → Int → qH → Option (Int × qH)) (a2 : Int) (a3 : Int) (a4 : Int) (a5 : Int) (b0 : Int) (h : qH) (k5_h : ∀ (x0 : Int) (x1 : Int) (x2 : Int) (hx : qH), Fp (fun (i k : Nat) => i = 15) hx (k5 x0 x1 x2 hx)) : Fp (fun (i k : Nat) => i = 15) h (DX2_lawSays_b109 k5 a2 a3 a4 a5 b0 h) := by
  unfold DX2_lawSays_b109
  refine Fp_ite (fun gc => ?_) (fun gc => ?_)
  · refine Fp_ite (fun gc => ?_) (fun gc => ?_)
    · refine Fp_let (fun v12 => ?_)
      refine Fp_let (fun v13 => ?_)
      refine Fp_ite (fun gc => ?_) (fun gc => ?_)
      · refine Fp_let (fun v16 => ?_)
        refine Fp_ite (fun gc => ?_) (fun gc => ?_)
        · exact (F_DX2_lawSays_b338 k5 a2 v13 a4 (qorl v16 v12) h k5_h)
        · refine Fp_ite (fun gc => ?_) (fun gc => ?_)
          · exact (F_DX2_lawSays_b338 k5 a2 v13 a4 (qandl v16 v12) h k5_h)
          · refine Fp_ite (fun gc => ?_) (fun gc => ?_)
            · exact (F_DX2_lawSays_b338 k5 a2 v13 a4 (qwl (v16 * v12)) h k5_h)
            · refine Fp_ite (fun gc => ?_) (fun gc => ?_)
              · exact (F_DX2_lawSays_b338 k5 a2 v13 a4 (qwl (v16 + v12)) h k5_h)
              · refine Fp_ite (fun gc => ?_) (fun gc => ?_)
                · exact (F_DX2_lawSays_b338 k5 a2 v13 a4 (qwl (v16 - v12)) h k5_h)
                · refine Fp_ite (fun gc => ?_) (fun gc => ?_)
                  · refine Fp_ite (fun gc => ?_) (fun gc => ?_)
                    · exact (F_DX2_lawSays_b338 k5 a2 v13 a4 0 h k5_h)
                    · exact (F_DX2_lawSays_b338 k5 a2 v13 a4 1 h k5_h)
                  · refine Fp_ite (fun gc => ?_) (fun gc => ?_)
                    · refine Fp_ite (fun gc => ?_) (fun gc => ?_)
                      · exact (F_DX2_lawSays_b338 k5 a2 v13 a4 0 h k5_h)
                      · exact (F_DX2_lawSays_b338 k5 a2 v13 a4 1 h k5_h)
                    · refine Fp_ite (fun gc => ?_) (fun gc => ?_)
                      · refine Fp_ite (fun gc => ?_) (fun gc => ?_)
                        · exact (F_DX2_lawSays_b338 k5 a2 v13 a4 0 h k5_h)
                        · exact (F_DX2_lawSays_b338 k5 a2 v13 a4 1 h k5_h)
                      · exact (F_DX2_lawSays_b338 k5 a2 v13 a4 (qwl (1 - v16)) h k5_h)
      · exact Fp_none
    · exact Fp_none
  · exact Fp_some
theorem F_DX2_lawSays_l5   : ∀ (n : Nat) (a2 : Int) (a3 : Int) (a4 : Int) (h : qH), Fp (fun (i k : Nat) => i = 15) h (DX2_lawSays_l5  n a2 a3 a4 h) := by
  intro n
  induction n with
  | zero =>
    intro a2 a3 a4 h
    exact Fp_none
  | succ n ih =>
    intro a2 a3 a4 h
    rw [DX2_lawSays_l5.eq_2]
    refine Fp_ite (fun gc => ?_) (fun gc => ?_)
    · exact (F_DX2_lawSays_b367 a3 h)
    · refine Fp_ite (fun gc => ?_) (fun gc => ?_)
      · exact (F_DX2_lawSays_b367 a3 h)
      · refine Fp_ite (fun gc => ?_) (fun gc => ?_)
        · exact (F_DX2_lawSays_b367 a3 h)
        · refine Fp_ite (fun gc => ?_) (fun gc => ?_)
          · refine Fp_let (fun v27 => ?_)
            refine Fp_ite (fun gc => ?_) (fun gc => ?_)
            · refine Fp_ite (fun gc => ?_) (fun gc => ?_)
              · exact (F_DX2_lawSays_b109 (DX2_lawSays_l5 n) a2 a3 a4 v27 2 h (fun x0 x1 x2 hx => ih x0 x1 x2 hx))
              · exact (F_DX2_lawSays_b109 (DX2_lawSays_l5 n) a2 a3 a4 v27 1 h (fun x0 x1 x2 hx => ih x0 x1 x2 hx))
            · refine Fp_let (fun v28 => ?_)
              refine Fp_ite (fun gc => ?_) (fun gc => ?_)
              · exact Fp_some
              · refine Fp_ite (fun gc => ?_) (fun gc => ?_)
                · refine Fp_ite (fun gc => ?_) (fun gc => ?_)
                  · refine Fp_ite (fun gc => ?_) (fun gc => ?_)
                    · refine Fp_ite (fun gc => ?_) (fun gc => ?_)
                      · refine Fp_qu (by first | omega | (simp only []; omega)) (fun h31 => ?_)
                        refine Fp_let (fun v32 => ?_)
                        exact (ih a2 v32 (qw (a4 + 1)) h31)
                      · exact Fp_none
                    · exact Fp_none
                  · refine Fp_ite (fun gc => ?_) (fun gc => ?_)
                    · refine Fp_qu (by first | omega | (simp only []; omega)) (fun h33 => ?_)
                      refine Fp_let (fun v34 => ?_)
                      exact (ih a2 v34 (qw (a4 + 1)) h33)
                    · exact Fp_none
                · exact Fp_some
          · exact Fp_none
theorem F_DX2_lawSays  (a1 : Int) (a2 : Int) (h : qH)  : Fp (fun (i k : Nat) => i = 15) h (DX2_lawSays a1 a2 h) := by
  unfold DX2_lawSays
  exact (F_DX2_lawSays_l5 LF a2 0 a1 h)
theorem F_DX2_keepsIt_b83  (a3 : Int) (b0 : Int) (b1 : Int) (h : qH)  : Fp (fun (i k : Nat) => (14 ≤ i ∧ i ≤ 15)) h (DX2_keepsIt_b83 a3 b0 b1 h) := by
  unfold DX2_keepsIt_b83
  refine Fp_ite (fun gc => ?_) (fun gc => ?_)
  · refine Fp_qu (by first | omega | (simp only []; omega)) (fun h1 => ?_)
    refine Fp_qu (by first | omega | (simp only []; omega)) (fun h2 => ?_)
    refine Fp_bd ((F_DX2_lawSays (h2.1 5 9) (h2.1 5 10) h2).mono (fun i k g => by omega)) (fun r3 h4 => ?_)
    refine Fp_ite (fun gc => ?_) (fun gc => ?_)
    · exact Fp_some
    · exact Fp_some
  · exact Fp_none
theorem F_DX2_keepsIt  (i1 : Nat) (a2 : Int) (a3 : Int) (h : qH)  : Fp (fun (i k : Nat) => (14 ≤ i ∧ i ≤ 15)) h (DX2_keepsIt i1 a2 a3 h) := by
  unfold DX2_keepsIt
  refine Fp_ite (fun gc => ?_) (fun gc => ?_)
  · refine Fp_qu (by first | omega | (simp only []; omega)) (fun h6 => ?_)
    refine Fp_qu (by first | omega | (simp only []; omega)) (fun h7 => ?_)
    refine Fp_qu (by first | omega | (simp only []; omega)) (fun h8 => ?_)
    refine Fp_qu (by first | omega | (simp only []; omega)) (fun h9 => ?_)
    refine Fp_qu (by first | omega | (simp only []; omega)) (fun h10 => ?_)
    refine Fp_ite (fun gc => ?_) (fun gc => ?_)
    · exact (F_DX2_keepsIt_b83 a3 0 5 h10)
    · exact (F_DX2_keepsIt_b83 a3 1 5 h10)
  · exact Fp_some
theorem F_DX2_find_b33  (i1 : Nat) (a2 : Int) (b0 : Int) (h : qH)  : Fp (fun (i k : Nat) => (14 ≤ i ∧ i ≤ 15) ∨ i = i1) h (DX2_find_b33 i1 a2 b0 h) := by
  unfold DX2_find_b33
  refine Fp_bd ((F_DX1_phaseOf 5 a2 h).mono (fun i k g => g.elim)) (fun r1 h2 => ?_)
  refine Fp_bd ((F_DX1_isShore 5 b0 h2).mono (fun i k g => g.elim)) (fun r4 h5 => ?_)
  refine Fp_ite (fun gc => ?_) (fun gc => ?_)
  · exact Fp_some
  · refine Fp_ite (fun gc => ?_) (fun gc => ?_)
    · exact Fp_some
    · refine Fp_ite (fun gc => ?_) (fun gc => ?_)
      · refine Fp_ite (fun gc => ?_) (fun gc => ?_)
        · refine Fp_ite (fun gc => ?_) (fun gc => ?_)
          · refine Fp_qu (by first | omega | (simp only []; omega)) (fun h9 => ?_)
            refine Fp_qu (by first | omega | (simp only []; omega)) (fun h10 => ?_)
            exact Fp_some
          · refine Fp_ite (fun gc => ?_) (fun gc => ?_)
            · refine Fp_qu (by first | omega | (simp only []; omega)) (fun h11 => ?_)
              refine Fp_qu (by first | omega | (simp only []; omega)) (fun h12 => ?_)
              exact Fp_some
            · refine Fp_bd ((F_DX2_keepsIt i1 b0 r1 h5).mono (fun i k g => by omega)) (fun r13 h14 => ?_)
              refine Fp_ite (fun gc => ?_) (fun gc => ?_)
              · refine Fp_qu (by first | omega | (simp only []; omega)) (fun h16 => ?_)
                refine Fp_bd ((F_DX1_throwCell 5 b0 h16).mono (fun i k g => g.elim)) (fun r17 h18 => ?_)
                refine Fp_ite (fun gc => ?_) (fun gc => ?_)
                · exact Fp_some
                · refine Fp_qu (by first | omega | (simp only []; omega)) (fun h20 => ?_)
                  refine Fp_qu (by first | omega | (simp only []; omega)) (fun h21 => ?_)
                  exact Fp_some
              · refine Fp_qu (by first | omega | (simp only []; omega)) (fun h22 => ?_)
                refine Fp_qu (by first | omega | (simp only []; omega)) (fun h23 => ?_)
                exact Fp_some
        · exact Fp_some
      · exact Fp_none
theorem F_DX2_find  (i1 : Nat) (a2 : Int) (h : qH)  : Fp (fun (i k : Nat) => (14 ≤ i ∧ i ≤ 15) ∨ i = i1) h (DX2_find i1 a2 h) := by
  unfold DX2_find
  refine Fp_bd ((F_DX1_isCell 5 (h.1 i1 1) h).mono (fun i k g => g.elim)) (fun r24 h25 => ?_)
  refine Fp_ite (fun gc => ?_) (fun gc => ?_)
  · exact (F_DX2_find_b33 i1 a2 (-1) h25)
  · refine Fp_ite (fun gc => ?_) (fun gc => ?_)
    · exact (F_DX2_find_b33 i1 a2 (qw (h25.1 6 (h25.1 i1 1).toNat - 10)) h25)
    · exact Fp_none
theorem F_DX1_currentAt_b23  (i0 : Nat) (a1 : Int) (a2 : Int) (b0 : Int) (h : qH)  : Fp (fun _ _ => False) h (DX1_currentAt_b23 i0 a1 a2 b0 h) := by
  unfold DX1_currentAt_b23
  refine Fp_ite (fun gc => ?_) (fun gc => ?_)
  · exact Fp_some
  · refine Fp_ite (fun gc => ?_) (fun gc => ?_)
    · exact Fp_some
    · exact Fp_none
theorem F_DX1_currentAt  (i0 : Nat) (a1 : Int) (a2 : Int) (h : qH)  : Fp (fun _ _ => False) h (DX1_currentAt i0 a1 a2 h) := by
  unfold DX1_currentAt
  refine Fp_bd ((F_DX1_isCell i0 a1 h).mono (fun i k g => g.elim)) (fun r3 h4 => ?_)
  refine Fp_ite (fun gc => ?_) (fun gc => ?_)
  · exact (F_DX1_currentAt_b23 i0 a1 a2 0 h4)
  · refine Fp_ite (fun gc => ?_) (fun gc => ?_)
    · exact (F_DX1_currentAt_b23 i0 a1 a2 0 h4)
    · refine Fp_ite (fun gc => ?_) (fun gc => ?_)
      · exact (F_DX1_currentAt_b23 i0 a1 a2 0 h4)
      · exact (F_DX1_currentAt_b23 i0 a1 a2 1 h4)
theorem F_DX1_isSpring  (i0 : Nat) (a1 : Int) (h : qH)  : Fp (fun _ _ => False) h (DX1_isSpring i0 a1 h) := by
  unfold DX1_isSpring
  refine Fp_ite (fun gc => ?_) (fun gc => ?_)
  · exact Fp_some
  · refine Fp_ite (fun gc => ?_) (fun gc => ?_)
    · exact Fp_none
    · refine Fp_ite (fun gc => ?_) (fun gc => ?_)
      · exact Fp_some
      · exact Fp_some
theorem F_DX1_beside  (i0 : Nat) (a1 : Int) (a2 : Int) (h : qH)  : Fp (fun _ _ => False) h (DX1_beside i0 a1 a2 h) := by
  unfold DX1_beside
  refine Fp_ite (fun gc => ?_) (fun gc => ?_)
  · exact Fp_some
  · refine Fp_ite (fun gc => ?_) (fun gc => ?_)
    · exact Fp_some
    · refine Fp_ite (fun gc => ?_) (fun gc => ?_)
      · refine Fp_ite (fun gc => ?_) (fun gc => ?_)
        · refine Fp_ite (fun gc => ?_) (fun gc => ?_)
          · exact Fp_some
          · exact Fp_some
        · refine Fp_ite (fun gc => ?_) (fun gc => ?_)
          · refine Fp_ite (fun gc => ?_) (fun gc => ?_)
            · exact Fp_none
            · refine Fp_ite (fun gc => ?_) (fun gc => ?_)
              · exact Fp_some
              · exact Fp_some
          · refine Fp_ite (fun gc => ?_) (fun gc => ?_)
            · refine Fp_ite (fun gc => ?_) (fun gc => ?_)
              · exact Fp_some
              · exact Fp_some
            · refine Fp_ite (fun gc => ?_) (fun gc => ?_)
              · refine Fp_ite (fun gc => ?_) (fun gc => ?_)
                · exact Fp_none
                · refine Fp_ite (fun gc => ?_) (fun gc => ?_)
                  · exact Fp_some
                  · exact Fp_some
              · exact Fp_some
      · exact Fp_some
theorem F_DX2_step  (i1 : Nat) (a2 : Int) (h : qH)  : Fp (fun (i k : Nat) => i = i1) h (DX2_step i1 a2 h) := by
  unfold DX2_step
  refine Fp_bd ((F_DX1_beside 5 (h.1 i1 1) a2 h).mono (fun i k g => g.elim)) (fun r1 h2 => ?_)
  refine Fp_bd ((F_DX1_isCell 5 r1 h2).mono (fun i k g => g.elim)) (fun r4 h5 => ?_)
  refine Fp_ite (fun gc => ?_) (fun gc => ?_)
  · refine Fp_qu (by first | omega | (simp only []; omega)) (fun h7 => ?_)
    refine Fp_ite (fun gc => ?_) (fun gc => ?_)
    · refine Fp_ite (fun gc => ?_) (fun gc => ?_)
      · refine Fp_ite (fun gc => ?_) (fun gc => ?_)
        · refine Fp_ite (fun gc => ?_) (fun gc => ?_)
          · exact Fp_some
          · refine Fp_qu (by first | omega | (simp only []; omega)) (fun h12 => ?_)
            exact Fp_some
        · exact Fp_none
      · refine Fp_qu (by first | omega | (simp only []; omega)) (fun h13 => ?_)
        exact Fp_some
    · exact Fp_none
  · exact Fp_some
theorem F_DJ9_floorMod_7cf53  (a0 : Int) (a1 : Int) (h : qH)  : Fp (fun _ _ => False) h (DJ9_floorMod_7cf53 a0 a1 h) := by
  unfold DJ9_floorMod_7cf53
  refine Fp_ite (fun gc => ?_) (fun gc => ?_)
  · exact Fp_none
  · refine Fp_let (fun v1 => ?_)
    refine Fp_ite (fun gc => ?_) (fun gc => ?_)
    · exact Fp_some
    · refine Fp_ite (fun gc => ?_) (fun gc => ?_)
      · exact Fp_some
      · exact Fp_some
theorem F_DX2_windAt_b56  (a1 : Int) (a2 : Int) (h : qH)  : Fp (fun (i k : Nat) => (14 ≤ i ∧ i ≤ 15) ∨ i = 225) h (DX2_windAt_b56 a1 a2 h) := by
  unfold DX2_windAt_b56
  refine Fp_bd ((F_DX1_phaseOf 5 a2 h).mono (fun i k g => g.elim)) (fun r1 h2 => ?_)
  refine Fp_bd ((F_DX1_moonOf 5 a2 h2).mono (fun i k g => g.elim)) (fun r4 h5 => ?_)
  refine Fp_let (fun v7 => ?_)
  refine Fp_ite (fun gc => ?_) (fun gc => ?_)
  · exact Fp_some
  · refine Fp_ite (fun gc => ?_) (fun gc => ?_)
    · refine Fp_ite (fun gc => ?_) (fun gc => ?_)
      · refine Fp_ite (fun gc => ?_) (fun gc => ?_)
        · refine Fp_ite (fun gc => ?_) (fun gc => ?_)
          · refine Fp_ite (fun gc => ?_) (fun gc => ?_)
            · refine Fp_ite (fun gc => ?_) (fun gc => ?_)
              · refine Fp_ite (fun gc => ?_) (fun gc => ?_)
                · exact Fp_some
                · exact Fp_none
              · exact Fp_none
            · refine Fp_ite (fun gc => ?_) (fun gc => ?_)
              · exact Fp_none
              · refine Fp_qu (by first | omega | (simp only []; omega)) (fun h12 => ?_)
                refine Fp_ite (fun gc => ?_) (fun gc => ?_)
                · exact Fp_none
                · refine Fp_qu (by first | omega | (simp only []; omega)) (fun h13 => ?_)
                  refine Fp_qu (by first | omega | (simp only []; omega)) (fun h14 => ?_)
                  refine Fp_qu (by first | omega | (simp only []; omega)) (fun h15 => ?_)
                  refine Fp_bd ((F_DX2_lawSays (h15.1 5 7) (h15.1 5 8) h15).mono (fun i k g => by omega)) (fun r16 h17 => ?_)
                  refine Fp_bd ((F_DJ9_floorMod_7cf53 r16 5 h17).mono (fun i k g => g.elim)) (fun r19 h20 => ?_)
                  refine Fp_ite (fun gc => ?_) (fun gc => ?_)
                  · refine Fp_ite (fun gc => ?_) (fun gc => ?_)
                    · refine Fp_qu (by first | omega | (simp only []; omega)) (fun h22 => ?_)
                      refine Fp_ite (fun gc => ?_) (fun gc => ?_)
                      · refine Fp_ite (fun gc => ?_) (fun gc => ?_)
                        · exact Fp_some
                        · exact Fp_none
                      · exact Fp_none
                    · exact Fp_none
                  · exact Fp_none
          · exact Fp_none
        · exact Fp_none
      · exact Fp_some
    · exact Fp_none
theorem F_DX2_windAt  (a1 : Int) (a2 : Int) (h : qH)  : Fp (fun (i k : Nat) => (14 ≤ i ∧ i ≤ 15) ∨ i = 225) h (DX2_windAt a1 a2 h) := by
  unfold DX2_windAt
  refine Fp_bd ((F_DX1_isCell 5 a1 h).mono (fun i k g => g.elim)) (fun r25 h26 => ?_)
  refine Fp_ite (fun gc => ?_) (fun gc => ?_)
  · exact Fp_some
  · refine Fp_ite (fun gc => ?_) (fun gc => ?_)
    · exact Fp_some
    · refine Fp_ite (fun gc => ?_) (fun gc => ?_)
      · refine Fp_ite (fun gc => ?_) (fun gc => ?_)
        · exact (F_DX2_windAt_b56 a1 a2 h26)
        · refine Fp_ite (fun gc => ?_) (fun gc => ?_)
          · exact Fp_none
          · refine Fp_alw (fun _ => by first | omega | (simp only []; omega)) (fun h28 => ?_)
            exact (F_DX2_windAt_b56 a1 a2 h28)
      · exact Fp_some
theorem F_DX2_go_b68  (i1 : Nat) (a2 : Int) (h : qH)  : Fp (fun (i k : Nat) => (14 ≤ i ∧ i ≤ 15) ∨ i = 225 ∨ i = i1) h (DX2_go_b68 i1 a2 h) := by
  unfold DX2_go_b68
  refine Fp_ite (fun gc => ?_) (fun gc => ?_)
  · exact Fp_some
  · refine Fp_ite (fun gc => ?_) (fun gc => ?_)
    · exact Fp_some
    · refine Fp_bd ((F_DX2_windAt (h.1 i1 1) a2 h).mono (fun i k g => by rcases g with g | g <;> omega)) (fun r1 h2 => ?_)
      refine Fp_bd ((F_DX2_step i1 r1 h2).mono (fun i k g => by omega)) (fun r4 h5 => ?_)
      exact Fp_some
theorem F_DX2_go_b33  (i1 : Nat) (a2 : Int) (a3 : Int) (h : qH)  : Fp (fun (i k : Nat) => (14 ≤ i ∧ i ≤ 15) ∨ i = 225 ∨ i = i1) h (DX2_go_b33 i1 a2 a3 h) := by
  unfold DX2_go_b33
  refine Fp_ite (fun gc => ?_) (fun gc => ?_)
  · exact (F_DX2_go_b68 i1 a2 h)
  · refine Fp_bd ((F_DX1_isSpring 5 a2 h).mono (fun i k g => g.elim)) (fun r7 h8 => ?_)
    refine Fp_ite (fun gc => ?_) (fun gc => ?_)
    · exact (F_DX2_go_b68 i1 a2 h8)
    · refine Fp_bd ((F_DX1_currentAt 5 (h8.1 i1 1) a3 h8).mono (fun i k g => g.elim)) (fun r10 h11 => ?_)
      refine Fp_bd ((F_DX2_step i1 r10 h11).mono (fun i k g => by omega)) (fun r13 h14 => ?_)
      exact (F_DX2_go_b68 i1 a2 h14)
theorem F_DX2_go  (i1 : Nat) (a2 : Int) (h : qH)  : Fp (fun (i k : Nat) => (14 ≤ i ∧ i ≤ 15) ∨ i = 225 ∨ i = i1) h (DX2_go i1 a2 h) := by
  unfold DX2_go
  refine Fp_bd ((F_DX1_phaseOf 5 a2 h).mono (fun i k g => g.elim)) (fun r16 h17 => ?_)
  refine Fp_ite (fun gc => ?_) (fun gc => ?_)
  · exact (F_DX2_go_b33 i1 a2 r16 h17)
  · refine Fp_bd ((F_DX1_currentAt 5 (h17.1 i1 1) r16 h17).mono (fun i k g => g.elim)) (fun r19 h20 => ?_)
    refine Fp_bd ((F_DX2_step i1 r19 h20).mono (fun i k g => by omega)) (fun r22 h23 => ?_)
    exact (F_DX2_go_b33 i1 a2 r16 h23)
theorem F_DX2_carry_b77  (i1 : Nat) (a2 : Int) (h : qH)  : Fp (fun (i k : Nat) => (14 ≤ i ∧ i ≤ 15) ∨ i = 225 ∨ i = i1) h (DX2_carry_b77 i1 a2 h) := by
  unfold DX2_carry_b77
  refine Fp_ite (fun gc => ?_) (fun gc => ?_)
  · exact Fp_some
  · refine Fp_bd ((F_DX2_find i1 a2 h).mono (fun i k g => by rcases g with g | g <;> omega)) (fun r1 h2 => ?_)
    exact Fp_some
theorem F_DX2_carry_b16  (i1 : Nat) (a2 : Int) (h : qH)  : Fp (fun (i k : Nat) => (14 ≤ i ∧ i ≤ 15) ∨ i = 225 ∨ i = i1) h (DX2_carry_b16 i1 a2 h) := by
  unfold DX2_carry_b16
  refine Fp_bd ((F_DX2_go i1 a2 h).mono (fun i k g => by rcases g with g | g | g <;> omega)) (fun r4 h5 => ?_)
  refine Fp_ite (fun gc => ?_) (fun gc => ?_)
  · refine Fp_qu (by first | omega | (simp only []; omega)) (fun h7 => ?_)
    refine Fp_ite (fun gc => ?_) (fun gc => ?_)
    · exact (F_DX2_carry_b77 i1 a2 h7)
    · refine Fp_ite (fun gc => ?_) (fun gc => ?_)
      · exact (F_DX2_carry_b77 i1 a2 h7)
      · refine Fp_ite (fun gc => ?_) (fun gc => ?_)
        · exact (F_DX2_carry_b77 i1 a2 h7)
        · refine Fp_qu (by first | omega | (simp only []; omega)) (fun h8 => ?_)
          exact (F_DX2_carry_b77 i1 a2 h8)
  · exact Fp_some
theorem F_DX2_carry  (i1 : Nat) (a2 : Int) (h : qH)  : Fp (fun (i k : Nat) => (14 ≤ i ∧ i ≤ 15) ∨ i = 225 ∨ i = i1) h (DX2_carry i1 a2 h) := by
  unfold DX2_carry
  refine Fp_ite (fun gc => ?_) (fun gc => ?_)
  · exact (F_DX2_carry_b16 i1 a2 h)
  · refine Fp_ite (fun gc => ?_) (fun gc => ?_)
    · exact (F_DX2_carry_b16 i1 a2 h)
    · exact Fp_some
theorem F_DX2_outcome_b243  (a8 : Int) (a9 : Int) (b0 : Int) (h : qH)  : Fp (fun (i k : Nat) => (13 ≤ i ∧ i ≤ 15) ∨ (225 ≤ i ∧ i ≤ 226)) h (DX2_outcome_b243 a8 a9 b0 h) := by
  unfold DX2_outcome_b243
  refine Fp_ite (fun gc => ?_) (fun gc => ?_)
  · exact Fp_some
  · refine Fp_ite (fun gc => ?_) (fun gc => ?_)
    · refine Fp_ite (fun gc => ?_) (fun gc => ?_)
      · refine Fp_qu (by first | omega | (simp only []; omega)) (fun h1 => ?_)
        exact Fp_some
      · exact Fp_none
    · exact Fp_none
theorem F_DX2_outcome_b213  (a8 : Int) (a9 : Int) (a10 : Int) (h : qH)  : Fp (fun (i k : Nat) => (13 ≤ i ∧ i ≤ 15) ∨ (225 ≤ i ∧ i ≤ 226)) h (DX2_outcome_b213 a8 a9 a10 h) := by
  unfold DX2_outcome_b213
  refine Fp_ite (fun gc => ?_) (fun gc => ?_)
  · exact (F_DX2_outcome_b243 a8 a9 1 h)
  · exact (F_DX2_outcome_b243 a8 a9 (qw (qw (qw (a10 * 8) + h.1 13 7) + 2)) h)
theorem F_DX2_outcome_b194 (k165 : Int → Int → Int → Int → qH → Option (Int × qH)) (a4 : Int) (a8 : Int) (a9 : Int) (a10 : Int) (h : qH) (k165_h : ∀ (x0 : Int) (x1 : Int) (x2 : Int) (x3 : Int) (hx : qH), Fp (fun (i k : Nat) => (13 ≤ i ∧ i ≤ 15) ∨ (225 ≤ i ∧ i ≤ 226)) hx (k165 x0 x1 x2 x3 hx)) : Fp (fun (i k : Nat) => (13 ≤ i ∧ i ≤ 15) ∨ (225 ≤ i ∧ i ≤ 226)) h (DX2_outcome_b194 k165 a4 a8 a9 a10 h) := by
  unfold DX2_outcome_b194
  refine Fp_bd ((F_DX2_carry 13 (qw (a4 + a10)) h).mono (fun i k g => by rcases g with g | g | g <;> omega)) (fun r2 h3 => ?_)
  exact (k165_h a4 a8 a9 (qw (a10 + 1)) h3)
theorem F_DX2_outcome_l165   : ∀ (n : Nat) (a4 : Int) (a8 : Int) (a9 : Int) (a10 : Int) (h : qH), Fp (fun (i k : Nat) => (13 ≤ i ∧ i ≤ 15) ∨ (225 ≤ i ∧ i ≤ 226)) h (DX2_outcome_l165  n a4 a8 a9 a10 h) := by
  intro n
  induction n with
  | zero =>
    intro a4 a8 a9 a10 h
    exact Fp_none
  | succ n ih =>
    intro a4 a8 a9 a10 h
    rw [DX2_outcome_l165.eq_2]
    refine Fp_ite (fun gc => ?_) (fun gc => ?_)
    · exact (F_DX2_outcome_b213 a8 a9 a10 h)
    · refine Fp_ite (fun gc => ?_) (fun gc => ?_)
      · exact (F_DX2_outcome_b194 (DX2_outcome_l165 n) a4 a8 a9 a10 h (fun x0 x1 x2 x3 hx => ih x0 x1 x2 x3 hx))
      · refine Fp_ite (fun gc => ?_) (fun gc => ?_)
        · exact (F_DX2_outcome_b213 a8 a9 a10 h)
        · exact (F_DX2_outcome_b194 (DX2_outcome_l165 n) a4 a8 a9 a10 h (fun x0 x1 x2 x3 hx => ih x0 x1 x2 x3 hx))
theorem F_DX2_outcome_b150  (a1 : Int) (a2 : Int) (a3 : Int) (a4 : Int) (a5 : Int) (a8 : Int) (a9 : Int) (h : qH)  : Fp (fun (i k : Nat) => (13 ≤ i ∧ i ≤ 15) ∨ (225 ≤ i ∧ i ≤ 226)) h (DX2_outcome_b150 a1 a2 a3 a4 a5 a8 a9 h) := by
  unfold DX2_outcome_b150
  refine Fp_bd ((F_DX0_launch 13 a1 a2 a3 a5 h).mono (fun i k g => by omega)) (fun r5 h6 => ?_)
  exact (F_DX2_outcome_l165 LF a4 a8 a9 0 h6)
theorem F_DX2_outcome_b125  (a1 : Int) (a2 : Int) (a3 : Int) (a4 : Int) (a5 : Int) (a8 : Int) (b0 : Int) (h : qH)  : Fp (fun (i k : Nat) => (13 ≤ i ∧ i ≤ 15) ∨ (225 ≤ i ∧ i ≤ 226)) h (DX2_outcome_b125 a1 a2 a3 a4 a5 a8 b0 h) := by
  unfold DX2_outcome_b125
  refine Fp_ite (fun gc => ?_) (fun gc => ?_)
  · exact (F_DX2_outcome_b150 a1 a2 a3 a4 a5 a8 b0 h)
  · refine Fp_ite (fun gc => ?_) (fun gc => ?_)
    · refine Fp_ite (fun gc => ?_) (fun gc => ?_)
      · refine Fp_ite (fun gc => ?_) (fun gc => ?_)
        · exact (F_DX2_outcome_b150 a1 a2 a3 a4 a5 a8 b0 h)
        · refine Fp_ite (fun gc => ?_) (fun gc => ?_)
          · refine Fp_ite (fun gc => ?_) (fun gc => ?_)
            · exact Fp_some
            · exact Fp_none
          · exact Fp_none
      · exact Fp_none
    · exact Fp_none
theorem F_DX2_outcome_b64  (a1 : Int) (a2 : Int) (a3 : Int) (a4 : Int) (a5 : Int) (b0 : Int) (b1 : Int) (h : qH)  : Fp (fun (i k : Nat) => (13 ≤ i ∧ i ≤ 15) ∨ (225 ≤ i ∧ i ≤ 226)) h (DX2_outcome_b64 a1 a2 a3 a4 a5 b0 b1 h) := by
  unfold DX2_outcome_b64
  refine Fp_let (fun v12 => ?_)
  refine Fp_bd ((F_DX1_phaseOf 5 a4 h).mono (fun i k g => g.elim)) (fun r13 h14 => ?_)
  refine Fp_bd ((F_DX1_moonOf 5 a4 h14).mono (fun i k g => g.elim)) (fun r16 h17 => ?_)
  refine Fp_let (fun v19 => ?_)
  refine Fp_ite (fun gc => ?_) (fun gc => ?_)
  · exact (F_DX2_outcome_b125 a1 a2 a3 a4 a5 v19 0 h17)
  · refine Fp_ite (fun gc => ?_) (fun gc => ?_)
    · exact (F_DX2_outcome_b125 a1 a2 a3 a4 a5 v19 0 h17)
    · refine Fp_ite (fun gc => ?_) (fun gc => ?_)
      · refine Fp_ite (fun gc => ?_) (fun gc => ?_)
        · exact (F_DX2_outcome_b125 a1 a2 a3 a4 a5 v19 0 h17)
        · exact (F_DX2_outcome_b125 a1 a2 a3 a4 a5 v19 1 h17)
      · exact Fp_none
theorem F_DX2_outcome_b48  (a1 : Int) (a2 : Int) (a3 : Int) (a4 : Int) (a5 : Int) (b0 : Int) (b1 : Int) (h : qH)  : Fp (fun (i k : Nat) => (13 ≤ i ∧ i ≤ 15) ∨ (225 ≤ i ∧ i ≤ 226)) h (DX2_outcome_b48 a1 a2 a3 a4 a5 b0 b1 h) := by
  unfold DX2_outcome_b48
  refine Fp_let (fun v20 => ?_)
  refine Fp_ite (fun gc => ?_) (fun gc => ?_)
  · exact (F_DX2_outcome_b64 a1 a2 a3 a4 a5 0 (qw (v20 * 2)) h)
  · exact (F_DX2_outcome_b64 a1 a2 a3 a4 a5 1 (qw (v20 * 2)) h)
theorem F_DX2_outcome_b34  (a1 : Int) (a2 : Int) (a3 : Int) (a4 : Int) (a5 : Int) (h : qH)  : Fp (fun (i k : Nat) => (13 ≤ i ∧ i ≤ 15) ∨ (225 ≤ i ∧ i ≤ 226)) h (DX2_outcome_b34 a1 a2 a3 a4 a5 h) := by
  unfold DX2_outcome_b34
  refine Fp_ite (fun gc => ?_) (fun gc => ?_)
  · exact (F_DX2_outcome_b48 a1 a2 a3 a4 a5 a2 (qw (a1 * 6)) h)
  · exact (F_DX2_outcome_b48 a1 a2 a3 a4 a5 a1 (qw (a1 * 6)) h)
theorem F_DX2_outcome  (a1 : Int) (a2 : Int) (a3 : Int) (a4 : Int) (h : qH)  : Fp (fun (i k : Nat) => (13 ≤ i ∧ i ≤ 15) ∨ (225 ≤ i ∧ i ≤ 226)) h (DX2_outcome a1 a2 a3 a4 h) := by
  unfold DX2_outcome
  refine Fp_bd ((F_DX1_throwCell 5 a1 h).mono (fun i k g => g.elim)) (fun r21 h22 => ?_)
  refine Fp_ite (fun gc => ?_) (fun gc => ?_)
  · refine Fp_ite (fun gc => ?_) (fun gc => ?_)
    · exact (F_DX2_outcome_b34 a1 a2 a3 a4 r21 h22)
    · refine Fp_ite (fun gc => ?_) (fun gc => ?_)
      · exact Fp_none
      · refine Fp_alo (fun _ => by first | omega | (simp only []; omega)) (fun h24 => ?_)
        exact (F_DX2_outcome_b34 a1 a2 a3 a4 r21 h24)
  · exact Fp_some
theorem F_DX2_tidesOf  (a0 : Int) (h : qH)  : Fp (fun _ _ => False) h (DX2_tidesOf a0 h) := by
  unfold DX2_tidesOf
  exact Fp_some
theorem F_DX2_soonest_b52 (k6 : Int → Int → Int → Int → Int → qH → Option (Int × qH)) (k32 : Int → Int → Int → Int → Int → Int → qH → Option (Int × qH)) (a1 : Int) (a2 : Int) (a3 : Int) (a4 : Int) (a5 : Int) (a6 : Int) (b0 : Int) (b1 : Int) (b2 : Int) (h : qH) (k6_h : ∀ (x0 : Int) (x1 : Int) (x2 : Int) (x3 : Int) (x4 : Int) (hx : qH), Fp (fun (i k : Nat) => (13 ≤ i ∧ i ≤ 15) ∨ (225 ≤ i ∧ i ≤ 226)) hx (k6 x0 x1 x2 x3 x4 hx)) (k32_h : ∀ (x0 : Int) (x1 : Int) (x2 : Int) (x3 : Int) (x4 : Int) (x5 : Int) (hx : qH), Fp (fun (i k : Nat) => (13 ≤ i ∧ i ≤ 15) ∨ (225 ≤ i ∧ i ≤ 226)) hx (k32 x0 x1 x2 x3 x4 x5 hx)) : Fp (fun (i k : Nat) => (13 ≤ i ∧ i ≤ 15) ∨ (225 ≤ i ∧ i ≤ 226)) h (DX2_soonest_b52 k6 k32 a1 a2 a3 a4 a5 a6 b0 b1 b2 h) := by
  unfold DX2_soonest_b52
  refine Fp_bd (F_DX2_outcome b2 b1 b0 (qw (a3 + a5)) h) (fun r1 h2 => ?_)
  refine Fp_bd ((F_DX2_tidesOf r1 h2).mono (fun i k g => g.elim)) (fun r4 h5 => ?_)
  refine Fp_let (fun v7 => ?_)
  refine Fp_bd ((F_DX2_keeperOf r1 h5).mono (fun i k g => g.elim)) (fun r8 h9 => ?_)
  refine Fp_ite (fun gc => ?_) (fun gc => ?_)
  · exact (k32_h a1 a2 a3 a4 a5 (qw (a6 + 1)) h9)
  · refine Fp_ite (fun gc => ?_) (fun gc => ?_)
    · exact (k32_h a1 a2 a3 v7 a5 (qw (a6 + 1)) h9)
    · refine Fp_ite (fun gc => ?_) (fun gc => ?_)
      · exact (k32_h a1 a2 a3 a4 a5 (qw (a6 + 1)) h9)
      · exact (k32_h a1 a2 a3 v7 a5 (qw (a6 + 1)) h9)
theorem F_DX2_soonest_l32 (k6 : Int → Int → Int → Int → Int → qH → Option (Int × qH)) (k6_h : ∀ (x0 : Int) (x1 : Int) (x2 : Int) (x3 : Int) (x4 : Int) (hx : qH), Fp (fun (i k : Nat) => (13 ≤ i ∧ i ≤ 15) ∨ (225 ≤ i ∧ i ≤ 226)) hx (k6 x0 x1 x2 x3 x4 hx)) : ∀ (n : Nat) (a1 : Int) (a2 : Int) (a3 : Int) (a4 : Int) (a5 : Int) (a6 : Int) (h : qH), Fp (fun (i k : Nat) => (13 ≤ i ∧ i ≤ 15) ∨ (225 ≤ i ∧ i ≤ 226)) h (DX2_soonest_l32 k6 n a1 a2 a3 a4 a5 a6 h) := by
  intro n
  induction n with
  | zero =>
    intro a1 a2 a3 a4 a5 a6 h
    exact Fp_none
  | succ n ih =>
    intro a1 a2 a3 a4 a5 a6 h
    rw [DX2_soonest_l32.eq_2]
    refine Fp_ite (fun gc => ?_) (fun gc => ?_)
    · exact (k6_h a1 a2 a3 a4 (qw (a5 + 1)) h)
    · refine Fp_ite (fun gc => ?_) (fun gc => ?_)
      · exact (F_DX2_soonest_b52 k6 (DX2_soonest_l32 k6 n) a1 a2 a3 a4 a5 a6 0 a2 a1 h k6_h (fun x0 x1 x2 x3 x4 x5 hx => ih x0 x1 x2 x3 x4 x5 hx))
      · exact (F_DX2_soonest_b52 k6 (DX2_soonest_l32 k6 n) a1 a2 a3 a4 a5 a6 1 a2 a1 h k6_h (fun x0 x1 x2 x3 x4 x5 hx => ih x0 x1 x2 x3 x4 x5 hx))
theorem F_DX2_soonest_l6   : ∀ (n : Nat) (a1 : Int) (a2 : Int) (a3 : Int) (a4 : Int) (a5 : Int) (h : qH), Fp (fun (i k : Nat) => (13 ≤ i ∧ i ≤ 15) ∨ (225 ≤ i ∧ i ≤ 226)) h (DX2_soonest_l6  n a1 a2 a3 a4 a5 h) := by
  intro n
  induction n with
  | zero =>
    intro a1 a2 a3 a4 a5 h
    exact Fp_none
  | succ n ih =>
    intro a1 a2 a3 a4 a5 h
    rw [DX2_soonest_l6.eq_2]
    refine Fp_ite (fun gc => ?_) (fun gc => ?_)
    · exact Fp_some
    · refine Fp_ite (fun gc => ?_) (fun gc => ?_)
      · exact (F_DX2_soonest_l32 (DX2_soonest_l6 n) (fun x0 x1 x2 x3 x4 hx => ih x0 x1 x2 x3 x4 hx) LF a1 a2 a3 a4 a5 0 h)
      · refine Fp_ite (fun gc => ?_) (fun gc => ?_)
        · exact Fp_some
        · exact (F_DX2_soonest_l32 (DX2_soonest_l6 n) (fun x0 x1 x2 x3 x4 hx => ih x0 x1 x2 x3 x4 hx) LF a1 a2 a3 a4 a5 0 h)
theorem F_DX2_soonest  (a1 : Int) (a2 : Int) (a3 : Int) (h : qH)  : Fp (fun (i k : Nat) => (13 ≤ i ∧ i ≤ 15) ∨ (225 ≤ i ∧ i ≤ 226)) h (DX2_soonest a1 a2 a3 h) := by
  unfold DX2_soonest
  exact (F_DX2_soonest_l6 LF a1 a2 a3 (-1) 0 h)
theorem F_DX2_waitOf  (a0 : Int) (h : qH)  : Fp (fun _ _ => False) h (DX2_waitOf a0 h) := by
  unfold DX2_waitOf
  exact Fp_some
theorem F_DX2_weightOf  (a0 : Int) (h : qH)  : Fp (fun _ _ => False) h (DX2_weightOf a0 h) := by
  unfold DX2_weightOf
  exact Fp_some
theorem F_DX9_best  (a1 : Int) (a2 : Int) (a3 : Int) (h : qH)  : Fp (fun (i k : Nat) => (13 ≤ i ∧ i ≤ 15) ∨ (225 ≤ i ∧ i ≤ 226)) h (DX9_best a1 a2 a3 h) := by
  unfold DX9_best
  refine Fp_bd ((F_DX9_pairCode a1 a2 h).mono (fun i k g => g.elim)) (fun r1 h2 => ?_)
  refine Fp_ite (fun gc => ?_) (fun gc => ?_)
  · exact Fp_some
  · refine Fp_ite (fun gc => ?_) (fun gc => ?_)
    · exact Fp_some
    · refine Fp_ite (fun gc => ?_) (fun gc => ?_)
      · refine Fp_ite (fun gc => ?_) (fun gc => ?_)
        · refine Fp_bd (F_DX2_soonest a1 a2 (h2.1 24 2) h2) (fun r4 h5 => ?_)
          refine Fp_ite (fun gc => ?_) (fun gc => ?_)
          · refine Fp_ite (fun gc => ?_) (fun gc => ?_)
            · refine Fp_ite (fun gc => ?_) (fun gc => ?_)
              · refine Fp_bd ((F_DX2_weightOf r4 h5).mono (fun i k g => g.elim)) (fun r7 h8 => ?_)
                exact Fp_some
              · refine Fp_bd ((F_DX2_waitOf r4 h5).mono (fun i k g => g.elim)) (fun r10 h11 => ?_)
                exact Fp_some
            · refine Fp_bd ((F_DX2_arrivalOf r4 h5).mono (fun i k g => g.elim)) (fun r13 h14 => ?_)
              exact Fp_some
          · exact Fp_some
        · exact Fp_some
      · exact Fp_some
theorem F_DX7_has  (i0 : Nat) (a1 : Int) (h : qH)  : Fp (fun _ _ => False) h (DX7_has i0 a1 h) := by
  unfold DX7_has
  refine Fp_ite (fun gc => ?_) (fun gc => ?_)
  · exact Fp_some
  · refine Fp_ite (fun gc => ?_) (fun gc => ?_)
    · exact Fp_some
    · refine Fp_ite (fun gc => ?_) (fun gc => ?_)
      · exact Fp_some
      · exact Fp_some
theorem F_DX9_bottle  (a1 : Int) (a2 : Int) (h : qH)  : Fp (fun _ _ => False) h (DX9_bottle a1 a2 h) := by
  unfold DX9_bottle
  refine Fp_bd ((F_DX7_has 24 a1 h).mono (fun i k g => g.elim)) (fun r1 h2 => ?_)
  refine Fp_ite (fun gc => ?_) (fun gc => ?_)
  · refine Fp_ite (fun gc => ?_) (fun gc => ?_)
    · refine Fp_ite (fun gc => ?_) (fun gc => ?_)
      · exact Fp_some
      · refine Fp_ite (fun gc => ?_) (fun gc => ?_)
        · exact Fp_some
        · refine Fp_ite (fun gc => ?_) (fun gc => ?_)
          · exact Fp_some
          · refine Fp_ite (fun gc => ?_) (fun gc => ?_)
            · exact Fp_some
            · refine Fp_ite (fun gc => ?_) (fun gc => ?_)
              · refine Fp_ite (fun gc => ?_) (fun gc => ?_)
                · exact Fp_some
                · exact Fp_some
              · refine Fp_ite (fun gc => ?_) (fun gc => ?_)
                · exact Fp_some
                · refine Fp_ite (fun gc => ?_) (fun gc => ?_)
                  · exact Fp_some
                  · refine Fp_ite (fun gc => ?_) (fun gc => ?_)
                    · exact Fp_some
                    · exact Fp_some
    · exact Fp_none
  · exact Fp_some
theorem F_DX0_takeFrom  (i0 : Nat) (i1 : Nat) (h : qH)  : Fp (fun (i k : Nat) => i = i0) h (DX0_takeFrom i0 i1 h) := by
  unfold DX0_takeFrom
  refine Fp_qu (by first | omega | (simp only []; omega)) (fun h1 => ?_)
  refine Fp_qu (by first | omega | (simp only []; omega)) (fun h2 => ?_)
  refine Fp_qu (by first | omega | (simp only []; omega)) (fun h3 => ?_)
  refine Fp_qu (by first | omega | (simp only []; omega)) (fun h4 => ?_)
  refine Fp_ite (fun gc => ?_) (fun gc => ?_)
  · refine Fp_qu (by first | omega | (simp only []; omega)) (fun h5 => ?_)
    refine Fp_qu (by first | omega | (simp only []; omega)) (fun h6 => ?_)
    refine Fp_qu (by first | omega | (simp only []; omega)) (fun h7 => ?_)
    refine Fp_qu (by first | omega | (simp only []; omega)) (fun h8 => ?_)
    exact Fp_some
  · exact Fp_none
theorem F_DX2_trail_b28 (k6 : Nat → Int → Int → Int → Int → qH → Option (Int × qH)) (i1 : Nat) (a2 : Int) (a3 : Int) (a4 : Int) (a6 : Int) (h : qH) (k6_h : ∀ (x1 : Int) (x2 : Int) (x3 : Int) (x4 : Int) (hx : qH), Fp (fun (i k : Nat) => (14 ≤ i ∧ i ≤ 15) ∨ i = 225 ∨ i = i1) hx (k6 i1 x1 x2 x3 x4 hx)) : Fp (fun (i k : Nat) => (14 ≤ i ∧ i ≤ 15) ∨ i = 225 ∨ i = i1) h (DX2_trail_b28 k6 i1 a2 a3 a4 a6 h) := by
  unfold DX2_trail_b28
  refine Fp_ite (fun gc => ?_) (fun gc => ?_)
  · exact (k6_h a2 a3 a4 (qw (a6 + 1)) h)
  · refine Fp_let (fun v1 => ?_)
    exact (k6_h a2 a3 v1 (qw (a6 + 1)) h)
theorem F_DX2_trail_l6   : ∀ (n : Nat) (i1 : Nat) (a2 : Int) (a3 : Int) (a4 : Int) (a6 : Int) (h : qH), Fp (fun (i k : Nat) => (14 ≤ i ∧ i ≤ 15) ∨ i = 225 ∨ i = i1) h (DX2_trail_l6  n i1 a2 a3 a4 a6 h) := by
  intro n
  induction n with
  | zero =>
    intro i1 a2 a3 a4 a6 h
    exact Fp_none
  | succ n ih =>
    intro i1 a2 a3 a4 a6 h
    rw [DX2_trail_l6.eq_2]
    refine Fp_ite (fun gc => ?_) (fun gc => ?_)
    · exact Fp_some
    · refine Fp_ite (fun gc => ?_) (fun gc => ?_)
      · exact (F_DX2_trail_b28 (DX2_trail_l6 n) i1 a2 a3 a4 a6 h (fun x1 x2 x3 x4 hx => ih i1 x1 x2 x3 x4 hx))
      · refine Fp_bd ((F_DX2_carry i1 (qw (qw (a2 + a6) - 1)) h).mono (fun i k g => by rcases g with g | g | g <;> omega)) (fun r2 h3 => ?_)
        exact (F_DX2_trail_b28 (DX2_trail_l6 n) i1 a2 a3 a4 a6 h3 (fun x1 x2 x3 x4 hx => ih i1 x1 x2 x3 x4 hx))
theorem F_DX2_trail  (i1 : Nat) (a2 : Int) (a3 : Int) (h : qH)  : Fp (fun (i k : Nat) => (14 ≤ i ∧ i ≤ 15) ∨ i = 225 ∨ i = i1) h (DX2_trail i1 a2 a3 h) := by
  unfold DX2_trail
  exact (F_DX2_trail_l6 LF i1 a2 a3 0 0 h)
theorem F_DX9_followAll_l2   : ∀ (n : Nat) (a1 : Int) (a2 : Int) (h : qH), Fp (fun (i k : Nat) => (14 ≤ i ∧ i ≤ 15) ∨ i = 156 ∨ i = 163 ∨ i = 225) h (DX9_followAll_l2  n a1 a2 h) := by
  intro n
  induction n with
  | zero =>
    intro a1 a2 h
    exact Fp_none
  | succ n ih =>
    intro a1 a2 h
    rw [DX9_followAll_l2.eq_2]
    refine Fp_ite (fun gc => ?_) (fun gc => ?_)
    · exact Fp_some
    · refine Fp_ite (fun gc => ?_) (fun gc => ?_)
      · refine Fp_qu (by first | omega | (simp only []; omega)) (fun h1 => ?_)
        refine Fp_bd ((F_DX7_has 24 a2 h1).mono (fun i k g => g.elim)) (fun r2 h3 => ?_)
        refine Fp_ite (fun gc => ?_) (fun gc => ?_)
        · exact (ih a1 (qw (a2 + 1)) h3)
        · refine Fp_ite (fun gc => ?_) (fun gc => ?_)
          · refine Fp_bd ((F_DX0_takeFrom 156 (26 + a2.toNat) h3).mono (fun i k g => by omega)) (fun r7 h8 => ?_)
            refine Fp_bd ((F_DX2_trail 156 (h8.1 24 2) a1 h8).mono (fun i k g => by rcases g with g | g | g <;> omega)) (fun r10 h11 => ?_)
            refine Fp_ite (fun gc => ?_) (fun gc => ?_)
            · refine Fp_qu (by first | omega | (simp only []; omega)) (fun h13 => ?_)
              exact (ih a1 (qw (a2 + 1)) h13)
            · exact Fp_none
          · exact Fp_none
      · exact Fp_none
theorem F_DX9_followAll  (a1 : Int) (h : qH)  : Fp (fun (i k : Nat) => (14 ≤ i ∧ i ≤ 15) ∨ i = 156 ∨ i = 163 ∨ i = 225) h (DX9_followAll a1 h) := by
  unfold DX9_followAll
  exact (F_DX9_followAll_l2 LF a1 0 h)
theorem F_DX1_cells  (i0 : Nat) (h : qH)  : Fp (fun _ _ => False) h (DX1_cells i0 h) := by
  unfold DX1_cells
  exact Fp_some
theorem F_DX1_isOpen  (i0 : Nat) (a1 : Int) (h : qH)  : Fp (fun _ _ => False) h (DX1_isOpen i0 a1 h) := by
  unfold DX1_isOpen
  refine Fp_ite (fun gc => ?_) (fun gc => ?_)
  · exact Fp_some
  · refine Fp_ite (fun gc => ?_) (fun gc => ?_)
    · exact Fp_some
    · refine Fp_ite (fun gc => ?_) (fun gc => ?_)
      · exact Fp_some
      · refine Fp_ite (fun gc => ?_) (fun gc => ?_)
        · refine Fp_ite (fun gc => ?_) (fun gc => ?_)
          · exact Fp_some
          · exact Fp_some
        · exact Fp_none
theorem F_DX9_calm_l65   : ∀ (n : Nat) (a2 : Int) (a4 : Int) (h : qH), Fp (fun (i k : Nat) => (14 ≤ i ∧ i ≤ 15) ∨ i = 156 ∨ i = 163 ∨ i = 225) h (DX9_calm_l65  n a2 a4 h) := by
  intro n
  induction n with
  | zero =>
    intro a2 a4 h
    exact Fp_none
  | succ n ih =>
    intro a2 a4 h
    rw [DX9_calm_l65.eq_2]
    refine Fp_ite (fun gc => ?_) (fun gc => ?_)
    · exact Fp_some
    · refine Fp_bd ((F_DX7_has 24 a4 h).mono (fun i k g => g.elim)) (fun r1 h2 => ?_)
      refine Fp_ite (fun gc => ?_) (fun gc => ?_)
      · exact (ih a2 (qw (a4 + 1)) h2)
      · refine Fp_ite (fun gc => ?_) (fun gc => ?_)
        · refine Fp_ite (fun gc => ?_) (fun gc => ?_)
          · exact (ih a2 (qw (a4 + 1)) h2)
          · refine Fp_ite (fun gc => ?_) (fun gc => ?_)
            · refine Fp_let (fun v8 => ?_)
              exact (ih v8 (qw (a4 + 1)) h2)
            · exact Fp_none
        · exact Fp_none
theorem F_DX9_calm_l25   : ∀ (n : Nat) (a2 : Int) (a4 : Int) (h : qH), Fp (fun (i k : Nat) => (14 ≤ i ∧ i ≤ 15) ∨ i = 156 ∨ i = 163 ∨ i = 225) h (DX9_calm_l25  n a2 a4 h) := by
  intro n
  induction n with
  | zero =>
    intro a2 a4 h
    exact Fp_none
  | succ n ih =>
    intro a2 a4 h
    rw [DX9_calm_l25.eq_2]
    refine Fp_bd ((F_DX1_cells 5 h).mono (fun i k g => g.elim)) (fun r9 h10 => ?_)
    refine Fp_ite (fun gc => ?_) (fun gc => ?_)
    · exact (F_DX9_calm_l65 LF a2 0 h10)
    · refine Fp_bd ((F_DX1_isOpen 5 a4 h10).mono (fun i k g => g.elim)) (fun r12 h13 => ?_)
      refine Fp_ite (fun gc => ?_) (fun gc => ?_)
      · exact (ih a2 (qw (a4 + 1)) h13)
      · refine Fp_let (fun v15 => ?_)
        exact (ih v15 (qw (a4 + 1)) h13)
theorem F_DX9_calm  (a1 : Int) (h : qH)  : Fp (fun (i k : Nat) => (14 ≤ i ∧ i ≤ 15) ∨ i = 156 ∨ i = 163 ∨ i = 225) h (DX9_calm a1 h) := by
  unfold DX9_calm
  refine Fp_ite (fun gc => ?_) (fun gc => ?_)
  · exact Fp_some
  · refine Fp_ite (fun gc => ?_) (fun gc => ?_)
    · refine Fp_bd (F_DX9_followAll a1 h) (fun r16 h17 => ?_)
      exact (F_DX9_calm_l25 LF 0 0 h17)
    · exact Fp_some
theorem F_DX9_caughtOn_l4   : ∀ (n : Nat) (a1 : Int) (a2 : Int) (a3 : Int) (h : qH), Fp (fun _ _ => False) h (DX9_caughtOn_l4  n a1 a2 a3 h) := by
  intro n
  induction n with
  | zero =>
    intro a1 a2 a3 h
    exact Fp_none
  | succ n ih =>
    intro a1 a2 a3 h
    rw [DX9_caughtOn_l4.eq_2]
    refine Fp_ite (fun gc => ?_) (fun gc => ?_)
    · exact Fp_some
    · refine Fp_ite (fun gc => ?_) (fun gc => ?_)
      · refine Fp_ite (fun gc => ?_) (fun gc => ?_)
        · exact (ih a1 a2 (qw (a3 + 1)) h)
        · refine Fp_let (fun v3 => ?_)
          exact (ih a1 v3 (qw (a3 + 1)) h)
      · exact Fp_none
theorem F_DX9_caughtOn  (a1 : Int) (h : qH)  : Fp (fun _ _ => False) h (DX9_caughtOn a1 h) := by
  unfold DX9_caughtOn
  exact (F_DX9_caughtOn_l4 LF a1 0 0 h)
theorem F_DX9_catches  (a1 : Int) (a2 : Int) (h : qH)  : Fp (fun (i k : Nat) => (14 ≤ i ∧ i ≤ 15) ∨ i = 156 ∨ i = 163 ∨ i = 225) h (DX9_catches a1 a2 h) := by
  unfold DX9_catches
  refine Fp_bd ((F_DX1_isCell 5 a1 h).mono (fun i k g => g.elim)) (fun r1 h2 => ?_)
  refine Fp_ite (fun gc => ?_) (fun gc => ?_)
  · refine Fp_ite (fun gc => ?_) (fun gc => ?_)
    · exact Fp_some
    · refine Fp_ite (fun gc => ?_) (fun gc => ?_)
      · refine Fp_bd ((F_DX1_isOpen 5 a1 h2).mono (fun i k g => g.elim)) (fun r4 h5 => ?_)
        refine Fp_ite (fun gc => ?_) (fun gc => ?_)
        · refine Fp_bd (F_DX9_followAll a2 h5) (fun r7 h8 => ?_)
          refine Fp_bd ((F_DX9_caughtOn a1 h8).mono (fun i k g => g.elim)) (fun r10 h11 => ?_)
          exact Fp_some
        · exact Fp_some
      · exact Fp_some
  · exact Fp_some
theorem F_DX9_cell  (a1 : Int) (h : qH)  : Fp (fun _ _ => False) h (DX9_cell a1 h) := by
  unfold DX9_cell
  refine Fp_bd ((F_DX1_isCell 5 a1 h).mono (fun i k g => g.elim)) (fun r1 h2 => ?_)
  refine Fp_ite (fun gc => ?_) (fun gc => ?_)
  · exact Fp_some
  · refine Fp_ite (fun gc => ?_) (fun gc => ?_)
    · exact Fp_some
    · exact Fp_none
theorem F_DX0_place  (i0 : Nat) (h : qH)  : Fp (fun _ _ => False) h (DX0_place i0 h) := by
  unfold DX0_place
  refine Fp_ite (fun gc => ?_) (fun gc => ?_)
  · exact Fp_some
  · refine Fp_ite (fun gc => ?_) (fun gc => ?_)
    · exact Fp_some
    · exact Fp_some
theorem F_DX9_comesTo_l43   : ∀ (n : Nat) (a2 : Int) (a3 : Int) (h : qH), Fp (fun (i k : Nat) => (14 ≤ i ∧ i ≤ 15) ∨ i = 156 ∨ i = 225) h (DX9_comesTo_l43  n a2 a3 h) := by
  intro n
  induction n with
  | zero =>
    intro a2 a3 h
    exact Fp_none
  | succ n ih =>
    intro a2 a3 h
    rw [DX9_comesTo_l43.eq_2]
    refine Fp_ite (fun gc => ?_) (fun gc => ?_)
    · exact Fp_some
    · refine Fp_bd ((F_DX0_place 156 h).mono (fun i k g => g.elim)) (fun r1 h2 => ?_)
      refine Fp_ite (fun gc => ?_) (fun gc => ?_)
      · refine Fp_bd ((F_DX2_carry 156 (qw (h2.1 24 2 + a3)) h2).mono (fun i k g => by rcases g with g | g | g <;> omega)) (fun r4 h5 => ?_)
        exact (ih a2 (qw (a3 + 1)) h5)
      · exact Fp_some
theorem F_DX9_comesTo  (a1 : Int) (a2 : Int) (h : qH)  : Fp (fun (i k : Nat) => (14 ≤ i ∧ i ≤ 15) ∨ i = 156 ∨ i = 225) h (DX9_comesTo a1 a2 h) := by
  unfold DX9_comesTo
  refine Fp_bd ((F_DX7_has 24 a1 h).mono (fun i k g => g.elim)) (fun r7 h8 => ?_)
  refine Fp_ite (fun gc => ?_) (fun gc => ?_)
  · exact Fp_some
  · refine Fp_bd ((F_DX1_isCell 5 a2 h8).mono (fun i k g => g.elim)) (fun r10 h11 => ?_)
    refine Fp_ite (fun gc => ?_) (fun gc => ?_)
    · refine Fp_ite (fun gc => ?_) (fun gc => ?_)
      · refine Fp_bd ((F_DX0_takeFrom 156 (26 + a1.toNat) h11).mono (fun i k g => by omega)) (fun r15 h16 => ?_)
        exact (F_DX9_comesTo_l43 LF a2 0 h16)
      · exact Fp_none
    · exact Fp_some
theorem F_DX7_countOf_l4   : ∀ (n : Nat) (i0 : Nat) (a1 : Int) (a2 : Int) (a3 : Int) (h : qH), Fp (fun _ _ => False) h (DX7_countOf_l4  n i0 a1 a2 a3 h) := by
  intro n
  induction n with
  | zero =>
    intro i0 a1 a2 a3 h
    exact Fp_none
  | succ n ih =>
    intro i0 a1 a2 a3 h
    rw [DX7_countOf_l4.eq_2]
    refine Fp_ite (fun gc => ?_) (fun gc => ?_)
    · exact Fp_some
    · refine Fp_ite (fun gc => ?_) (fun gc => ?_)
      · exact Fp_some
      · refine Fp_ite (fun gc => ?_) (fun gc => ?_)
        · refine Fp_ite (fun gc => ?_) (fun gc => ?_)
          · exact (ih i0 a1 a2 (qw (a3 + 1)) h)
          · refine Fp_let (fun v3 => ?_)
            exact (ih i0 a1 v3 (qw (a3 + 1)) h)
        · exact Fp_none
theorem F_DX7_countOf  (i0 : Nat) (a1 : Int) (h : qH)  : Fp (fun _ _ => False) h (DX7_countOf i0 a1 h) := by
  unfold DX7_countOf
  exact (F_DX7_countOf_l4 LF i0 a1 0 0 h)
theorem F_DX9_count  (a1 : Int) (h : qH)  : Fp (fun _ _ => False) h (DX9_count a1 h) := by
  unfold DX9_count
  refine Fp_ite (fun gc => ?_) (fun gc => ?_)
  · exact Fp_some
  · refine Fp_ite (fun gc => ?_) (fun gc => ?_)
    · exact Fp_some
    · refine Fp_ite (fun gc => ?_) (fun gc => ?_)
      · exact Fp_some
      · refine Fp_ite (fun gc => ?_) (fun gc => ?_)
        · exact Fp_some
        · refine Fp_ite (fun gc => ?_) (fun gc => ?_)
          · exact Fp_some
          · refine Fp_ite (fun gc => ?_) (fun gc => ?_)
            · refine Fp_bd ((F_DX7_countOf 24 0 h).mono (fun i k g => g.elim)) (fun r7 h8 => ?_)
              exact Fp_some
            · refine Fp_ite (fun gc => ?_) (fun gc => ?_)
              · refine Fp_bd ((F_DX7_countOf 24 2 h).mono (fun i k g => g.elim)) (fun r11 h12 => ?_)
                exact Fp_some
              · refine Fp_ite (fun gc => ?_) (fun gc => ?_)
                · exact Fp_some
                · refine Fp_ite (fun gc => ?_) (fun gc => ?_)
                  · refine Fp_bd ((F_DX1_phaseOf 5 (h.1 24 2) h).mono (fun i k g => g.elim)) (fun r16 h17 => ?_)
                    exact Fp_some
                  · refine Fp_ite (fun gc => ?_) (fun gc => ?_)
                    · refine Fp_bd ((F_DX1_moonOf 5 (h.1 24 2) h).mono (fun i k g => g.elim)) (fun r20 h21 => ?_)
                      exact Fp_some
                    · refine Fp_ite (fun gc => ?_) (fun gc => ?_)
                      · exact Fp_some
                      · refine Fp_ite (fun gc => ?_) (fun gc => ?_)
                        · exact Fp_some
                        · refine Fp_ite (fun gc => ?_) (fun gc => ?_)
                          · exact Fp_some
                          · refine Fp_ite (fun gc => ?_) (fun gc => ?_)
                            · exact Fp_some
                            · exact Fp_some
theorem F_DX9_current  (a1 : Int) (a2 : Int) (h : qH)  : Fp (fun _ _ => False) h (DX9_current a1 a2 h) := by
  unfold DX9_current
  refine Fp_bd ((F_DX1_isCell 5 a1 h).mono (fun i k g => g.elim)) (fun r1 h2 => ?_)
  refine Fp_ite (fun gc => ?_) (fun gc => ?_)
  · exact Fp_some
  · refine Fp_ite (fun gc => ?_) (fun gc => ?_)
    · exact Fp_some
    · refine Fp_ite (fun gc => ?_) (fun gc => ?_)
      · refine Fp_bd ((F_DX1_currentAt 5 a1 a2 h2).mono (fun i k g => g.elim)) (fun r4 h5 => ?_)
        exact Fp_some
      · exact Fp_some
theorem F_DX2_settle_b26 (k2 : Nat → Int → Int → qH → Option (Int × qH)) (i1 : Nat) (a2 : Int) (a3 : Int) (h : qH) (k2_h : ∀ (x1 : Int) (x2 : Int) (hx : qH), Fp (fun (i k : Nat) => (14 ≤ i ∧ i ≤ 15) ∨ i = 225 ∨ i = i1) hx (k2 i1 x1 x2 hx)) : Fp (fun (i k : Nat) => (14 ≤ i ∧ i ≤ 15) ∨ i = 225 ∨ i = i1) h (DX2_settle_b26 k2 i1 a2 a3 h) := by
  unfold DX2_settle_b26
  refine Fp_bd ((F_DX2_carry i1 (qw (a2 + a3)) h).mono (fun i k g => by rcases g with g | g | g <;> omega)) (fun r1 h2 => ?_)
  exact (k2_h a2 (qw (a3 + 1)) h2)
theorem F_DX2_settle_l2   : ∀ (n : Nat) (i1 : Nat) (a2 : Int) (a3 : Int) (h : qH), Fp (fun (i k : Nat) => (14 ≤ i ∧ i ≤ 15) ∨ i = 225 ∨ i = i1) h (DX2_settle_l2  n i1 a2 a3 h) := by
  intro n
  induction n with
  | zero =>
    intro i1 a2 a3 h
    exact Fp_none
  | succ n ih =>
    intro i1 a2 a3 h
    rw [DX2_settle_l2.eq_2]
    refine Fp_ite (fun gc => ?_) (fun gc => ?_)
    · refine Fp_ite (fun gc => ?_) (fun gc => ?_)
      · exact Fp_some
      · refine Fp_ite (fun gc => ?_) (fun gc => ?_)
        · exact Fp_some
        · exact Fp_some
    · refine Fp_ite (fun gc => ?_) (fun gc => ?_)
      · exact (F_DX2_settle_b26 (DX2_settle_l2 n) i1 a2 a3 h (fun x1 x2 hx => ih i1 x1 x2 hx))
      · refine Fp_ite (fun gc => ?_) (fun gc => ?_)
        · exact (F_DX2_settle_b26 (DX2_settle_l2 n) i1 a2 a3 h (fun x1 x2 hx => ih i1 x1 x2 hx))
        · exact Fp_some
theorem F_DX2_settle  (i1 : Nat) (a2 : Int) (h : qH)  : Fp (fun (i k : Nat) => (14 ≤ i ∧ i ≤ 15) ∨ i = 225 ∨ i = i1) h (DX2_settle i1 a2 h) := by
  unfold DX2_settle
  exact (F_DX2_settle_l2 LF i1 a2 0 h)
theorem F_DX9_deadly_l5   : ∀ (n : Nat) (a1 : Int) (a2 : Int) (a4 : Int) (h : qH), Fp (fun (i k : Nat) => (14 ≤ i ∧ i ≤ 15) ∨ i = 156 ∨ i = 225) h (DX9_deadly_l5  n a1 a2 a4 h) := by
  intro n
  induction n with
  | zero =>
    intro a1 a2 a4 h
    exact Fp_none
  | succ n ih =>
    intro a1 a2 a4 h
    rw [DX9_deadly_l5.eq_2]
    refine Fp_bd ((F_DX1_cells 5 h).mono (fun i k g => g.elim)) (fun r1 h2 => ?_)
    refine Fp_ite (fun gc => ?_) (fun gc => ?_)
    · exact Fp_some
    · refine Fp_bd ((F_DX1_isOpen 5 a4 h2).mono (fun i k g => g.elim)) (fun r4 h5 => ?_)
      refine Fp_ite (fun gc => ?_) (fun gc => ?_)
      · exact (ih a1 a2 (qw (a4 + 1)) h5)
      · refine Fp_bd ((F_DX0_launch 156 (-1) (-1) a1 a4 h5).mono (fun i k g => by omega)) (fun r7 h8 => ?_)
        refine Fp_bd ((F_DX2_settle 156 (h8.1 24 2) h8).mono (fun i k g => by rcases g with g | g | g <;> omega)) (fun r10 h11 => ?_)
        refine Fp_ite (fun gc => ?_) (fun gc => ?_)
        · exact (ih a1 a2 (qw (a4 + 1)) h11)
        · refine Fp_let (fun v13 => ?_)
          exact (ih a1 v13 (qw (a4 + 1)) h11)
theorem F_DX9_deadly  (a1 : Int) (h : qH)  : Fp (fun (i k : Nat) => (14 ≤ i ∧ i ≤ 15) ∨ i = 156 ∨ i = 225) h (DX9_deadly a1 h) := by
  unfold DX9_deadly
  exact (F_DX9_deadly_l5 LF a1 0 0 h)
theorem F_DX9_toldTo  (a0 : Int) (h : qH)  : Fp (fun _ _ => False) h (DX9_toldTo a0 h) := by
  unfold DX9_toldTo
  refine Fp_let (fun v1 => ?_)
  refine Fp_ite (fun gc => ?_) (fun gc => ?_)
  · exact Fp_some
  · exact Fp_some
theorem F_DX7_ebb_l2   : ∀ (n : Nat) (i0 : Nat) (a2 : Int) (h : qH), Fp (fun (i k : Nat) => (14 ≤ i ∧ i ≤ 15) ∨ i = 225 ∨ i = i0 ∨ (i0 + 2 ≤ i ∧ i ≤ i0 + 9)) h (DX7_ebb_l2  n i0 a2 h) := by
  intro n
  induction n with
  | zero =>
    intro i0 a2 h
    exact Fp_none
  | succ n ih =>
    intro i0 a2 h
    rw [DX7_ebb_l2.eq_2]
    refine Fp_ite (fun gc => ?_) (fun gc => ?_)
    · refine Fp_qu (by first | omega | (simp only []; omega)) (fun h1 => ?_)
      exact Fp_some
    · refine Fp_ite (fun gc => ?_) (fun gc => ?_)
      · refine Fp_qu (by first | omega | (simp only []; omega)) (fun h2 => ?_)
        exact Fp_some
      · refine Fp_ite (fun gc => ?_) (fun gc => ?_)
        · refine Fp_bd ((F_DX2_carry (i0 + 2 + a2.toNat) (h.1 i0 2) h).mono (fun i k g => by rcases g with g | g | g <;> omega)) (fun r5 h6 => ?_)
          exact (ih i0 (qw (a2 + 1)) h6)
        · exact Fp_none
theorem F_DX7_ebb  (i0 : Nat) (h : qH)  : Fp (fun (i k : Nat) => (14 ≤ i ∧ i ≤ 15) ∨ i = 225 ∨ i = i0 ∨ (i0 + 2 ≤ i ∧ i ≤ i0 + 9)) h (DX7_ebb i0 h) := by
  unfold DX7_ebb
  exact (F_DX7_ebb_l2 LF i0 0 h)
theorem F_DX7_launch  (i0 : Nat) (i1 : Nat) (a2 : Int) (a3 : Int) (a4 : Int) (h : qH)  : Fp (fun (i k : Nat) => i = i0 ∨ (i0 + 2 ≤ i ∧ i ≤ i0 + 9)) h (DX7_launch i0 i1 a2 a3 a4 h) := by
  unfold DX7_launch
  refine Fp_ite (fun gc => ?_) (fun gc => ?_)
  · exact Fp_some
  · refine Fp_ite (fun gc => ?_) (fun gc => ?_)
    · refine Fp_ite (fun gc => ?_) (fun gc => ?_)
      · refine Fp_bd ((F_DX1_throwCell i1 a2 h).mono (fun i k g => g.elim)) (fun r3 h4 => ?_)
        refine Fp_bd ((F_DX0_launch (i0 + 2 + (h.1 i0 1).toNat) a2 a3 a4 r3 h4).mono (fun i k g => by omega)) (fun r6 h7 => ?_)
        refine Fp_qu (by first | omega | (simp only []; omega)) (fun h9 => ?_)
        exact Fp_some
      · exact Fp_none
    · exact Fp_some
theorem F_DX7_raise  (i0 : Nat) (a1 : Int) (h : qH)  : Fp (fun (i k : Nat) => (i0 + 2 ≤ i ∧ i ≤ i0 + 9)) h (DX7_raise i0 a1 h) := by
  unfold DX7_raise
  refine Fp_bd ((F_DX7_has i0 a1 h).mono (fun i k g => g.elim)) (fun r1 h2 => ?_)
  refine Fp_ite (fun gc => ?_) (fun gc => ?_)
  · exact Fp_some
  · refine Fp_ite (fun gc => ?_) (fun gc => ?_)
    · refine Fp_qu (by first | omega | (simp only []; omega)) (fun h6 => ?_)
      exact Fp_some
    · exact Fp_none
theorem F_DX9_doOne  (i1 : Nat) (a2 : Int) (h : qH)  : Fp (fun (i k : Nat) => (14 ≤ i ∧ i ≤ 15) ∨ i = 225 ∨ i = i1 ∨ (i1 + 2 ≤ i ∧ i ≤ i1 + 9)) h (DX9_doOne i1 a2 h) := by
  unfold DX9_doOne
  refine Fp_ite (fun gc => ?_) (fun gc => ?_)
  · refine Fp_ite (fun gc => ?_) (fun gc => ?_)
    · refine Fp_bd ((F_DX9_toldTo a2 h).mono (fun i k g => g.elim)) (fun r1 h2 => ?_)
      refine Fp_ite (fun gc => ?_) (fun gc => ?_)
      · refine Fp_bd ((F_DX7_launch i1 5 (qdiv a2 100) r1 0 h2).mono (fun i k g => by rcases g with g | g <;> omega)) (fun r4 h5 => ?_)
        exact Fp_some
      · refine Fp_bd ((F_DX7_launch i1 5 (qdiv a2 100) r1 1 h2).mono (fun i k g => by rcases g with g | g <;> omega)) (fun r7 h8 => ?_)
        exact Fp_some
    · refine Fp_bd ((F_DX7_raise i1 (qw (a2 - 1000)) h).mono (fun i k g => by omega)) (fun r10 h11 => ?_)
      exact Fp_some
  · refine Fp_bd ((F_DX7_ebb i1 h).mono (fun i k g => by rcases g with g | g | g | g <;> omega)) (fun r13 h14 => ?_)
    exact Fp_some
theorem F_DX7_whyNotLifted  (i0 : Nat) (a1 : Int) (h : qH)  : Fp (fun _ _ => False) h (DX7_whyNotLifted i0 a1 h) := by
  unfold DX7_whyNotLifted
  refine Fp_bd ((F_DX7_has i0 a1 h).mono (fun i k g => g.elim)) (fun r1 h2 => ?_)
  refine Fp_ite (fun gc => ?_) (fun gc => ?_)
  · refine Fp_ite (fun gc => ?_) (fun gc => ?_)
    · refine Fp_ite (fun gc => ?_) (fun gc => ?_)
      · exact Fp_some
      · exact Fp_some
    · exact Fp_none
  · exact Fp_some
theorem F_DX7_whyNotThrown_b28  (i0 : Nat) (i1 : Nat) (a2 : Int) (h : qH)  : Fp (fun _ _ => False) h (DX7_whyNotThrown_b28 i0 i1 a2 h) := by
  unfold DX7_whyNotThrown_b28
  refine Fp_bd ((F_DX1_throwCell i1 a2 h).mono (fun i k g => g.elim)) (fun r1 h2 => ?_)
  refine Fp_ite (fun gc => ?_) (fun gc => ?_)
  · refine Fp_ite (fun gc => ?_) (fun gc => ?_)
    · exact Fp_some
    · exact Fp_some
  · exact Fp_some
theorem F_DX7_whyNotThrown  (i0 : Nat) (i1 : Nat) (a2 : Int) (a3 : Int) (h : qH)  : Fp (fun _ _ => False) h (DX7_whyNotThrown i0 i1 a2 a3 h) := by
  unfold DX7_whyNotThrown
  refine Fp_bd ((F_DX1_isShore i1 a2 h).mono (fun i k g => g.elim)) (fun r4 h5 => ?_)
  refine Fp_ite (fun gc => ?_) (fun gc => ?_)
  · exact Fp_some
  · refine Fp_ite (fun gc => ?_) (fun gc => ?_)
    · exact Fp_some
    · refine Fp_ite (fun gc => ?_) (fun gc => ?_)
      · exact (F_DX7_whyNotThrown_b28 i0 i1 a2 h5)
      · refine Fp_bd ((F_DX1_isShore i1 a3 h5).mono (fun i k g => g.elim)) (fun r7 h8 => ?_)
        refine Fp_ite (fun gc => ?_) (fun gc => ?_)
        · exact (F_DX7_whyNotThrown_b28 i0 i1 a2 h8)
        · exact Fp_some
theorem F_DX9_whyNotDone  (i1 : Nat) (a2 : Int) (h : qH)  : Fp (fun _ _ => False) h (DX9_whyNotDone i1 a2 h) := by
  unfold DX9_whyNotDone
  refine Fp_ite (fun gc => ?_) (fun gc => ?_)
  · refine Fp_ite (fun gc => ?_) (fun gc => ?_)
    · exact Fp_some
    · refine Fp_ite (fun gc => ?_) (fun gc => ?_)
      · refine Fp_let (fun v1 => ?_)
        refine Fp_ite (fun gc => ?_) (fun gc => ?_)
        · refine Fp_ite (fun gc => ?_) (fun gc => ?_)
          · refine Fp_bd ((F_DX9_toldTo v1 h).mono (fun i k g => g.elim)) (fun r2 h3 => ?_)
            refine Fp_bd ((F_DX7_whyNotThrown i1 5 (qdiv v1 100) r2 h3).mono (fun i k g => g.elim)) (fun r5 h6 => ?_)
            exact Fp_some
          · exact Fp_some
        · refine Fp_bd ((F_DX7_whyNotLifted i1 (qw (v1 - 1000)) h).mono (fun i k g => g.elim)) (fun r8 h9 => ?_)
          exact Fp_some
      · exact Fp_some
  · exact Fp_some
theorem F_DX6_numberAt  (i0 : Nat) (a1 : Int) (h : qH)  : Fp (fun _ _ => False) h (DX6_numberAt i0 a1 h) := by
  unfold DX6_numberAt
  refine Fp_ite (fun gc => ?_) (fun gc => ?_)
  · exact Fp_some
  · refine Fp_ite (fun gc => ?_) (fun gc => ?_)
    · exact Fp_some
    · refine Fp_ite (fun gc => ?_) (fun gc => ?_)
      · exact Fp_some
      · exact Fp_none
theorem F_DX9_doAll_l2   : ∀ (n : Nat) (i1 : Nat) (i2 : Nat) (a3 : Int) (h : qH), Fp (fun (i k : Nat) => (14 ≤ i ∧ i ≤ 15) ∨ i = 225 ∨ i = i1 ∨ (i1 + 2 ≤ i ∧ i ≤ i1 + 9)) h (DX9_doAll_l2  n i1 i2 a3 h) := by
  intro n
  induction n with
  | zero =>
    intro i1 i2 a3 h
    exact Fp_none
  | succ n ih =>
    intro i1 i2 a3 h
    rw [DX9_doAll_l2.eq_2]
    refine Fp_ite (fun gc => ?_) (fun gc => ?_)
    · exact Fp_some
    · refine Fp_bd ((F_DX6_numberAt i2 a3 h).mono (fun i k g => g.elim)) (fun r1 h2 => ?_)
      refine Fp_bd ((F_DX9_whyNotDone i1 r1 h2).mono (fun i k g => g.elim)) (fun r4 h5 => ?_)
      refine Fp_ite (fun gc => ?_) (fun gc => ?_)
      · refine Fp_bd ((F_DX9_doOne i1 (qw r1) h5).mono (fun i k g => by rcases g with g | g | g | g <;> omega)) (fun r7 h8 => ?_)
        exact (ih i1 i2 (qw (a3 + 1)) h8)
      · exact Fp_some
theorem F_DX9_doAll  (i1 : Nat) (i2 : Nat) (h : qH)  : Fp (fun (i k : Nat) => (14 ≤ i ∧ i ≤ 15) ∨ i = 225 ∨ i = i1 ∨ (i1 + 2 ≤ i ∧ i ≤ i1 + 9)) h (DX9_doAll i1 i2 h) := by
  unfold DX9_doAll
  exact (F_DX9_doAll_l2 LF i1 i2 0 h)
theorem F_DX9_drawn  (a0 : Int) (h : qH)  : Fp (fun _ _ => False) h (DX9_drawn a0 h) := by
  unfold DX9_drawn
  exact Fp_some
theorem F_DX9_eddy_l41   : ∀ (n : Nat) (a1 : Int) (a3 : Int) (h : qH), Fp (fun (i k : Nat) => (14 ≤ i ∧ i ≤ 15) ∨ i = 156 ∨ i = 225) h (DX9_eddy_l41  n a1 a3 h) := by
  intro n
  induction n with
  | zero =>
    intro a1 a3 h
    exact Fp_none
  | succ n ih =>
    intro a1 a3 h
    rw [DX9_eddy_l41.eq_2]
    refine Fp_ite (fun gc => ?_) (fun gc => ?_)
    · exact Fp_some
    · refine Fp_bd ((F_DX2_go 156 (qw (qw (h.1 24 2 + a3) - 1)) h).mono (fun i k g => by rcases g with g | g | g <;> omega)) (fun r1 h2 => ?_)
      refine Fp_ite (fun gc => ?_) (fun gc => ?_)
      · refine Fp_ite (fun gc => ?_) (fun gc => ?_)
        · exact (ih a1 (qw (a3 + 1)) h2)
        · refine Fp_bd ((F_DX1_phaseOf 5 a3 h2).mono (fun i k g => g.elim)) (fun r4 h5 => ?_)
          refine Fp_ite (fun gc => ?_) (fun gc => ?_)
          · exact (ih a1 (qw (a3 + 1)) h5)
          · refine Fp_bd ((F_DX1_moonOf 5 a3 h5).mono (fun i k g => g.elim)) (fun r7 h8 => ?_)
            refine Fp_ite (fun gc => ?_) (fun gc => ?_)
            · exact (ih a1 (qw (a3 + 1)) h8)
            · exact Fp_some
      · exact Fp_some
theorem F_DX9_eddy  (a1 : Int) (a2 : Int) (h : qH)  : Fp (fun (i k : Nat) => (14 ≤ i ∧ i ≤ 15) ∨ i = 156 ∨ i = 225) h (DX9_eddy a1 a2 h) := by
  unfold DX9_eddy
  refine Fp_bd ((F_DX1_isCell 5 a1 h).mono (fun i k g => g.elim)) (fun r10 h11 => ?_)
  refine Fp_ite (fun gc => ?_) (fun gc => ?_)
  · refine Fp_bd ((F_DX1_isOpen 5 a1 h11).mono (fun i k g => g.elim)) (fun r13 h14 => ?_)
    refine Fp_ite (fun gc => ?_) (fun gc => ?_)
    · refine Fp_bd ((F_DX0_launch 156 (-1) (-1) a2 a1 h14).mono (fun i k g => by omega)) (fun r16 h17 => ?_)
      exact (F_DX9_eddy_l41 LF a1 1 h17)
    · exact Fp_some
  · exact Fp_some
theorem F_DX9_fate  (a1 : Int) (a2 : Int) (h : qH)  : Fp (fun (i k : Nat) => (14 ≤ i ∧ i ≤ 15) ∨ i = 156 ∨ i = 225) h (DX9_fate a1 a2 h) := by
  unfold DX9_fate
  refine Fp_bd ((F_DX7_has 24 a1 h).mono (fun i k g => g.elim)) (fun r1 h2 => ?_)
  refine Fp_ite (fun gc => ?_) (fun gc => ?_)
  · exact Fp_some
  · refine Fp_ite (fun gc => ?_) (fun gc => ?_)
    · exact Fp_some
    · refine Fp_ite (fun gc => ?_) (fun gc => ?_)
      · refine Fp_ite (fun gc => ?_) (fun gc => ?_)
        · refine Fp_bd ((F_DX0_takeFrom 156 (26 + a1.toNat) h2).mono (fun i k g => by omega)) (fun r6 h7 => ?_)
          refine Fp_bd ((F_DX2_settle 156 (h7.1 24 2) h7).mono (fun i k g => by rcases g with g | g | g <;> omega)) (fun r9 h10 => ?_)
          refine Fp_ite (fun gc => ?_) (fun gc => ?_)
          · refine Fp_ite (fun gc => ?_) (fun gc => ?_)
            · exact Fp_some
            · exact Fp_some
          · exact Fp_some
        · exact Fp_none
      · exact Fp_some
theorem F_DX9_fault  (a1 : Int) (h : qH)  : Fp (fun _ _ => False) h (DX9_fault a1 h) := by
  unfold DX9_fault
  refine Fp_ite (fun gc => ?_) (fun gc => ?_)
  · refine Fp_ite (fun gc => ?_) (fun gc => ?_)
    · exact Fp_some
    · exact Fp_some
  · exact Fp_some
theorem F_DX9_tapeFour_l3   : ∀ (n : Nat) (a1 : Int) (a2 : Int) (h : qH), Fp (fun (i k : Nat) => (i = 0 ∧ k = 1) ∨ i = 1) h (DX9_tapeFour_l3  n a1 a2 h) := by
  intro n
  induction n with
  | zero =>
    intro a1 a2 h
    exact Fp_none
  | succ n ih =>
    intro a1 a2 h
    rw [DX9_tapeFour_l3.eq_2]
    refine Fp_ite (fun gc => ?_) (fun gc => ?_)
    · exact Fp_some
    · refine Fp_ite (fun gc => ?_) (fun gc => ?_)
      · exact (ih a1 (qw (a2 + (-8))) h)
      · refine Fp_ite (fun gc => ?_) (fun gc => ?_)
        · exact (ih a1 (qw (a2 + (-8))) h)
        · refine Fp_ite (fun gc => ?_) (fun gc => ?_)
          · refine Fp_qu (by first | omega | (simp only []; omega)) (fun h1 => ?_)
            refine Fp_qu (by first | omega | (simp only []; omega)) (fun h2 => ?_)
            exact (ih a1 (qw (a2 + (-8))) h2)
          · exact Fp_none
theorem F_DX9_tapeFour  (a1 : Int) (h : qH)  : Fp (fun (i k : Nat) => (i = 0 ∧ k = 1) ∨ i = 1) h (DX9_tapeFour a1 h) := by
  unfold DX9_tapeFour
  exact (F_DX9_tapeFour_l3 LF a1 24 h)
theorem F_DX9_feed  (a1 : Int) (a2 : Int) (a3 : Int) (a4 : Int) (a5 : Int) (h : qH)  : Fp (fun (i k : Nat) => (i = 0 ∧ k = 1) ∨ i = 1) h (DX9_feed a1 a2 a3 a4 a5 h) := by
  unfold DX9_feed
  refine Fp_ite (fun gc => ?_) (fun gc => ?_)
  · refine Fp_bd (F_DX9_tapeFour a1 h) (fun r1 h2 => ?_)
    refine Fp_bd (F_DX9_tapeFour a2 h2) (fun r4 h5 => ?_)
    refine Fp_bd (F_DX9_tapeFour a3 h5) (fun r7 h8 => ?_)
    refine Fp_bd (F_DX9_tapeFour a4 h8) (fun r10 h11 => ?_)
    refine Fp_bd (F_DX9_tapeFour a5 h11) (fun r13 h14 => ?_)
    exact Fp_some
  · exact Fp_some
theorem F_DX1_takeFrom  (i0 : Nat) (i1 : Nat) (h : qH)  : Fp (fun (i k : Nat) => (i0 ≤ i ∧ i ≤ i0 + 7)) h (DX1_takeFrom i0 i1 h) := by
  unfold DX1_takeFrom
  refine Fp_cp (fun _ => by first | omega | (simp only []; omega)) (fun h1 => ?_)
  refine Fp_cp (fun _ => by first | omega | (simp only []; omega)) (fun h2 => ?_)
  refine Fp_cp (fun _ => by first | omega | (simp only []; omega)) (fun h3 => ?_)
  refine Fp_cp (fun _ => by first | omega | (simp only []; omega)) (fun h4 => ?_)
  refine Fp_cp (fun _ => by first | omega | (simp only []; omega)) (fun h5 => ?_)
  refine Fp_cp (fun _ => by first | omega | (simp only []; omega)) (fun h6 => ?_)
  refine Fp_cp (fun _ => by first | omega | (simp only []; omega)) (fun h7 => ?_)
  refine Fp_qu (by first | omega | (simp only []; omega)) (fun h8 => ?_)
  refine Fp_qu (by first | omega | (simp only []; omega)) (fun h9 => ?_)
  refine Fp_qu (by first | omega | (simp only []; omega)) (fun h10 => ?_)
  refine Fp_qu (by first | omega | (simp only []; omega)) (fun h11 => ?_)
  refine Fp_qu (by first | omega | (simp only []; omega)) (fun h12 => ?_)
  refine Fp_qu (by first | omega | (simp only []; omega)) (fun h13 => ?_)
  refine Fp_qu (by first | omega | (simp only []; omega)) (fun h14 => ?_)
  refine Fp_qu (by first | omega | (simp only []; omega)) (fun h15 => ?_)
  refine Fp_qu (by first | omega | (simp only []; omega)) (fun h16 => ?_)
  refine Fp_qu (by first | omega | (simp only []; omega)) (fun h17 => ?_)
  refine Fp_qu (by first | omega | (simp only []; omega)) (fun h18 => ?_)
  refine Fp_qu (by first | omega | (simp only []; omega)) (fun h19 => ?_)
  refine Fp_qu (by first | omega | (simp only []; omega)) (fun h20 => ?_)
  exact Fp_some
