/-! ===== frames, printed by wip/whole/gen/gen_frames.py ===== -/
theorem F_DX4_unit_b122 (f_X4_truth : Int → qH → Option (Int × qH)) (f_X4_both : Int → qH → Option (Int × qH)) (f_X4_unit : Int → qH → Option (Int × qH)) (f_X4_sum : Int → Int → qH → Option (Int × qH)) (f_X4_term : Int → Int → qH → Option (Int × qH)) (f_X4_atom : Int → Int → qH → Option (Int × qH)) (a1 : Int) (a3 : Int) (h : qH) (f_X4_truth_h : ∀ (x0 : Int) (hx : qH), Fp (fun (i k : Nat) => (i = 2 ∧ 1 ≤ k ∧ k ≤ 2) ∨ (i = 2 ∧ 5 ≤ k ∧ k ≤ 9) ∨ i = 23) hx (f_X4_truth x0 hx)) (f_X4_both_h : ∀ (x0 : Int) (hx : qH), Fp (fun (i k : Nat) => (i = 2 ∧ 1 ≤ k ∧ k ≤ 2) ∨ (i = 2 ∧ 5 ≤ k ∧ k ≤ 9) ∨ i = 23) hx (f_X4_both x0 hx)) (f_X4_unit_h : ∀ (x0 : Int) (hx : qH), Fp (fun (i k : Nat) => (i = 2 ∧ 1 ≤ k ∧ k ≤ 2) ∨ (i = 2 ∧ 5 ≤ k ∧ k ≤ 9) ∨ i = 23) hx (f_X4_unit x0 hx)) (f_X4_sum_h : ∀ (x0 : Int) (x1 : Int) (hx : qH), Fp (fun (i k : Nat) => (i = 2 ∧ 1 ≤ k ∧ k ≤ 2) ∨ (i = 2 ∧ 5 ≤ k ∧ k ≤ 9) ∨ i = 23) hx (f_X4_sum x0 x1 hx)) (f_X4_term_h : ∀ (x0 : Int) (x1 : Int) (hx : qH), Fp (fun (i k : Nat) => (i = 2 ∧ 1 ≤ k ∧ k ≤ 2) ∨ (i = 2 ∧ 5 ≤ k ∧ k ≤ 9) ∨ i = 23) hx (f_X4_term x0 x1 hx)) (f_X4_atom_h : ∀ (x0 : Int) (x1 : Int) (hx : qH), Fp (fun (i k : Nat) => (i = 2 ∧ 1 ≤ k ∧ k ≤ 2) ∨ (i = 2 ∧ 5 ≤ k ∧ k ≤ 9) ∨ i = 23) hx (f_X4_atom x0 x1 hx)) : Fp (fun (i k : Nat) => (i = 2 ∧ 1 ≤ k ∧ k ≤ 2) ∨ (i = 2 ∧ 5 ≤ k ∧ k ≤ 9) ∨ i = 23) h (DX4_unit_b122 f_X4_truth f_X4_both f_X4_unit f_X4_sum f_X4_term f_X4_atom a1 a3 h) := by
  unfold DX4_unit_b122
  refine Fp_bd ((F_DX4_advance h).mono (fun i k g => by omega)) (fun r19 h20 => ?_)
  refine Fp_bd (f_X4_sum_h a1 1 h20) (fun r22 h23 => ?_)
  refine Fp_bd ((F_DX4_emit (qw (2000 + a3)) h23).mono (fun i k g => by rcases g with g | g <;> omega)) (fun r25 h26 => ?_)
  refine Fp_ite (fun gc => ?_) (fun gc => ?_)
  · exact Fp_some
  · exact Fp_none
theorem F_DX4_unit (f_X4_truth : Int → qH → Option (Int × qH)) (f_X4_both : Int → qH → Option (Int × qH)) (f_X4_unit : Int → qH → Option (Int × qH)) (f_X4_sum : Int → Int → qH → Option (Int × qH)) (f_X4_term : Int → Int → qH → Option (Int × qH)) (f_X4_atom : Int → Int → qH → Option (Int × qH)) (a1 : Int) (h : qH) (f_X4_truth_h : ∀ (x0 : Int) (hx : qH), Fp (fun (i k : Nat) => (i = 2 ∧ 1 ≤ k ∧ k ≤ 2) ∨ (i = 2 ∧ 5 ≤ k ∧ k ≤ 9) ∨ i = 23) hx (f_X4_truth x0 hx)) (f_X4_both_h : ∀ (x0 : Int) (hx : qH), Fp (fun (i k : Nat) => (i = 2 ∧ 1 ≤ k ∧ k ≤ 2) ∨ (i = 2 ∧ 5 ≤ k ∧ k ≤ 9) ∨ i = 23) hx (f_X4_both x0 hx)) (f_X4_unit_h : ∀ (x0 : Int) (hx : qH), Fp (fun (i k : Nat) => (i = 2 ∧ 1 ≤ k ∧ k ≤ 2) ∨ (i = 2 ∧ 5 ≤ k ∧ k ≤ 9) ∨ i = 23) hx (f_X4_unit x0 hx)) (f_X4_sum_h : ∀ (x0 : Int) (x1 : Int) (hx : qH), Fp (fun (i k : Nat) => (i = 2 ∧ 1 ≤ k ∧ k ≤ 2) ∨ (i = 2 ∧ 5 ≤ k ∧ k ≤ 9) ∨ i = 23) hx (f_X4_sum x0 x1 hx)) (f_X4_term_h : ∀ (x0 : Int) (x1 : Int) (hx : qH), Fp (fun (i k : Nat) => (i = 2 ∧ 1 ≤ k ∧ k ≤ 2) ∨ (i = 2 ∧ 5 ≤ k ∧ k ≤ 9) ∨ i = 23) hx (f_X4_term x0 x1 hx)) (f_X4_atom_h : ∀ (x0 : Int) (x1 : Int) (hx : qH), Fp (fun (i k : Nat) => (i = 2 ∧ 1 ≤ k ∧ k ≤ 2) ∨ (i = 2 ∧ 5 ≤ k ∧ k ≤ 9) ∨ i = 23) hx (f_X4_atom x0 x1 hx)) : Fp (fun (i k : Nat) => (i = 2 ∧ 1 ≤ k ∧ k ≤ 2) ∨ (i = 2 ∧ 5 ≤ k ∧ k ≤ 9) ∨ i = 23) h (DX4_unit f_X4_truth f_X4_both f_X4_unit f_X4_sum f_X4_term f_X4_atom a1 h) := by
  unfold DX4_unit
  refine Fp_bd ((F_DX4_isWord 24 h).mono (fun i k g => g.elim)) (fun r28 h29 => ?_)
  refine Fp_ite (fun gc => ?_) (fun gc => ?_)
  · exact (F_DX4_unit_b20 f_X4_truth f_X4_both f_X4_unit f_X4_sum f_X4_term f_X4_atom a1 r28 h29 f_X4_truth_h f_X4_both_h f_X4_unit_h f_X4_sum_h f_X4_term_h f_X4_atom_h)
  · refine Fp_ite (fun gc => ?_) (fun gc => ?_)
    · refine Fp_bd (f_X4_sum_h a1 1 h29) (fun r31 h32 => ?_)
      refine Fp_ite (fun gc => ?_) (fun gc => ?_)
      · refine Fp_let (fun v34 => ?_)
        refine Fp_ite (fun gc => ?_) (fun gc => ?_)
        · exact (F_DX4_unit_b122 f_X4_truth f_X4_both f_X4_unit f_X4_sum f_X4_term f_X4_atom a1 v34 h32 f_X4_truth_h f_X4_both_h f_X4_unit_h f_X4_sum_h f_X4_term_h f_X4_atom_h)
        · refine Fp_ite (fun gc => ?_) (fun gc => ?_)
          · exact (F_DX4_unit_b122 f_X4_truth f_X4_both f_X4_unit f_X4_sum f_X4_term f_X4_atom a1 v34 h32 f_X4_truth_h f_X4_both_h f_X4_unit_h f_X4_sum_h f_X4_term_h f_X4_atom_h)
          · refine Fp_ite (fun gc => ?_) (fun gc => ?_)
            · exact (F_DX4_unit_b122 f_X4_truth f_X4_both f_X4_unit f_X4_sum f_X4_term f_X4_atom a1 v34 h32 f_X4_truth_h f_X4_both_h f_X4_unit_h f_X4_sum_h f_X4_term_h f_X4_atom_h)
            · refine Fp_bd ((F_DX4_refuse 2 h32).mono (fun i k g => by omega)) (fun r35 h36 => ?_)
              refine Fp_ite (fun gc => ?_) (fun gc => ?_)
              · exact Fp_some
              · exact Fp_none
      · exact Fp_some
    · exact (F_DX4_unit_b20 f_X4_truth f_X4_both f_X4_unit f_X4_sum f_X4_term f_X4_atom a1 r28 h29 f_X4_truth_h f_X4_both_h f_X4_unit_h f_X4_sum_h f_X4_term_h f_X4_atom_h)
theorem F_DX4_both_l8 (f_X4_truth : Int → qH → Option (Int × qH)) (f_X4_both : Int → qH → Option (Int × qH)) (f_X4_unit : Int → qH → Option (Int × qH)) (f_X4_sum : Int → Int → qH → Option (Int × qH)) (f_X4_term : Int → Int → qH → Option (Int × qH)) (f_X4_atom : Int → Int → qH → Option (Int × qH)) (f_X4_truth_h : ∀ (x0 : Int) (hx : qH), Fp (fun (i k : Nat) => (i = 2 ∧ 1 ≤ k ∧ k ≤ 2) ∨ (i = 2 ∧ 5 ≤ k ∧ k ≤ 9) ∨ i = 23) hx (f_X4_truth x0 hx)) (f_X4_both_h : ∀ (x0 : Int) (hx : qH), Fp (fun (i k : Nat) => (i = 2 ∧ 1 ≤ k ∧ k ≤ 2) ∨ (i = 2 ∧ 5 ≤ k ∧ k ≤ 9) ∨ i = 23) hx (f_X4_both x0 hx)) (f_X4_unit_h : ∀ (x0 : Int) (hx : qH), Fp (fun (i k : Nat) => (i = 2 ∧ 1 ≤ k ∧ k ≤ 2) ∨ (i = 2 ∧ 5 ≤ k ∧ k ≤ 9) ∨ i = 23) hx (f_X4_unit x0 hx)) (f_X4_sum_h : ∀ (x0 : Int) (x1 : Int) (hx : qH), Fp (fun (i k : Nat) => (i = 2 ∧ 1 ≤ k ∧ k ≤ 2) ∨ (i = 2 ∧ 5 ≤ k ∧ k ≤ 9) ∨ i = 23) hx (f_X4_sum x0 x1 hx)) (f_X4_term_h : ∀ (x0 : Int) (x1 : Int) (hx : qH), Fp (fun (i k : Nat) => (i = 2 ∧ 1 ≤ k ∧ k ≤ 2) ∨ (i = 2 ∧ 5 ≤ k ∧ k ≤ 9) ∨ i = 23) hx (f_X4_term x0 x1 hx)) (f_X4_atom_h : ∀ (x0 : Int) (x1 : Int) (hx : qH), Fp (fun (i k : Nat) => (i = 2 ∧ 1 ≤ k ∧ k ≤ 2) ∨ (i = 2 ∧ 5 ≤ k ∧ k ≤ 9) ∨ i = 23) hx (f_X4_atom x0 x1 hx)) : ∀ (n : Nat) (a1 : Int) (a2 : Int) (a3 : Int) (h : qH), Fp (fun (i k : Nat) => (i = 2 ∧ 1 ≤ k ∧ k ≤ 2) ∨ (i = 2 ∧ 5 ≤ k ∧ k ≤ 9) ∨ i = 23) h (DX4_both_l8 f_X4_truth f_X4_both f_X4_unit f_X4_sum f_X4_term f_X4_atom n a1 a2 a3 h) := by
  intro n
  induction n with
  | zero =>
    intro a1 a2 a3 h
    exact Fp_none
  | succ n ih =>
    intro a1 a2 a3 h
    rw [DX4_both_l8.eq_2]
    refine Fp_ite (fun gc => ?_) (fun gc => ?_)
    · refine Fp_ite (fun gc => ?_) (fun gc => ?_)
      · exact Fp_some
      · exact Fp_none
    · refine Fp_ite (fun gc => ?_) (fun gc => ?_)
      · refine Fp_ite (fun gc => ?_) (fun gc => ?_)
        · exact Fp_some
        · exact Fp_none
      · refine Fp_bd ((F_DX4_isWord 25 h).mono (fun i k g => g.elim)) (fun r1 h2 => ?_)
        refine Fp_ite (fun gc => ?_) (fun gc => ?_)
        · refine Fp_ite (fun gc => ?_) (fun gc => ?_)
          · exact Fp_some
          · exact Fp_none
        · refine Fp_bd ((F_DX4_advance h2).mono (fun i k g => by omega)) (fun r4 h5 => ?_)
          refine Fp_bd (f_X4_unit_h a1 h5) (fun r7 h8 => ?_)
          refine Fp_bd ((F_DX4_emit 2002 h8).mono (fun i k g => by rcases g with g | g <;> omega)) (fun r10 h11 => ?_)
          exact (ih a1 r7 (qw (a3 + 1)) h11)
theorem F_DX4_both (f_X4_truth : Int → qH → Option (Int × qH)) (f_X4_both : Int → qH → Option (Int × qH)) (f_X4_unit : Int → qH → Option (Int × qH)) (f_X4_sum : Int → Int → qH → Option (Int × qH)) (f_X4_term : Int → Int → qH → Option (Int × qH)) (f_X4_atom : Int → Int → qH → Option (Int × qH)) (a1 : Int) (h : qH) (f_X4_truth_h : ∀ (x0 : Int) (hx : qH), Fp (fun (i k : Nat) => (i = 2 ∧ 1 ≤ k ∧ k ≤ 2) ∨ (i = 2 ∧ 5 ≤ k ∧ k ≤ 9) ∨ i = 23) hx (f_X4_truth x0 hx)) (f_X4_both_h : ∀ (x0 : Int) (hx : qH), Fp (fun (i k : Nat) => (i = 2 ∧ 1 ≤ k ∧ k ≤ 2) ∨ (i = 2 ∧ 5 ≤ k ∧ k ≤ 9) ∨ i = 23) hx (f_X4_both x0 hx)) (f_X4_unit_h : ∀ (x0 : Int) (hx : qH), Fp (fun (i k : Nat) => (i = 2 ∧ 1 ≤ k ∧ k ≤ 2) ∨ (i = 2 ∧ 5 ≤ k ∧ k ≤ 9) ∨ i = 23) hx (f_X4_unit x0 hx)) (f_X4_sum_h : ∀ (x0 : Int) (x1 : Int) (hx : qH), Fp (fun (i k : Nat) => (i = 2 ∧ 1 ≤ k ∧ k ≤ 2) ∨ (i = 2 ∧ 5 ≤ k ∧ k ≤ 9) ∨ i = 23) hx (f_X4_sum x0 x1 hx)) (f_X4_term_h : ∀ (x0 : Int) (x1 : Int) (hx : qH), Fp (fun (i k : Nat) => (i = 2 ∧ 1 ≤ k ∧ k ≤ 2) ∨ (i = 2 ∧ 5 ≤ k ∧ k ≤ 9) ∨ i = 23) hx (f_X4_term x0 x1 hx)) (f_X4_atom_h : ∀ (x0 : Int) (x1 : Int) (hx : qH), Fp (fun (i k : Nat) => (i = 2 ∧ 1 ≤ k ∧ k ≤ 2) ∨ (i = 2 ∧ 5 ≤ k ∧ k ≤ 9) ∨ i = 23) hx (f_X4_atom x0 x1 hx)) : Fp (fun (i k : Nat) => (i = 2 ∧ 1 ≤ k ∧ k ≤ 2) ∨ (i = 2 ∧ 5 ≤ k ∧ k ≤ 9) ∨ i = 23) h (DX4_both f_X4_truth f_X4_both f_X4_unit f_X4_sum f_X4_term f_X4_atom a1 h) := by
  unfold DX4_both
  refine Fp_bd (f_X4_unit_h a1 h) (fun r13 h14 => ?_)
  exact (F_DX4_both_l8 f_X4_truth f_X4_both f_X4_unit f_X4_sum f_X4_term f_X4_atom f_X4_truth_h f_X4_both_h f_X4_unit_h f_X4_sum_h f_X4_term_h f_X4_atom_h LF a1 r13 0 h14)
theorem F_DX4_truth_l8 (f_X4_truth : Int → qH → Option (Int × qH)) (f_X4_both : Int → qH → Option (Int × qH)) (f_X4_unit : Int → qH → Option (Int × qH)) (f_X4_sum : Int → Int → qH → Option (Int × qH)) (f_X4_term : Int → Int → qH → Option (Int × qH)) (f_X4_atom : Int → Int → qH → Option (Int × qH)) (f_X4_truth_h : ∀ (x0 : Int) (hx : qH), Fp (fun (i k : Nat) => (i = 2 ∧ 1 ≤ k ∧ k ≤ 2) ∨ (i = 2 ∧ 5 ≤ k ∧ k ≤ 9) ∨ i = 23) hx (f_X4_truth x0 hx)) (f_X4_both_h : ∀ (x0 : Int) (hx : qH), Fp (fun (i k : Nat) => (i = 2 ∧ 1 ≤ k ∧ k ≤ 2) ∨ (i = 2 ∧ 5 ≤ k ∧ k ≤ 9) ∨ i = 23) hx (f_X4_both x0 hx)) (f_X4_unit_h : ∀ (x0 : Int) (hx : qH), Fp (fun (i k : Nat) => (i = 2 ∧ 1 ≤ k ∧ k ≤ 2) ∨ (i = 2 ∧ 5 ≤ k ∧ k ≤ 9) ∨ i = 23) hx (f_X4_unit x0 hx)) (f_X4_sum_h : ∀ (x0 : Int) (x1 : Int) (hx : qH), Fp (fun (i k : Nat) => (i = 2 ∧ 1 ≤ k ∧ k ≤ 2) ∨ (i = 2 ∧ 5 ≤ k ∧ k ≤ 9) ∨ i = 23) hx (f_X4_sum x0 x1 hx)) (f_X4_term_h : ∀ (x0 : Int) (x1 : Int) (hx : qH), Fp (fun (i k : Nat) => (i = 2 ∧ 1 ≤ k ∧ k ≤ 2) ∨ (i = 2 ∧ 5 ≤ k ∧ k ≤ 9) ∨ i = 23) hx (f_X4_term x0 x1 hx)) (f_X4_atom_h : ∀ (x0 : Int) (x1 : Int) (hx : qH), Fp (fun (i k : Nat) => (i = 2 ∧ 1 ≤ k ∧ k ≤ 2) ∨ (i = 2 ∧ 5 ≤ k ∧ k ≤ 9) ∨ i = 23) hx (f_X4_atom x0 x1 hx)) : ∀ (n : Nat) (a1 : Int) (a2 : Int) (a3 : Int) (h : qH), Fp (fun (i k : Nat) => (i = 2 ∧ 1 ≤ k ∧ k ≤ 2) ∨ (i = 2 ∧ 5 ≤ k ∧ k ≤ 9) ∨ i = 23) h (DX4_truth_l8 f_X4_truth f_X4_both f_X4_unit f_X4_sum f_X4_term f_X4_atom n a1 a2 a3 h) := by
  intro n
  induction n with
  | zero =>
    intro a1 a2 a3 h
    exact Fp_none
  | succ n ih =>
    intro a1 a2 a3 h
    rw [DX4_truth_l8.eq_2]
    refine Fp_ite (fun gc => ?_) (fun gc => ?_)
    · refine Fp_ite (fun gc => ?_) (fun gc => ?_)
      · exact Fp_some
      · exact Fp_none
    · refine Fp_ite (fun gc => ?_) (fun gc => ?_)
      · refine Fp_ite (fun gc => ?_) (fun gc => ?_)
        · exact Fp_some
        · exact Fp_none
      · refine Fp_bd ((F_DX4_isWord 26 h).mono (fun i k g => g.elim)) (fun r1 h2 => ?_)
        refine Fp_ite (fun gc => ?_) (fun gc => ?_)
        · refine Fp_ite (fun gc => ?_) (fun gc => ?_)
          · exact Fp_some
          · exact Fp_none
        · refine Fp_bd ((F_DX4_advance h2).mono (fun i k g => by omega)) (fun r4 h5 => ?_)
          refine Fp_bd (f_X4_both_h a1 h5) (fun r7 h8 => ?_)
          refine Fp_bd ((F_DX4_emit 2001 h8).mono (fun i k g => by rcases g with g | g <;> omega)) (fun r10 h11 => ?_)
          exact (ih a1 r7 (qw (a3 + 1)) h11)
theorem F_DX4_truth (f_X4_truth : Int → qH → Option (Int × qH)) (f_X4_both : Int → qH → Option (Int × qH)) (f_X4_unit : Int → qH → Option (Int × qH)) (f_X4_sum : Int → Int → qH → Option (Int × qH)) (f_X4_term : Int → Int → qH → Option (Int × qH)) (f_X4_atom : Int → Int → qH → Option (Int × qH)) (a1 : Int) (h : qH) (f_X4_truth_h : ∀ (x0 : Int) (hx : qH), Fp (fun (i k : Nat) => (i = 2 ∧ 1 ≤ k ∧ k ≤ 2) ∨ (i = 2 ∧ 5 ≤ k ∧ k ≤ 9) ∨ i = 23) hx (f_X4_truth x0 hx)) (f_X4_both_h : ∀ (x0 : Int) (hx : qH), Fp (fun (i k : Nat) => (i = 2 ∧ 1 ≤ k ∧ k ≤ 2) ∨ (i = 2 ∧ 5 ≤ k ∧ k ≤ 9) ∨ i = 23) hx (f_X4_both x0 hx)) (f_X4_unit_h : ∀ (x0 : Int) (hx : qH), Fp (fun (i k : Nat) => (i = 2 ∧ 1 ≤ k ∧ k ≤ 2) ∨ (i = 2 ∧ 5 ≤ k ∧ k ≤ 9) ∨ i = 23) hx (f_X4_unit x0 hx)) (f_X4_sum_h : ∀ (x0 : Int) (x1 : Int) (hx : qH), Fp (fun (i k : Nat) => (i = 2 ∧ 1 ≤ k ∧ k ≤ 2) ∨ (i = 2 ∧ 5 ≤ k ∧ k ≤ 9) ∨ i = 23) hx (f_X4_sum x0 x1 hx)) (f_X4_term_h : ∀ (x0 : Int) (x1 : Int) (hx : qH), Fp (fun (i k : Nat) => (i = 2 ∧ 1 ≤ k ∧ k ≤ 2) ∨ (i = 2 ∧ 5 ≤ k ∧ k ≤ 9) ∨ i = 23) hx (f_X4_term x0 x1 hx)) (f_X4_atom_h : ∀ (x0 : Int) (x1 : Int) (hx : qH), Fp (fun (i k : Nat) => (i = 2 ∧ 1 ≤ k ∧ k ≤ 2) ∨ (i = 2 ∧ 5 ≤ k ∧ k ≤ 9) ∨ i = 23) hx (f_X4_atom x0 x1 hx)) : Fp (fun (i k : Nat) => (i = 2 ∧ 1 ≤ k ∧ k ≤ 2) ∨ (i = 2 ∧ 5 ≤ k ∧ k ≤ 9) ∨ i = 23) h (DX4_truth f_X4_truth f_X4_both f_X4_unit f_X4_sum f_X4_term f_X4_atom a1 h) := by
  unfold DX4_truth
  refine Fp_bd (f_X4_both_h a1 h) (fun r13 h14 => ?_)
  exact (F_DX4_truth_l8 f_X4_truth f_X4_both f_X4_unit f_X4_sum f_X4_term f_X4_atom f_X4_truth_h f_X4_both_h f_X4_unit_h f_X4_sum_h f_X4_term_h f_X4_atom_h LF a1 r13 0 h14)
theorem F_RX4g : ∀ (n : Nat) (k : Nat) (x0 : Int) (x1 : Int) (h : qH), Fp (fun (i k : Nat) => (i = 2 ∧ 1 ≤ k ∧ k ≤ 2) ∨ (i = 2 ∧ 5 ≤ k ∧ k ≤ 9) ∨ i = 23) h (RX4g n k x0 x1 h) := by
  intro n
  induction n with
  | zero =>
    intro k x0 x1 h
    exact Fp_none
  | succ n ih =>
    intro k x0 x1 h
    rw [RX4g.eq_2]
    refine Fp_ite (fun _ => ?_) (fun _ => ?_)
    · exact F_DX4_truth (fun a h => RX4g n 0 a 0 h) (fun a h => RX4g n 1 a 0 h) (fun a h => RX4g n 2 a 0 h) (fun a b h => RX4g n 3 a b h) (fun a b h => RX4g n 4 a b h) (fun a b h => RX4g n 5 a b h) x0 h (fun a h => ih 0 a 0 h) (fun a h => ih 1 a 0 h) (fun a h => ih 2 a 0 h) (fun a b h => ih 3 a b h) (fun a b h => ih 4 a b h) (fun a b h => ih 5 a b h)
    refine Fp_ite (fun _ => ?_) (fun _ => ?_)
    · exact F_DX4_both (fun a h => RX4g n 0 a 0 h) (fun a h => RX4g n 1 a 0 h) (fun a h => RX4g n 2 a 0 h) (fun a b h => RX4g n 3 a b h) (fun a b h => RX4g n 4 a b h) (fun a b h => RX4g n 5 a b h) x0 h (fun a h => ih 0 a 0 h) (fun a h => ih 1 a 0 h) (fun a h => ih 2 a 0 h) (fun a b h => ih 3 a b h) (fun a b h => ih 4 a b h) (fun a b h => ih 5 a b h)
    refine Fp_ite (fun _ => ?_) (fun _ => ?_)
    · exact F_DX4_unit (fun a h => RX4g n 0 a 0 h) (fun a h => RX4g n 1 a 0 h) (fun a h => RX4g n 2 a 0 h) (fun a b h => RX4g n 3 a b h) (fun a b h => RX4g n 4 a b h) (fun a b h => RX4g n 5 a b h) x0 h (fun a h => ih 0 a 0 h) (fun a h => ih 1 a 0 h) (fun a h => ih 2 a 0 h) (fun a b h => ih 3 a b h) (fun a b h => ih 4 a b h) (fun a b h => ih 5 a b h)
    refine Fp_ite (fun _ => ?_) (fun _ => ?_)
    · exact F_DX4_sum (fun a h => RX4g n 0 a 0 h) (fun a h => RX4g n 1 a 0 h) (fun a h => RX4g n 2 a 0 h) (fun a b h => RX4g n 3 a b h) (fun a b h => RX4g n 4 a b h) (fun a b h => RX4g n 5 a b h) x0 x1 h (fun a h => ih 0 a 0 h) (fun a h => ih 1 a 0 h) (fun a h => ih 2 a 0 h) (fun a b h => ih 3 a b h) (fun a b h => ih 4 a b h) (fun a b h => ih 5 a b h)
    refine Fp_ite (fun _ => ?_) (fun _ => ?_)
    · exact F_DX4_term (fun a h => RX4g n 0 a 0 h) (fun a h => RX4g n 1 a 0 h) (fun a h => RX4g n 2 a 0 h) (fun a b h => RX4g n 3 a b h) (fun a b h => RX4g n 4 a b h) (fun a b h => RX4g n 5 a b h) x0 x1 h (fun a h => ih 0 a 0 h) (fun a h => ih 1 a 0 h) (fun a h => ih 2 a 0 h) (fun a b h => ih 3 a b h) (fun a b h => ih 4 a b h) (fun a b h => ih 5 a b h)
    exact F_DX4_atom (fun a h => RX4g n 0 a 0 h) (fun a h => RX4g n 1 a 0 h) (fun a h => RX4g n 2 a 0 h) (fun a b h => RX4g n 3 a b h) (fun a b h => RX4g n 4 a b h) (fun a b h => RX4g n 5 a b h) x0 x1 h (fun a h => ih 0 a 0 h) (fun a h => ih 1 a 0 h) (fun a h => ih 2 a 0 h) (fun a b h => ih 3 a b h) (fun a b h => ih 4 a b h) (fun a b h => ih 5 a b h)
theorem F_RX4_truth (a1 : Int) (h : qH) : Fp (fun (i k : Nat) => (i = 2 ∧ 1 ≤ k ∧ k ≤ 2) ∨ (i = 2 ∧ 5 ≤ k ∧ k ≤ 9) ∨ i = 23) h (RX4_truth a1 h) := by
  unfold RX4_truth
  exact F_RX4g 100 0 a1 0 h
theorem F_RX4_both (a1 : Int) (h : qH) : Fp (fun (i k : Nat) => (i = 2 ∧ 1 ≤ k ∧ k ≤ 2) ∨ (i = 2 ∧ 5 ≤ k ∧ k ≤ 9) ∨ i = 23) h (RX4_both a1 h) := by
  unfold RX4_both
  exact F_RX4g 100 1 a1 0 h
theorem F_RX4_unit (a1 : Int) (h : qH) : Fp (fun (i k : Nat) => (i = 2 ∧ 1 ≤ k ∧ k ≤ 2) ∨ (i = 2 ∧ 5 ≤ k ∧ k ≤ 9) ∨ i = 23) h (RX4_unit a1 h) := by
  unfold RX4_unit
  exact F_RX4g 100 2 a1 0 h
theorem F_RX4_sum (a1 : Int) (a2 : Int) (h : qH) : Fp (fun (i k : Nat) => (i = 2 ∧ 1 ≤ k ∧ k ≤ 2) ∨ (i = 2 ∧ 5 ≤ k ∧ k ≤ 9) ∨ i = 23) h (RX4_sum a1 a2 h) := by
  unfold RX4_sum
  exact F_RX4g 100 3 a1 a2 h
theorem F_RX4_term (a1 : Int) (a2 : Int) (h : qH) : Fp (fun (i k : Nat) => (i = 2 ∧ 1 ≤ k ∧ k ≤ 2) ∨ (i = 2 ∧ 5 ≤ k ∧ k ≤ 9) ∨ i = 23) h (RX4_term a1 a2 h) := by
  unfold RX4_term
  exact F_RX4g 100 4 a1 a2 h
theorem F_RX4_atom (a1 : Int) (a2 : Int) (h : qH) : Fp (fun (i k : Nat) => (i = 2 ∧ 1 ≤ k ∧ k ≤ 2) ∨ (i = 2 ∧ 5 ≤ k ∧ k ≤ 9) ∨ i = 23) h (RX4_atom a1 a2 h) := by
  unfold RX4_atom
  exact F_RX4g 100 5 a1 a2 h
theorem F_DX4_keepsLine  (h : qH)  : Fp (fun (i k : Nat) => (i = 2 ∧ 1 ≤ k ∧ k ≤ 2) ∨ (i = 2 ∧ 5 ≤ k ∧ k ≤ 9) ∨ (i = 16 ∧ 9 ≤ k ∧ k ≤ 10) ∨ i = 23) h (DX4_keepsLine h) := by
  unfold DX4_keepsLine
  refine Fp_bd ((F_DX4_advance h).mono (fun i k g => by omega)) (fun r1 h2 => ?_)
  refine Fp_let (fun v4 => ?_)
  refine Fp_bd ((F_DX4_takeSign 58 h2).mono (fun i k g => by rcases g with g | g <;> omega)) (fun r5 h6 => ?_)
  refine Fp_ite (fun gc => ?_) (fun gc => ?_)
  · exact Fp_some
  · refine Fp_bd ((F_RX4_truth 0 h6).mono (fun i k g => by rcases g with g | g | g <;> omega)) (fun r8 h9 => ?_)
    refine Fp_ite (fun gc => ?_) (fun gc => ?_)
    · refine Fp_ite (fun gc => ?_) (fun gc => ?_)
      · refine Fp_qu (by first | omega | (simp only []; omega)) (fun h11 => ?_)
        refine Fp_ite (fun gc => ?_) (fun gc => ?_)
        · refine Fp_qu (by first | omega | (simp only []; omega)) (fun h12 => ?_)
          exact Fp_some
        · exact Fp_none
      · exact Fp_none
    · exact Fp_some
theorem F_DX4_takeWord  (s1 : Nat) (h : qH)  : Fp (fun (i k : Nat) => (i = 2 ∧ 1 ≤ k ∧ k ≤ 2) ∨ (i = 2 ∧ 6 ≤ k ∧ k ≤ 9)) h (DX4_takeWord s1 h) := by
  unfold DX4_takeWord
  refine Fp_bd ((F_DX4_isWord s1 h).mono (fun i k g => g.elim)) (fun r1 h2 => ?_)
  refine Fp_ite (fun gc => ?_) (fun gc => ?_)
  · refine Fp_bd ((F_DX4_advance h2).mono (fun i k g => by omega)) (fun r4 h5 => ?_)
    exact Fp_some
  · refine Fp_bd ((F_DX4_refuse 2 h2).mono (fun i k g => by omega)) (fun r7 h8 => ?_)
    refine Fp_ite (fun gc => ?_) (fun gc => ?_)
    · exact Fp_some
    · exact Fp_none
theorem F_DX4_moonLine  (h : qH)  : Fp (fun (i k : Nat) => (i = 2 ∧ 1 ≤ k ∧ k ≤ 2) ∨ (i = 2 ∧ 6 ≤ k ∧ k ≤ 9) ∨ (i = 16 ∧ 17 ≤ k ∧ k ≤ 18)) h (DX4_moonLine h) := by
  unfold DX4_moonLine
  refine Fp_bd ((F_DX4_advance h).mono (fun i k g => by omega)) (fun r1 h2 => ?_)
  refine Fp_bd ((F_DX4_takeNumber 2 30 h2).mono (fun i k g => by rcases g with g | g <;> omega)) (fun r4 h5 => ?_)
  refine Fp_ite (fun gc => ?_) (fun gc => ?_)
  · exact Fp_some
  · refine Fp_bd ((F_DX4_takeWord 27 h5).mono (fun i k g => by rcases g with g | g <;> omega)) (fun r7 h8 => ?_)
    refine Fp_ite (fun gc => ?_) (fun gc => ?_)
    · refine Fp_bd ((F_DX4_takeNumber 0 r4 h8).mono (fun i k g => by rcases g with g | g <;> omega)) (fun r10 h11 => ?_)
      refine Fp_ite (fun gc => ?_) (fun gc => ?_)
      · refine Fp_ite (fun gc => ?_) (fun gc => ?_)
        · refine Fp_qu (by first | omega | (simp only []; omega)) (fun h13 => ?_)
          refine Fp_ite (fun gc => ?_) (fun gc => ?_)
          · refine Fp_qu (by first | omega | (simp only []; omega)) (fun h14 => ?_)
            exact Fp_some
          · exact Fp_none
        · exact Fp_none
      · exact Fp_some
    · exact Fp_some
theorem F_DX4_rockLine  (h : qH)  : Fp (fun (i k : Nat) => (i = 2 ∧ 1 ≤ k ∧ k ≤ 2) ∨ (i = 2 ∧ 6 ≤ k ∧ k ≤ 9) ∨ (i = 16 ∧ k = 15) ∨ i = 17) h (DX4_rockLine h) := by
  unfold DX4_rockLine
  refine Fp_bd ((F_DX4_advance h).mono (fun i k g => by omega)) (fun r1 h2 => ?_)
  refine Fp_bd ((F_DX4_takeCell 1 h2).mono (fun i k g => by rcases g with g | g <;> omega)) (fun r4 h5 => ?_)
  refine Fp_ite (fun gc => ?_) (fun gc => ?_)
  · refine Fp_bd ((F_DX1_isCell 16 r4 h5).mono (fun i k g => g.elim)) (fun r7 h8 => ?_)
    refine Fp_ite (fun gc => ?_) (fun gc => ?_)
    · refine Fp_ite (fun gc => ?_) (fun gc => ?_)
      · refine Fp_ite (fun gc => ?_) (fun gc => ?_)
        · refine Fp_qu (by first | omega | (simp only []; omega)) (fun h10 => ?_)
          refine Fp_ite (fun gc => ?_) (fun gc => ?_)
          · refine Fp_qu (by first | omega | (simp only []; omega)) (fun h11 => ?_)
            exact Fp_some
          · exact Fp_none
        · exact Fp_none
      · exact Fp_none
    · exact Fp_some
  · exact Fp_none
theorem F_DX4_takeWalks_b23 (k4 : Int → Int → qH → Option (Int × qH)) (a1 : Int) (a2 : Int) (h : qH) (k4_h : ∀ (x0 : Int) (x1 : Int) (hx : qH), Fp (fun (i k : Nat) => (i = 2 ∧ 1 ≤ k ∧ k ≤ 2) ∨ (i = 2 ∧ 6 ≤ k ∧ k ≤ 9)) hx (k4 x0 x1 hx)) : Fp (fun (i k : Nat) => (i = 2 ∧ 1 ≤ k ∧ k ≤ 2) ∨ (i = 2 ∧ 6 ≤ k ∧ k ≤ 9)) h (DX4_takeWalks_b23 k4 a1 a2 h) := by
  unfold DX4_takeWalks_b23
  refine Fp_ite (fun gc => ?_) (fun gc => ?_)
  · refine Fp_bd (F_DX4_takeNumber 0 (qw (h.1 16 13 - 1)) h) (fun r1 h2 => ?_)
    refine Fp_ite (fun gc => ?_) (fun gc => ?_)
    · refine Fp_let (fun v4 => ?_)
      exact (k4_h v4 (qw (a2 + 1)) h2)
    · exact Fp_some
  · exact Fp_none
theorem F_DX4_takeWalks_l4   : ∀ (n : Nat) (a1 : Int) (a2 : Int) (h : qH), Fp (fun (i k : Nat) => (i = 2 ∧ 1 ≤ k ∧ k ≤ 2) ∨ (i = 2 ∧ 6 ≤ k ∧ k ≤ 9)) h (DX4_takeWalks_l4  n a1 a2 h) := by
  intro n
  induction n with
  | zero =>
    intro a1 a2 h
    exact Fp_none
  | succ n ih =>
    intro a1 a2 h
    rw [DX4_takeWalks_l4.eq_2]
    refine Fp_ite (fun gc => ?_) (fun gc => ?_)
    · exact Fp_some
    · refine Fp_ite (fun gc => ?_) (fun gc => ?_)
      · exact (F_DX4_takeWalks_b23 (DX4_takeWalks_l4 n) a1 a2 h (fun x0 x1 hx => ih x0 x1 hx))
      · refine Fp_ite (fun gc => ?_) (fun gc => ?_)
        · exact Fp_some
        · exact (F_DX4_takeWalks_b23 (DX4_takeWalks_l4 n) a1 a2 h (fun x0 x1 hx => ih x0 x1 hx))
theorem F_DX4_takeWalks  (h : qH)  : Fp (fun (i k : Nat) => (i = 2 ∧ 1 ≤ k ∧ k ≤ 2) ∨ (i = 2 ∧ 6 ≤ k ∧ k ≤ 9)) h (DX4_takeWalks h) := by
  unfold DX4_takeWalks
  exact (F_DX4_takeWalks_l4 LF 0 0 h)
theorem F_DX4_takeWay_b55  (a1 : Int) (h : qH)  : Fp (fun (i k : Nat) => (i = 2 ∧ 1 ≤ k ∧ k ≤ 2) ∨ (i = 2 ∧ 6 ≤ k ∧ k ≤ 9)) h (DX4_takeWay_b55 a1 h) := by
  unfold DX4_takeWay_b55
  refine Fp_ite (fun gc => ?_) (fun gc => ?_)
  · refine Fp_bd ((F_DX4_advance h).mono (fun i k g => by omega)) (fun r1 h2 => ?_)
    exact Fp_some
  · refine Fp_bd ((F_DX4_refuse 2 h).mono (fun i k g => by omega)) (fun r4 h5 => ?_)
    exact Fp_some
theorem F_DX4_takeWay  (h : qH)  : Fp (fun (i k : Nat) => (i = 2 ∧ 1 ≤ k ∧ k ≤ 2) ∨ (i = 2 ∧ 6 ≤ k ∧ k ≤ 9)) h (DX4_takeWay h) := by
  unfold DX4_takeWay
  refine Fp_bd ((F_DX4_isWord 6 h).mono (fun i k g => g.elim)) (fun r7 h8 => ?_)
  refine Fp_ite (fun gc => ?_) (fun gc => ?_)
  · refine Fp_bd ((F_DX4_isWord 7 h8).mono (fun i k g => g.elim)) (fun r10 h11 => ?_)
    refine Fp_ite (fun gc => ?_) (fun gc => ?_)
    · refine Fp_bd ((F_DX4_isWord 8 h11).mono (fun i k g => g.elim)) (fun r13 h14 => ?_)
      refine Fp_ite (fun gc => ?_) (fun gc => ?_)
      · refine Fp_bd ((F_DX4_isWord 9 h14).mono (fun i k g => g.elim)) (fun r16 h17 => ?_)
        refine Fp_ite (fun gc => ?_) (fun gc => ?_)
        · exact (F_DX4_takeWay_b55 (-1) h17)
        · exact (F_DX4_takeWay_b55 4 h17)
      · exact (F_DX4_takeWay_b55 3 h14)
    · exact (F_DX4_takeWay_b55 2 h11)
  · exact (F_DX4_takeWay_b55 1 h8)
theorem F_DX4_shoreLine  (h : qH)  : Fp (fun (i k : Nat) => (i = 2 ∧ 1 ≤ k ∧ k ≤ 2) ∨ (i = 2 ∧ 6 ≤ k ∧ k ≤ 9) ∨ (i = 16 ∧ k = 14) ∨ i = 17 ∨ (19 ≤ i ∧ i ≤ 20) ∨ i = 22) h (DX4_shoreLine h) := by
  unfold DX4_shoreLine
  refine Fp_ite (fun gc => ?_) (fun gc => ?_)
  · refine Fp_let (fun v1 => ?_)
    refine Fp_ite (fun gc => ?_) (fun gc => ?_)
    · refine Fp_bd ((F_DX4_refuse 4 h).mono (fun i k g => by omega)) (fun r2 h3 => ?_)
      refine Fp_ite (fun gc => ?_) (fun gc => ?_)
      · exact Fp_some
      · exact Fp_none
    · refine Fp_ite (fun gc => ?_) (fun gc => ?_)
      · refine Fp_bd ((F_DX4_advance h).mono (fun i k g => by omega)) (fun r5 h6 => ?_)
        refine Fp_bd ((F_DX4_takeCell 1 h6).mono (fun i k g => by rcases g with g | g <;> omega)) (fun r8 h9 => ?_)
        refine Fp_ite (fun gc => ?_) (fun gc => ?_)
        · refine Fp_bd ((F_DX1_isCell 16 r8 h9).mono (fun i k g => g.elim)) (fun r11 h12 => ?_)
          refine Fp_ite (fun gc => ?_) (fun gc => ?_)
          · exact Fp_some
          · refine Fp_bd ((F_DX4_takeWord 5 h12).mono (fun i k g => by rcases g with g | g <;> omega)) (fun r14 h15 => ?_)
            refine Fp_ite (fun gc => ?_) (fun gc => ?_)
            · refine Fp_bd ((F_DX4_takeWay h15).mono (fun i k g => by rcases g with g | g <;> omega)) (fun r17 h18 => ?_)
              refine Fp_ite (fun gc => ?_) (fun gc => ?_)
              · exact Fp_some
              · refine Fp_bd ((F_DX4_takeWord 10 h18).mono (fun i k g => by rcases g with g | g <;> omega)) (fun r20 h21 => ?_)
                refine Fp_ite (fun gc => ?_) (fun gc => ?_)
                · refine Fp_bd ((F_DX4_takeWalks h21).mono (fun i k g => by rcases g with g | g <;> omega)) (fun r23 h24 => ?_)
                  refine Fp_ite (fun gc => ?_) (fun gc => ?_)
                  · refine Fp_ite (fun gc => ?_) (fun gc => ?_)
                    · refine Fp_ite (fun gc => ?_) (fun gc => ?_)
                      · refine Fp_qu (by first | omega | (simp only []; omega)) (fun h26 => ?_)
                        refine Fp_ite (fun gc => ?_) (fun gc => ?_)
                        · refine Fp_ite (fun gc => ?_) (fun gc => ?_)
                          · refine Fp_qu (by first | omega | (simp only []; omega)) (fun h27 => ?_)
                            refine Fp_ite (fun gc => ?_) (fun gc => ?_)
                            · refine Fp_ite (fun gc => ?_) (fun gc => ?_)
                              · refine Fp_qu (by first | omega | (simp only []; omega)) (fun h28 => ?_)
                                refine Fp_ite (fun gc => ?_) (fun gc => ?_)
                                · refine Fp_ite (fun gc => ?_) (fun gc => ?_)
                                  · refine Fp_qu (by first | omega | (simp only []; omega)) (fun h29 => ?_)
                                    refine Fp_ite (fun gc => ?_) (fun gc => ?_)
                                    · refine Fp_qu (by first | omega | (simp only []; omega)) (fun h30 => ?_)
                                      exact Fp_some
                                    · exact Fp_none
                                  · exact Fp_none
                                · exact Fp_none
                              · exact Fp_none
                            · exact Fp_none
                          · exact Fp_none
                        · exact Fp_none
                      · exact Fp_none
                    · exact Fp_none
                  · exact Fp_some
                · exact Fp_some
            · exact Fp_some
        · exact Fp_none
      · refine Fp_bd ((F_DX4_refuse 4 h).mono (fun i k g => by omega)) (fun r31 h32 => ?_)
        refine Fp_ite (fun gc => ?_) (fun gc => ?_)
        · exact Fp_some
        · exact Fp_none
  · exact Fp_none
theorem F_DX4_windLine  (h : qH)  : Fp (fun (i k : Nat) => (i = 2 ∧ 1 ≤ k ∧ k ≤ 2) ∨ (i = 2 ∧ 5 ≤ k ∧ k ≤ 9) ∨ (i = 16 ∧ 7 ≤ k ∧ k ≤ 8) ∨ i = 23) h (DX4_windLine h) := by
  unfold DX4_windLine
  refine Fp_bd ((F_DX4_advance h).mono (fun i k g => by omega)) (fun r1 h2 => ?_)
  refine Fp_let (fun v4 => ?_)
  refine Fp_bd ((F_DX4_takeSign 58 h2).mono (fun i k g => by rcases g with g | g <;> omega)) (fun r5 h6 => ?_)
  refine Fp_ite (fun gc => ?_) (fun gc => ?_)
  · exact Fp_some
  · refine Fp_bd ((F_RX4_sum 0 0 h6).mono (fun i k g => by rcases g with g | g | g <;> omega)) (fun r8 h9 => ?_)
    refine Fp_ite (fun gc => ?_) (fun gc => ?_)
    · refine Fp_ite (fun gc => ?_) (fun gc => ?_)
      · refine Fp_qu (by first | omega | (simp only []; omega)) (fun h11 => ?_)
        refine Fp_ite (fun gc => ?_) (fun gc => ?_)
        · refine Fp_qu (by first | omega | (simp only []; omega)) (fun h12 => ?_)
          exact Fp_some
        · exact Fp_none
      · exact Fp_none
    · exact Fp_some
theorem F_DX4_otherLine  (h : qH)  : Fp (fun (i k : Nat) => (i = 2 ∧ 1 ≤ k ∧ k ≤ 2) ∨ (i = 2 ∧ 5 ≤ k ∧ k ≤ 9) ∨ (i = 16 ∧ 7 ≤ k ∧ k ≤ 10) ∨ (i = 16 ∧ 14 ≤ k ∧ k ≤ 15) ∨ (i = 16 ∧ 17 ≤ k ∧ k ≤ 19) ∨ (17 ≤ i ∧ i ≤ 20) ∨ (22 ≤ i ∧ i ≤ 23)) h (DX4_otherLine h) := by
  unfold DX4_otherLine
  refine Fp_bd ((F_DX4_isWord 3 h).mono (fun i k g => g.elim)) (fun r1 h2 => ?_)
  refine Fp_ite (fun gc => ?_) (fun gc => ?_)
  · refine Fp_bd ((F_DX4_isWord 4 h2).mono (fun i k g => g.elim)) (fun r4 h5 => ?_)
    refine Fp_ite (fun gc => ?_) (fun gc => ?_)
    · refine Fp_bd ((F_DX4_isWord 11 h5).mono (fun i k g => g.elim)) (fun r7 h8 => ?_)
      refine Fp_ite (fun gc => ?_) (fun gc => ?_)
      · refine Fp_bd ((F_DX4_isWord 12 h8).mono (fun i k g => g.elim)) (fun r10 h11 => ?_)
        refine Fp_ite (fun gc => ?_) (fun gc => ?_)
        · refine Fp_bd ((F_DX4_isWord 23 h11).mono (fun i k g => g.elim)) (fun r13 h14 => ?_)
          refine Fp_ite (fun gc => ?_) (fun gc => ?_)
          · refine Fp_bd ((F_DX4_isWord 22 h14).mono (fun i k g => g.elim)) (fun r16 h17 => ?_)
            refine Fp_ite (fun gc => ?_) (fun gc => ?_)
            · refine Fp_bd ((F_DX4_isWord 28 h17).mono (fun i k g => g.elim)) (fun r19 h20 => ?_)
              refine Fp_ite (fun gc => ?_) (fun gc => ?_)
              · refine Fp_bd ((F_DX4_refuse 2 h20).mono (fun i k g => by omega)) (fun r22 h23 => ?_)
                refine Fp_ite (fun gc => ?_) (fun gc => ?_)
                · exact Fp_some
                · exact Fp_none
              · refine Fp_bd ((F_DX4_corkLine h20).mono (fun i k g => by rcases g with g | g | g <;> omega)) (fun r25 h26 => ?_)
                refine Fp_ite (fun gc => ?_) (fun gc => ?_)
                · exact Fp_some
                · exact Fp_none
            · refine Fp_bd ((F_DX4_moonLine h17).mono (fun i k g => by rcases g with g | g | g <;> omega)) (fun r28 h29 => ?_)
              refine Fp_ite (fun gc => ?_) (fun gc => ?_)
              · exact Fp_some
              · exact Fp_none
          · refine Fp_bd ((F_DX4_keepsLine h14).mono (fun i k g => by rcases g with g | g | g | g <;> omega)) (fun r31 h32 => ?_)
            refine Fp_ite (fun gc => ?_) (fun gc => ?_)
            · exact Fp_some
            · exact Fp_none
        · refine Fp_bd ((F_DX4_windLine h11).mono (fun i k g => by rcases g with g | g | g | g <;> omega)) (fun r34 h35 => ?_)
          refine Fp_ite (fun gc => ?_) (fun gc => ?_)
          · exact Fp_some
          · exact Fp_none
      · refine Fp_bd ((F_DX4_currentLine h8).mono (fun i k g => by rcases g with g | g | g <;> omega)) (fun r37 h38 => ?_)
        refine Fp_ite (fun gc => ?_) (fun gc => ?_)
        · exact Fp_some
        · exact Fp_none
    · refine Fp_bd ((F_DX4_shoreLine h5).mono (fun i k g => by rcases g with g | g | g | g | g | g <;> omega)) (fun r40 h41 => ?_)
      refine Fp_ite (fun gc => ?_) (fun gc => ?_)
      · exact Fp_some
      · exact Fp_none
  · refine Fp_bd ((F_DX4_rockLine h2).mono (fun i k g => by rcases g with g | g | g | g <;> omega)) (fun r43 h44 => ?_)
    refine Fp_ite (fun gc => ?_) (fun gc => ?_)
    · exact Fp_some
    · exact Fp_none
theorem F_DX4_seaLine_b35  (a1 : Int) (b0 : Int) (h : qH)  : Fp (fun (i k : Nat) => (i = 2 ∧ 1 ≤ k ∧ k ≤ 2) ∨ (i = 2 ∧ 6 ≤ k ∧ k ≤ 9) ∨ (i = 16 ∧ 11 ≤ k ∧ k ≤ 13)) h (DX4_seaLine_b35 a1 b0 h) := by
  unfold DX4_seaLine_b35
  refine Fp_ite (fun gc => ?_) (fun gc => ?_)
  · exact Fp_some
  · refine Fp_bd ((F_DX4_takeWord 2 h).mono (fun i k g => by rcases g with g | g <;> omega)) (fun r1 h2 => ?_)
    refine Fp_ite (fun gc => ?_) (fun gc => ?_)
    · refine Fp_bd ((F_DX4_takeNumber 1 6 h2).mono (fun i k g => by rcases g with g | g <;> omega)) (fun r4 h5 => ?_)
      refine Fp_ite (fun gc => ?_) (fun gc => ?_)
      · refine Fp_ite (fun gc => ?_) (fun gc => ?_)
        · refine Fp_qu (by first | omega | (simp only []; omega)) (fun h7 => ?_)
          refine Fp_ite (fun gc => ?_) (fun gc => ?_)
          · refine Fp_qu (by first | omega | (simp only []; omega)) (fun h8 => ?_)
            refine Fp_ite (fun gc => ?_) (fun gc => ?_)
            · refine Fp_qu (by first | omega | (simp only []; omega)) (fun h9 => ?_)
              exact Fp_some
            · exact Fp_none
          · exact Fp_none
        · exact Fp_none
      · exact Fp_some
    · exact Fp_some
theorem F_DX4_seaLine  (h : qH)  : Fp (fun (i k : Nat) => (i = 2 ∧ 1 ≤ k ∧ k ≤ 2) ∨ (i = 2 ∧ 6 ≤ k ∧ k ≤ 9) ∨ (i = 16 ∧ 11 ≤ k ∧ k ≤ 13)) h (DX4_seaLine h) := by
  unfold DX4_seaLine
  refine Fp_bd ((F_DX4_takeWord 1 h).mono (fun i k g => by rcases g with g | g <;> omega)) (fun r10 h11 => ?_)
  refine Fp_ite (fun gc => ?_) (fun gc => ?_)
  · refine Fp_bd ((F_DX4_takeNumber 2 6 h11).mono (fun i k g => by rcases g with g | g <;> omega)) (fun r13 h14 => ?_)
    refine Fp_ite (fun gc => ?_) (fun gc => ?_)
    · refine Fp_bd ((F_DX4_takeNumber 2 6 h14).mono (fun i k g => by rcases g with g | g <;> omega)) (fun r16 h17 => ?_)
      exact (F_DX4_seaLine_b35 r13 r16 h17)
    · exact (F_DX4_seaLine_b35 r13 (-1) h14)
  · exact Fp_some
theorem F_DJ9_min_7cf53  (a0 : Int) (a1 : Int) (h : qH)  : Fp (fun _ _ => False) h (DJ9_min_7cf53 a0 a1 h) := by
  unfold DJ9_min_7cf53
  refine Fp_ite (fun gc => ?_) (fun gc => ?_)
  · exact Fp_some
  · exact Fp_some
theorem F_DX4_reads_b114  (a3 : Int) (h : qH)  : Fp (fun (i k : Nat) => (i = 2 ∧ 1 ≤ k ∧ k ≤ 2) ∨ (i = 2 ∧ 4 ≤ k ∧ k ≤ 9) ∨ (16 ≤ i ∧ i ≤ 23) ∨ i = 900) h (DX4_reads_b114 a3 h) := by
  unfold DX4_reads_b114
  refine Fp_ite (fun gc => ?_) (fun gc => ?_)
  · refine Fp_bd ((F_DX1_aim 16 h).mono (fun i k g => by omega)) (fun r1 h2 => ?_)
    refine Fp_ite (fun gc => ?_) (fun gc => ?_)
    · exact Fp_some
    · exact Fp_none
  · exact Fp_none
theorem F_DX4_reads_l69   : ∀ (n : Nat) (a3 : Int) (a4 : Int) (h : qH), Fp (fun (i k : Nat) => (i = 2 ∧ 1 ≤ k ∧ k ≤ 2) ∨ (i = 2 ∧ 4 ≤ k ∧ k ≤ 9) ∨ (16 ≤ i ∧ i ≤ 23) ∨ i = 900) h (DX4_reads_l69  n a3 a4 h) := by
  intro n
  induction n with
  | zero =>
    intro a3 a4 h
    exact Fp_none
  | succ n ih =>
    intro a3 a4 h
    rw [DX4_reads_l69.eq_2]
    refine Fp_ite (fun gc => ?_) (fun gc => ?_)
    · exact (F_DX4_reads_b114 a3 h)
    · refine Fp_ite (fun gc => ?_) (fun gc => ?_)
      · exact (F_DX4_reads_b114 a3 h)
      · refine Fp_ite (fun gc => ?_) (fun gc => ?_)
        · exact (F_DX4_reads_b114 a3 h)
        · refine Fp_bd ((F_DX4_otherLine h).mono (fun i k g => by rcases g with g | g | g | g | g | g | g <;> omega)) (fun r4 h5 => ?_)
          refine Fp_ite (fun gc => ?_) (fun gc => ?_)
          · exact (ih 0 (qw (a4 + 1)) h5)
          · refine Fp_bd ((F_DX4_lineEnds h5).mono (fun i k g => by rcases g with g | g | g <;> omega)) (fun r7 h8 => ?_)
            refine Fp_ite (fun gc => ?_) (fun gc => ?_)
            · exact (ih 0 (qw (a4 + 1)) h8)
            · exact (ih 1 (qw (a4 + 1)) h8)
theorem F_DX4_reads  (a2 : Int) (h : qH)  : Fp (fun (i k : Nat) => (i = 2 ∧ 1 ≤ k ∧ k ≤ 2) ∨ (i = 2 ∧ 4 ≤ k ∧ k ≤ 9) ∨ (16 ≤ i ∧ i ≤ 23) ∨ i = 900) h (DX4_reads a2 h) := by
  unfold DX4_reads
  refine Fp_sT (by first | omega | (simp only []; omega)) (fun h10 => ?_)
  refine Fp_bd ((F_DJ9_min_7cf53 a2 900 h10).mono (fun i k g => g.elim)) (fun r11 h12 => ?_)
  refine Fp_qu (by first | omega | (simp only []; omega)) (fun h14 => ?_)
  refine Fp_sC (by first | omega | (simp only []; omega)) (fun h15 => ?_)
  refine Fp_qu (by first | omega | (simp only []; omega)) (fun h16 => ?_)
  refine Fp_qu (by first | omega | (simp only []; omega)) (fun h17 => ?_)
  refine Fp_qu (by first | omega | (simp only []; omega)) (fun h18 => ?_)
  refine Fp_qu (by first | omega | (simp only []; omega)) (fun h19 => ?_)
  refine Fp_ite (fun gc => ?_) (fun gc => ?_)
  · refine Fp_bd ((F_DX1_clear 16 h19).mono (fun i k g => by omega)) (fun r20 h21 => ?_)
    refine Fp_bd ((F_DX4_advance h21).mono (fun i k g => by omega)) (fun r23 h24 => ?_)
    refine Fp_bd ((F_DX4_seaLine h24).mono (fun i k g => by rcases g with g | g | g <;> omega)) (fun r26 h27 => ?_)
    refine Fp_ite (fun gc => ?_) (fun gc => ?_)
    · exact (F_DX4_reads_l69 LF 0 0 h27)
    · refine Fp_bd ((F_DX4_lineEnds h27).mono (fun i k g => by rcases g with g | g | g <;> omega)) (fun r29 h30 => ?_)
      refine Fp_ite (fun gc => ?_) (fun gc => ?_)
      · exact (F_DX4_reads_l69 LF 0 0 h30)
      · exact (F_DX4_reads_l69 LF 1 0 h30)
  · exact Fp_none
theorem F_DX7_clear  (i0 : Nat) (h : qH)  : Fp (fun (i k : Nat) => i = i0) h (DX7_clear i0 h) := by
  unfold DX7_clear
  refine Fp_qu (by first | omega | (simp only []; omega)) (fun h1 => ?_)
  refine Fp_qu (by first | omega | (simp only []; omega)) (fun h2 => ?_)
  exact Fp_some
theorem F_DX9_sea  (a1 : Int) (h : qH)  : Fp (fun (i k : Nat) => (i = 0 ∧ k = 1) ∨ (i = 2 ∧ 1 ≤ k ∧ k ≤ 2) ∨ (i = 2 ∧ 4 ≤ k ∧ k ≤ 9) ∨ (5 ≤ i ∧ i ≤ 12) ∨ (16 ≤ i ∧ i ≤ 24) ∨ (i = 44 ∧ 1 ≤ k ∧ k ≤ 2) ∨ (225 ≤ i ∧ i ≤ 226) ∨ i = 900) h (DX9_sea a1 h) := by
  unfold DX9_sea
  refine Fp_ite (fun gc => ?_) (fun gc => ?_)
  · exact Fp_some
  · refine Fp_ite (fun gc => ?_) (fun gc => ?_)
    · refine Fp_qu (by first | omega | (simp only []; omega)) (fun h1 => ?_)
      refine Fp_bd ((F_DX4_reads a1 h1).mono (fun i k g => by rcases g with g | g | g | g <;> omega)) (fun r2 h3 => ?_)
      refine Fp_ite (fun gc => ?_) (fun gc => ?_)
      · refine Fp_bd ((F_DX1_takeFrom 5 16 h3).mono (fun i k g => by omega)) (fun r5 h6 => ?_)
        refine Fp_bd ((F_DX7_clear 24 h6).mono (fun i k g => by omega)) (fun r8 h9 => ?_)
        refine Fp_bd ((F_DX9_becomeOther h9).mono (fun i k g => by rcases g with g | g <;> omega)) (fun r11 h12 => ?_)
        exact Fp_some
      · exact Fp_some
    · exact Fp_some
theorem F_DX9_stir  (a0 : Int) (h : qH)  : Fp (fun _ _ => False) h (DX9_stir a0 h) := by
  unfold DX9_stir
  exact Fp_some
theorem F_DX9_throwDeed  (a0 : Int) (a1 : Int) (a2 : Int) (h : qH)  : Fp (fun _ _ => False) h (DX9_throwDeed a0 a1 a2 h) := by
  unfold DX9_throwDeed
  refine Fp_ite (fun gc => ?_) (fun gc => ?_)
  · exact Fp_some
  · exact Fp_some
theorem F_DX9_season_b166 (k46 : Int → Int → Int → Int → qH → Option (Int × qH)) (a2 : Int) (a3 : Int) (a4 : Int) (a5 : Int) (a6 : Int) (h : qH) (k46_h : ∀ (x0 : Int) (x1 : Int) (x2 : Int) (x3 : Int) (hx : qH), Fp (fun (i k : Nat) => (14 ≤ i ∧ i ≤ 15) ∨ i = 24 ∨ (26 ≤ i ∧ i ≤ 33) ∨ (i = 44 ∧ 1 ≤ k ∧ k ≤ 2) ∨ (46 ≤ i ∧ i ≤ 155) ∨ i = 225) hx (k46 x0 x1 x2 x3 hx)) : Fp (fun (i k : Nat) => (14 ≤ i ∧ i ≤ 15) ∨ i = 24 ∨ (26 ≤ i ∧ i ≤ 33) ∨ (i = 44 ∧ 1 ≤ k ∧ k ≤ 2) ∨ (46 ≤ i ∧ i ≤ 155) ∨ i = 225) h (DX9_season_b166 k46 a2 a3 a4 a5 a6 h) := by
  unfold DX9_season_b166
  refine Fp_bd ((F_DX9_whyNotDone 24 a6 h).mono (fun i k g => g.elim)) (fun r1 h2 => ?_)
  refine Fp_ite (fun gc => ?_) (fun gc => ?_)
  · exact (k46_h a2 a3 a4 (qw (a5 + 1)) h2)
  · refine Fp_bd ((F_DX9_doOne 24 a6 h2).mono (fun i k g => by rcases g with g | g | g | g <;> omega)) (fun r4 h5 => ?_)
    refine Fp_let (fun v7 => ?_)
    exact (k46_h a2 v7 a4 (qw (a5 + 1)) h5)
theorem F_DX9_season_l46   : ∀ (n : Nat) (a2 : Int) (a3 : Int) (a4 : Int) (a5 : Int) (h : qH), Fp (fun (i k : Nat) => (14 ≤ i ∧ i ≤ 15) ∨ i = 24 ∨ (26 ≤ i ∧ i ≤ 33) ∨ (i = 44 ∧ 1 ≤ k ∧ k ≤ 2) ∨ (46 ≤ i ∧ i ≤ 155) ∨ i = 225) h (DX9_season_l46  n a2 a3 a4 a5 h) := by
  intro n
  induction n with
  | zero =>
    intro a2 a3 a4 a5 h
    exact Fp_none
  | succ n ih =>
    intro a2 a3 a4 a5 h
    rw [DX9_season_l46.eq_2]
    refine Fp_ite (fun gc => ?_) (fun gc => ?_)
    · refine Fp_ite (fun gc => ?_) (fun gc => ?_)
      · exact Fp_some
      · refine Fp_bd ((F_DX3_commit h).mono (fun i k g => by omega)) (fun r8 h9 => ?_)
        exact Fp_some
    · refine Fp_bd ((F_DX9_stir a4 h).mono (fun i k g => g.elim)) (fun r11 h12 => ?_)
      refine Fp_bd ((F_DX9_drawn r11 h12).mono (fun i k g => g.elim)) (fun r14 h15 => ?_)
      refine Fp_let (fun v17 => ?_)
      refine Fp_ite (fun gc => ?_) (fun gc => ?_)
      · refine Fp_ite (fun gc => ?_) (fun gc => ?_)
        · exact (F_DX9_season_b166 (DX9_season_l46 n) a2 a3 r11 a5 (-1) h15 (fun x0 x1 x2 x3 hx => ih x0 x1 x2 x3 hx))
        · refine Fp_bd ((F_DX9_stir r11 h15).mono (fun i k g => g.elim)) (fun r18 h19 => ?_)
          refine Fp_bd ((F_DX9_drawn r18 h19).mono (fun i k g => g.elim)) (fun r21 h22 => ?_)
          exact (F_DX9_season_b166 (DX9_season_l46 n) a2 a3 r18 a5 (qw (1000 + qrem r21 8)) h22 (fun x0 x1 x2 x3 hx => ih x0 x1 x2 x3 hx))
      · refine Fp_bd ((F_DX9_stir r11 h15).mono (fun i k g => g.elim)) (fun r24 h25 => ?_)
        refine Fp_bd ((F_DX9_stir r24 h25).mono (fun i k g => g.elim)) (fun r27 h28 => ?_)
        refine Fp_bd ((F_DX9_stir r27 h28).mono (fun i k g => g.elim)) (fun r30 h31 => ?_)
        refine Fp_bd ((F_DX9_drawn r24 h31).mono (fun i k g => g.elim)) (fun r33 h34 => ?_)
        refine Fp_ite (fun gc => ?_) (fun gc => ?_)
        · exact Fp_none
        · refine Fp_bd ((F_DX9_drawn r27 h34).mono (fun i k g => g.elim)) (fun r36 h37 => ?_)
          refine Fp_ite (fun gc => ?_) (fun gc => ?_)
          · exact Fp_none
          · refine Fp_bd ((F_DX9_drawn r30 h37).mono (fun i k g => g.elim)) (fun r39 h40 => ?_)
            refine Fp_bd ((F_DX9_throwDeed (qrem r33 (h34.1 5 14)) (qrem r36 (h37.1 5 14)) (qrem r39 2) h40).mono (fun i k g => g.elim)) (fun r42 h43 => ?_)
            exact (F_DX9_season_b166 (DX9_season_l46 n) a2 a3 r30 a5 r42 h43 (fun x0 x1 x2 x3 hx => ih x0 x1 x2 x3 hx))
theorem F_DX9_season  (a1 : Int) (a2 : Int) (h : qH)  : Fp (fun (i k : Nat) => (14 ≤ i ∧ i ≤ 15) ∨ i = 24 ∨ (26 ≤ i ∧ i ≤ 33) ∨ (i = 44 ∧ 1 ≤ k ∧ k ≤ 2) ∨ (46 ≤ i ∧ i ≤ 155) ∨ i = 225) h (DX9_season a1 a2 h) := by
  unfold DX9_season
  refine Fp_ite (fun gc => ?_) (fun gc => ?_)
  · exact Fp_some
  · refine Fp_ite (fun gc => ?_) (fun gc => ?_)
    · refine Fp_ite (fun gc => ?_) (fun gc => ?_)
      · refine Fp_bd ((F_DX3_draft 24 h).mono (fun i k g => by omega)) (fun r45 h46 => ?_)
        exact (F_DX9_season_l46 LF a2 0 a1 0 h46)
      · exact Fp_some
    · exact Fp_some
theorem F_DX9_seenCode_l58   : ∀ (n : Nat) (i2 : Nat) (a3 : Int) (h : qH), Fp (fun _ _ => False) h (DX9_seenCode_l58  n i2 a3 h) := by
  intro n
  induction n with
  | zero =>
    intro i2 a3 h
    exact Fp_none
  | succ n ih =>
    intro i2 a3 h
    rw [DX9_seenCode_l58.eq_2]
    refine Fp_ite (fun gc => ?_) (fun gc => ?_)
    · exact Fp_some
    · refine Fp_bd ((F_DX6_numberAt i2 a3 h).mono (fun i k g => g.elim)) (fun r1 h2 => ?_)
      refine Fp_bd ((F_DX6_numberAt i2 (qw (a3 + 1)) h2).mono (fun i k g => g.elim)) (fun r4 h5 => ?_)
      refine Fp_ite (fun gc => ?_) (fun gc => ?_)
      · exact Fp_some
      · refine Fp_bd ((F_DX1_cells 5 h5).mono (fun i k g => g.elim)) (fun r7 h8 => ?_)
        refine Fp_ite (fun gc => ?_) (fun gc => ?_)
        · exact Fp_some
        · refine Fp_ite (fun gc => ?_) (fun gc => ?_)
          · exact Fp_some
          · refine Fp_ite (fun gc => ?_) (fun gc => ?_)
            · exact (ih i2 (qw (a3 + 2)) h8)
            · exact Fp_some
theorem F_DX9_seenCode  (a1 : Int) (h : qH)  : Fp (fun _ _ => False) h (DX9_seenCode a1 h) := by
  unfold DX9_seenCode
  refine Fp_bd ((F_DX9_isTray a1 h).mono (fun i k g => g.elim)) (fun r10 h11 => ?_)
  refine Fp_ite (fun gc => ?_) (fun gc => ?_)
  · refine Fp_ite (fun gc => ?_) (fun gc => ?_)
    · refine Fp_bd ((F_DX6_missing (168 + 2 * a1.toNat) h11).mono (fun i k g => g.elim)) (fun r15 h16 => ?_)
      refine Fp_ite (fun gc => ?_) (fun gc => ?_)
      · refine Fp_ite (fun gc => ?_) (fun gc => ?_)
        · exact Fp_some
        · refine Fp_ite (fun gc => ?_) (fun gc => ?_)
          · exact Fp_some
          · refine Fp_ite (fun gc => ?_) (fun gc => ?_)
            · exact (F_DX9_seenCode_l58 LF (168 + 2 * a1.toNat) 0 h16)
            · exact Fp_some
      · exact Fp_some
    · exact Fp_none
  · exact Fp_some
theorem F_DX8_fits_l15 (k7 : Nat → Int → Int → Int → qH → Option (Int × qH)) (k7_h : ∀ (x0 : Nat) (x1 : Int) (x2 : Int) (x3 : Int) (hx : qH), Fp (fun (i k : Nat) => (14 ≤ i ∧ i ≤ 15) ∨ i = 161 ∨ i = 225) hx (k7 x0 x1 x2 x3 hx)) : ∀ (n : Nat) (i2 : Nat) (a3 : Int) (a5 : Int) (a6 : Int) (a7 : Int) (h : qH), Fp (fun (i k : Nat) => (14 ≤ i ∧ i ≤ 15) ∨ i = 161 ∨ i = 225) h (DX8_fits_l15 k7 n i2 a3 a5 a6 a7 h) := by
  intro n
  induction n with
  | zero =>
    intro i2 a3 a5 a6 a7 h
    exact Fp_none
  | succ n ih =>
    intro i2 a3 a5 a6 a7 h
    rw [DX8_fits_l15.eq_2]
    refine Fp_ite (fun gc => ?_) (fun gc => ?_)
    · refine Fp_bd ((F_DX2_carry 161 (qw (a3 - a6)) h).mono (fun i k g => by rcases g with g | g | g <;> omega)) (fun r1 h2 => ?_)
      exact (k7_h i2 a3 a5 (qw (a6 + (-1))) h2)
    · refine Fp_bd ((F_DX6_numberAt i2 (qw (a7 + 1)) h).mono (fun i k g => g.elim)) (fun r4 h5 => ?_)
      refine Fp_ite (fun gc => ?_) (fun gc => ?_)
      · exact (ih i2 a3 a5 a6 (qw (a7 + 2)) h5)
      · refine Fp_bd ((F_DX6_numberAt i2 a7 h5).mono (fun i k g => g.elim)) (fun r7 h8 => ?_)
        refine Fp_bd ((F_DX0_place 161 h8).mono (fun i k g => g.elim)) (fun r10 h11 => ?_)
        refine Fp_ite (fun gc => ?_) (fun gc => ?_)
        · refine Fp_let (fun v13 => ?_)
          exact (ih i2 a3 v13 a6 (qw (a7 + 2)) h11)
        · exact Fp_some
theorem F_DX8_fits_l7   : ∀ (n : Nat) (i2 : Nat) (a3 : Int) (a5 : Int) (a6 : Int) (h : qH), Fp (fun (i k : Nat) => (14 ≤ i ∧ i ≤ 15) ∨ i = 161 ∨ i = 225) h (DX8_fits_l7  n i2 a3 a5 a6 h) := by
  intro n
  induction n with
  | zero =>
    intro i2 a3 a5 a6 h
    exact Fp_none
  | succ n ih =>
    intro i2 a3 a5 a6 h
    rw [DX8_fits_l7.eq_2]
    refine Fp_ite (fun gc => ?_) (fun gc => ?_)
    · refine Fp_ite (fun gc => ?_) (fun gc => ?_)
      · exact Fp_some
      · exact Fp_some
    · exact (F_DX8_fits_l15 (DX8_fits_l7 n) (fun x0 x1 x2 x3 hx => ih x0 x1 x2 x3 hx) LF i2 a3 a5 a6 0 h)
theorem F_DX8_fits  (i2 : Nat) (a3 : Int) (a4 : Int) (h : qH)  : Fp (fun (i k : Nat) => (14 ≤ i ∧ i ≤ 15) ∨ i = 161 ∨ i = 225) h (DX8_fits i2 a3 a4 h) := by
  unfold DX8_fits
  exact (F_DX8_fits_l7 LF i2 a3 0 a4 h)
theorem F_DX8_hearOf_b109 (k3 : Nat → Int → Int → Int → Int → Int → qH → Option (Int × qH)) (k12 : Nat → Int → Int → Int → Int → Int → Int → qH → Option (Int × qH)) (i2 : Nat) (a3 : Int) (a4 : Int) (a5 : Int) (a6 : Int) (a7 : Int) (a8 : Int) (h : qH) (k3_h : ∀ (x0 : Nat) (x1 : Int) (x2 : Int) (x3 : Int) (x4 : Int) (x5 : Int) (hx : qH), Fp (fun (i k : Nat) => (14 ≤ i ∧ i ≤ 15) ∨ (i = 160 ∧ 2 ≤ k ∧ k ≤ 3) ∨ (161 ≤ i ∧ i ≤ 162) ∨ i = 225) hx (k3 x0 x1 x2 x3 x4 x5 hx)) (k12_h : ∀ (x0 : Nat) (x1 : Int) (x2 : Int) (x3 : Int) (x4 : Int) (x5 : Int) (x6 : Int) (hx : qH), Fp (fun (i k : Nat) => (14 ≤ i ∧ i ≤ 15) ∨ (i = 160 ∧ 2 ≤ k ∧ k ≤ 3) ∨ (161 ≤ i ∧ i ≤ 162) ∨ i = 225) hx (k12 x0 x1 x2 x3 x4 x5 x6 hx)) : Fp (fun (i k : Nat) => (14 ≤ i ∧ i ≤ 15) ∨ (i = 160 ∧ 2 ≤ k ∧ k ≤ 3) ∨ (161 ≤ i ∧ i ≤ 162) ∨ i = 225) h (DX8_hearOf_b109 k3 k12 i2 a3 a4 a5 a6 a7 a8 h) := by
  unfold DX8_hearOf_b109
  refine Fp_qu (by first | omega | (simp only []; omega)) (fun h1 => ?_)
  refine Fp_qu (by first | omega | (simp only []; omega)) (fun h2 => ?_)
  exact (k12_h i2 a3 a4 a5 a6 a7 (qw (a8 + 1)) h2)
theorem F_DX8_hearOf_b44 (k3 : Nat → Int → Int → Int → Int → Int → qH → Option (Int × qH)) (k12 : Nat → Int → Int → Int → Int → Int → Int → qH → Option (Int × qH)) (i2 : Nat) (a3 : Int) (a4 : Int) (a5 : Int) (a6 : Int) (a7 : Int) (a8 : Int) (b0 : Int) (b1 : Int) (b2 : Int) (h : qH) (k3_h : ∀ (x0 : Nat) (x1 : Int) (x2 : Int) (x3 : Int) (x4 : Int) (x5 : Int) (hx : qH), Fp (fun (i k : Nat) => (14 ≤ i ∧ i ≤ 15) ∨ (i = 160 ∧ 2 ≤ k ∧ k ≤ 3) ∨ (161 ≤ i ∧ i ≤ 162) ∨ i = 225) hx (k3 x0 x1 x2 x3 x4 x5 hx)) (k12_h : ∀ (x0 : Nat) (x1 : Int) (x2 : Int) (x3 : Int) (x4 : Int) (x5 : Int) (x6 : Int) (hx : qH), Fp (fun (i k : Nat) => (14 ≤ i ∧ i ≤ 15) ∨ (i = 160 ∧ 2 ≤ k ∧ k ≤ 3) ∨ (161 ≤ i ∧ i ≤ 162) ∨ i = 225) hx (k12 x0 x1 x2 x3 x4 x5 x6 hx)) : Fp (fun (i k : Nat) => (14 ≤ i ∧ i ≤ 15) ∨ (i = 160 ∧ 2 ≤ k ∧ k ≤ 3) ∨ (161 ≤ i ∧ i ≤ 162) ∨ i = 225) h (DX8_hearOf_b44 k3 k12 i2 a3 a4 a5 a6 a7 a8 b0 b1 b2 h) := by
  unfold DX8_hearOf_b44
  refine Fp_bd ((F_DX1_throwCell 5 a5 h).mono (fun i k g => g.elim)) (fun r3 h4 => ?_)
  refine Fp_bd ((F_DX0_launch 161 b2 b1 b0 r3 h4).mono (fun i k g => by omega)) (fun r6 h7 => ?_)
  refine Fp_bd ((F_DX8_fits i2 a3 a8 h7).mono (fun i k g => by rcases g with g | g | g <;> omega)) (fun r9 h10 => ?_)
  refine Fp_ite (fun gc => ?_) (fun gc => ?_)
  · exact (k12_h i2 a3 a4 a5 a6 a7 (qw (a8 + 1)) h10)
  · refine Fp_ite (fun gc => ?_) (fun gc => ?_)
    · exact (F_DX8_hearOf_b109 k3 k12 i2 a3 a4 a5 a6 a7 a8 h10 k3_h k12_h)
    · refine Fp_qu (by first | omega | (simp only []; omega)) (fun h12 => ?_)
      refine Fp_qu (by first | omega | (simp only []; omega)) (fun h13 => ?_)
      refine Fp_qu (by first | omega | (simp only []; omega)) (fun h14 => ?_)
      refine Fp_qu (by first | omega | (simp only []; omega)) (fun h15 => ?_)
      exact (F_DX8_hearOf_b109 k3 k12 i2 a3 a4 a5 a6 a7 a8 h15 k3_h k12_h)
theorem F_DX8_hearOf_l12 (k3 : Nat → Int → Int → Int → Int → Int → qH → Option (Int × qH)) (k3_h : ∀ (x0 : Nat) (x1 : Int) (x2 : Int) (x3 : Int) (x4 : Int) (x5 : Int) (hx : qH), Fp (fun (i k : Nat) => (14 ≤ i ∧ i ≤ 15) ∨ (i = 160 ∧ 2 ≤ k ∧ k ≤ 3) ∨ (161 ≤ i ∧ i ≤ 162) ∨ i = 225) hx (k3 x0 x1 x2 x3 x4 x5 hx)) : ∀ (n : Nat) (i2 : Nat) (a3 : Int) (a4 : Int) (a5 : Int) (a6 : Int) (a7 : Int) (a8 : Int) (h : qH), Fp (fun (i k : Nat) => (14 ≤ i ∧ i ≤ 15) ∨ (i = 160 ∧ 2 ≤ k ∧ k ≤ 3) ∨ (161 ≤ i ∧ i ≤ 162) ∨ i = 225) h (DX8_hearOf_l12 k3 n i2 a3 a4 a5 a6 a7 a8 h) := by
  intro n
  induction n with
  | zero =>
    intro i2 a3 a4 a5 a6 a7 a8 h
    exact Fp_none
  | succ n ih =>
    intro i2 a3 a4 a5 a6 a7 a8 h
    rw [DX8_hearOf_l12.eq_2]
    refine Fp_ite (fun gc => ?_) (fun gc => ?_)
    · exact (k3_h i2 a3 a4 a5 a6 (qw (a7 + 1)) h)
    · refine Fp_ite (fun gc => ?_) (fun gc => ?_)
      · exact (k3_h i2 a3 a4 a5 a6 (qw (a7 + 1)) h)
      · refine Fp_ite (fun gc => ?_) (fun gc => ?_)
        · exact (F_DX8_hearOf_b44 k3 (DX8_hearOf_l12 k3 n) i2 a3 a4 a5 a6 a7 a8 0 a6 a5 h k3_h (fun x0 x1 x2 x3 x4 x5 x6 hx => ih x0 x1 x2 x3 x4 x5 x6 hx))
        · exact (F_DX8_hearOf_b44 k3 (DX8_hearOf_l12 k3 n) i2 a3 a4 a5 a6 a7 a8 1 a6 a5 h k3_h (fun x0 x1 x2 x3 x4 x5 x6 hx => ih x0 x1 x2 x3 x4 x5 x6 hx))
theorem F_DX8_hearOf_l3   : ∀ (n : Nat) (i2 : Nat) (a3 : Int) (a4 : Int) (a5 : Int) (a6 : Int) (a7 : Int) (h : qH), Fp (fun (i k : Nat) => (14 ≤ i ∧ i ≤ 15) ∨ (i = 160 ∧ 2 ≤ k ∧ k ≤ 3) ∨ (161 ≤ i ∧ i ≤ 162) ∨ i = 225) h (DX8_hearOf_l3  n i2 a3 a4 a5 a6 a7 h) := by
  intro n
  induction n with
  | zero =>
    intro i2 a3 a4 a5 a6 a7 h
    exact Fp_none
  | succ n ih =>
    intro i2 a3 a4 a5 a6 a7 h
    rw [DX8_hearOf_l3.eq_2]
    refine Fp_ite (fun gc => ?_) (fun gc => ?_)
    · exact Fp_some
    · exact (F_DX8_hearOf_l12 (DX8_hearOf_l3 n) (fun x0 x1 x2 x3 x4 x5 hx => ih x0 x1 x2 x3 x4 x5 hx) LF i2 a3 a4 a5 a6 a7 0 h)
theorem F_DX8_hearOf  (i2 : Nat) (a3 : Int) (a4 : Int) (a5 : Int) (a6 : Int) (h : qH)  : Fp (fun (i k : Nat) => (14 ≤ i ∧ i ≤ 15) ∨ (i = 160 ∧ 2 ≤ k ∧ k ≤ 3) ∨ (161 ≤ i ∧ i ≤ 162) ∨ i = 225) h (DX8_hearOf i2 a3 a4 a5 a6 h) := by
  unfold DX8_hearOf
  exact (F_DX8_hearOf_l3 LF i2 a3 a4 a5 a6 0 h)
theorem F_DX8_hear_l32 (k22 : Nat → Int → Int → Int → Int → qH → Option (Int × qH)) (k22_h : ∀ (x0 : Nat) (x1 : Int) (x2 : Int) (x3 : Int) (x4 : Int) (hx : qH), Fp (fun (i k : Nat) => (14 ≤ i ∧ i ≤ 15) ∨ (i = 160 ∧ 2 ≤ k ∧ k ≤ 3) ∨ (161 ≤ i ∧ i ≤ 162) ∨ i = 225) hx (k22 x0 x1 x2 x3 x4 hx)) : ∀ (n : Nat) (i2 : Nat) (a3 : Int) (a4 : Int) (a5 : Int) (a6 : Int) (a7 : Int) (h : qH), Fp (fun (i k : Nat) => (14 ≤ i ∧ i ≤ 15) ∨ (i = 160 ∧ 2 ≤ k ∧ k ≤ 3) ∨ (161 ≤ i ∧ i ≤ 162) ∨ i = 225) h (DX8_hear_l32 k22 n i2 a3 a4 a5 a6 a7 h) := by
  intro n
  induction n with
  | zero =>
    intro i2 a3 a4 a5 a6 a7 h
    exact Fp_none
  | succ n ih =>
    intro i2 a3 a4 a5 a6 a7 h
    rw [DX8_hear_l32.eq_2]
    refine Fp_ite (fun gc => ?_) (fun gc => ?_)
    · exact (k22_h i2 a3 a4 a5 (qw (a6 + 1)) h)
    · refine Fp_ite (fun gc => ?_) (fun gc => ?_)
      · exact (ih i2 a3 a4 a5 a6 (qw (a7 + 1)) h)
      · refine Fp_bd ((F_DX1_throwCell 5 a6 h).mono (fun i k g => g.elim)) (fun r1 h2 => ?_)
        refine Fp_ite (fun gc => ?_) (fun gc => ?_)
        · exact (ih i2 a3 a4 a5 a6 (qw (a7 + 1)) h2)
        · refine Fp_bd (F_DX8_hearOf i2 a3 a4 a6 a7 h2) (fun r4 h5 => ?_)
          exact (ih i2 a3 a4 a5 a6 (qw (a7 + 1)) h5)
theorem F_DX8_hear_l22   : ∀ (n : Nat) (i2 : Nat) (a3 : Int) (a4 : Int) (a5 : Int) (a6 : Int) (h : qH), Fp (fun (i k : Nat) => (14 ≤ i ∧ i ≤ 15) ∨ (i = 160 ∧ 2 ≤ k ∧ k ≤ 3) ∨ (161 ≤ i ∧ i ≤ 162) ∨ i = 225) h (DX8_hear_l22  n i2 a3 a4 a5 a6 h) := by
  intro n
  induction n with
  | zero =>
    intro i2 a3 a4 a5 a6 h
    exact Fp_none
  | succ n ih =>
    intro i2 a3 a4 a5 a6 h
    rw [DX8_hear_l22.eq_2]
    refine Fp_ite (fun gc => ?_) (fun gc => ?_)
    · exact Fp_some
    · exact (F_DX8_hear_l32 (DX8_hear_l22 n) (fun x0 x1 x2 x3 x4 hx => ih x0 x1 x2 x3 x4 hx) LF i2 a3 a4 a5 a6 (-1) h)
theorem F_DX8_hear  (i2 : Nat) (a3 : Int) (a4 : Int) (h : qH)  : Fp (fun (i k : Nat) => (14 ≤ i ∧ i ≤ 15) ∨ (i = 160 ∧ 2 ≤ k ∧ k ≤ 3) ∨ (161 ≤ i ∧ i ≤ 162) ∨ i = 225) h (DX8_hear i2 a3 a4 h) := by
  unfold DX8_hear
  refine Fp_qu (by first | omega | (simp only []; omega)) (fun h7 => ?_)
  refine Fp_qu (by first | omega | (simp only []; omega)) (fun h8 => ?_)
  refine Fp_let (fun v9 => ?_)
  exact (F_DX8_hear_l22 LF i2 a3 a4 v9 0 h8)
theorem F_DX9_seen  (a1 : Int) (h : qH)  : Fp (fun (i k : Nat) => (14 ≤ i ∧ i ≤ 15) ∨ (i = 160 ∧ 2 ≤ k ∧ k ≤ 3) ∨ (161 ≤ i ∧ i ≤ 162) ∨ i = 225) h (DX9_seen a1 h) := by
  unfold DX9_seen
  refine Fp_bd ((F_DX9_seenCode a1 h).mono (fun i k g => g.elim)) (fun r1 h2 => ?_)
  refine Fp_ite (fun gc => ?_) (fun gc => ?_)
  · exact Fp_some
  · refine Fp_bd ((F_DX9_isTray a1 h2).mono (fun i k g => g.elim)) (fun r4 h5 => ?_)
    refine Fp_ite (fun gc => ?_) (fun gc => ?_)
    · refine Fp_ite (fun gc => ?_) (fun gc => ?_)
      · refine Fp_bd (F_DX8_hear (168 + 2 * a1.toNat) (h5.1 24 2) (-1) h5) (fun r9 h10 => ?_)
        exact Fp_some
      · exact Fp_none
    · exact Fp_some
theorem F_DX7_keptBy_l4   : ∀ (n : Nat) (i0 : Nat) (a1 : Int) (a2 : Int) (a3 : Int) (h : qH), Fp (fun _ _ => False) h (DX7_keptBy_l4  n i0 a1 a2 a3 h) := by
  intro n
  induction n with
  | zero =>
    intro i0 a1 a2 a3 h
    exact Fp_none
  | succ n ih =>
    intro i0 a1 a2 a3 h
    rw [DX7_keptBy_l4.eq_2]
    refine Fp_ite (fun gc => ?_) (fun gc => ?_)
    · exact Fp_some
    · refine Fp_ite (fun gc => ?_) (fun gc => ?_)
      · exact Fp_some
      · refine Fp_ite (fun gc => ?_) (fun gc => ?_)
        · refine Fp_ite (fun gc => ?_) (fun gc => ?_)
          · exact (ih i0 a1 a2 (qw (a3 + 1)) h)
          · refine Fp_ite (fun gc => ?_) (fun gc => ?_)
            · refine Fp_ite (fun gc => ?_) (fun gc => ?_)
              · exact (ih i0 a1 a2 (qw (a3 + 1)) h)
              · refine Fp_let (fun v5 => ?_)
                exact (ih i0 a1 v5 (qw (a3 + 1)) h)
            · exact Fp_none
        · exact Fp_none
theorem F_DX7_keptBy  (i0 : Nat) (a1 : Int) (h : qH)  : Fp (fun _ _ => False) h (DX7_keptBy i0 a1 h) := by
  unfold DX7_keptBy
  exact (F_DX7_keptBy_l4 LF i0 a1 0 0 h)
theorem F_DX7_lyingOn_l4   : ∀ (n : Nat) (i0 : Nat) (a1 : Int) (a2 : Int) (a3 : Int) (h : qH), Fp (fun _ _ => False) h (DX7_lyingOn_l4  n i0 a1 a2 a3 h) := by
  intro n
  induction n with
  | zero =>
    intro i0 a1 a2 a3 h
    exact Fp_none
  | succ n ih =>
    intro i0 a1 a2 a3 h
    rw [DX7_lyingOn_l4.eq_2]
    refine Fp_ite (fun gc => ?_) (fun gc => ?_)
    · exact Fp_some
    · refine Fp_ite (fun gc => ?_) (fun gc => ?_)
      · exact Fp_some
      · refine Fp_ite (fun gc => ?_) (fun gc => ?_)
        · refine Fp_ite (fun gc => ?_) (fun gc => ?_)
          · exact (ih i0 a1 a2 (qw (a3 + 1)) h)
          · refine Fp_ite (fun gc => ?_) (fun gc => ?_)
            · refine Fp_ite (fun gc => ?_) (fun gc => ?_)
              · exact (ih i0 a1 a2 (qw (a3 + 1)) h)
              · refine Fp_let (fun v5 => ?_)
                exact (ih i0 a1 v5 (qw (a3 + 1)) h)
            · exact Fp_none
        · exact Fp_none
theorem F_DX7_lyingOn  (i0 : Nat) (a1 : Int) (h : qH)  : Fp (fun _ _ => False) h (DX7_lyingOn i0 a1 h) := by
  unfold DX7_lyingOn
  exact (F_DX7_lyingOn_l4 LF i0 a1 0 0 h)
theorem F_DX9_shore  (a1 : Int) (a2 : Int) (h : qH)  : Fp (fun _ _ => False) h (DX9_shore a1 a2 h) := by
  unfold DX9_shore
  refine Fp_bd ((F_DX1_isShore 5 a1 h).mono (fun i k g => g.elim)) (fun r1 h2 => ?_)
  refine Fp_ite (fun gc => ?_) (fun gc => ?_)
  · refine Fp_ite (fun gc => ?_) (fun gc => ?_)
    · refine Fp_ite (fun gc => ?_) (fun gc => ?_)
      · exact Fp_some
      · exact Fp_none
    · refine Fp_ite (fun gc => ?_) (fun gc => ?_)
      · refine Fp_ite (fun gc => ?_) (fun gc => ?_)
        · exact Fp_some
        · exact Fp_none
      · refine Fp_ite (fun gc => ?_) (fun gc => ?_)
        · refine Fp_ite (fun gc => ?_) (fun gc => ?_)
          · exact Fp_some
          · exact Fp_none
        · refine Fp_ite (fun gc => ?_) (fun gc => ?_)
          · refine Fp_bd ((F_DX1_throwCell 5 a1 h2).mono (fun i k g => g.elim)) (fun r14 h15 => ?_)
            exact Fp_some
          · refine Fp_ite (fun gc => ?_) (fun gc => ?_)
            · refine Fp_ite (fun gc => ?_) (fun gc => ?_)
              · refine Fp_bd ((F_DX7_lyingOn 24 (h2.1 8 a1.toNat) h2).mono (fun i k g => g.elim)) (fun r20 h21 => ?_)
                exact Fp_some
              · exact Fp_none
            · refine Fp_ite (fun gc => ?_) (fun gc => ?_)
              · refine Fp_bd ((F_DX7_keptBy 24 a1 h2).mono (fun i k g => g.elim)) (fun r24 h25 => ?_)
                exact Fp_some
              · exact Fp_some
  · exact Fp_some
theorem F_DX7_swap_b56 (k5 : Nat → Int → Int → Int → Int → qH → Option (Int × qH)) (i0 : Nat) (a1 : Int) (a2 : Int) (a3 : Int) (a4 : Int) (i5 : Nat) (h : qH) (_ : i0 + 2 ≤ i5 ∧ i5 ≤ i0 + 9) (k5_h : ∀ (x1 : Int) (x2 : Int) (x3 : Int) (x4 : Int) (hx : qH), Fp (fun (i k : Nat) => (i0 + 2 ≤ i ∧ i ≤ i0 + 9)) hx (k5 i0 x1 x2 x3 x4 hx)) : Fp (fun (i k : Nat) => (i0 + 2 ≤ i ∧ i ≤ i0 + 9)) h (DX7_swap_b56 k5 i0 a1 a2 a3 a4 i5 h) := by
  unfold DX7_swap_b56
  refine Fp_ite (fun gc => ?_) (fun gc => ?_)
  · refine Fp_qu (by first | omega | (simp only []; omega)) (fun h1 => ?_)
    refine Fp_let (fun v2 => ?_)
    exact (k5_h a1 a2 v2 (qw (a4 + 1)) h1)
  · refine Fp_qu (by first | omega | (simp only []; omega)) (fun h3 => ?_)
    refine Fp_let (fun v4 => ?_)
    exact (k5_h a1 a2 v4 (qw (a4 + 1)) h3)
theorem F_DX7_swap_l5   : ∀ (n : Nat) (i0 : Nat) (a1 : Int) (a2 : Int) (a3 : Int) (a4 : Int) (h : qH), Fp (fun (i k : Nat) => (i0 + 2 ≤ i ∧ i ≤ i0 + 9)) h (DX7_swap_l5  n i0 a1 a2 a3 a4 h) := by
  intro n
  induction n with
  | zero =>
    intro i0 a1 a2 a3 a4 h
    exact Fp_none
  | succ n ih =>
    intro i0 a1 a2 a3 a4 h
    rw [DX7_swap_l5.eq_2]
    refine Fp_ite (fun gc => ?_) (fun gc => ?_)
    · exact Fp_some
    · refine Fp_ite (fun gc => ?_) (fun gc => ?_)
      · exact Fp_some
      · refine Fp_ite (fun gc => ?_) (fun gc => ?_)
        · refine Fp_ite (fun gc => ?_) (fun gc => ?_)
          · exact (ih i0 a1 a2 a3 (qw (a4 + 1)) h)
          · refine Fp_ite (fun gc => ?_) (fun gc => ?_)
            · exact (F_DX7_swap_b56 (DX7_swap_l5 n) i0 a1 a2 a3 a4 (i0 + 2 + a4.toNat) h (by omega) (fun x1 x2 x3 x4 hx => ih i0 x1 x2 x3 x4 hx))
            · refine Fp_ite (fun gc => ?_) (fun gc => ?_)
              · exact (ih i0 a1 a2 a3 (qw (a4 + 1)) h)
              · exact (F_DX7_swap_b56 (DX7_swap_l5 n) i0 a1 a2 a3 a4 (i0 + 2 + a4.toNat) h (by omega) (fun x1 x2 x3 x4 hx => ih i0 x1 x2 x3 x4 hx))
        · exact Fp_none
theorem F_DX7_swap  (i0 : Nat) (a1 : Int) (a2 : Int) (h : qH)  : Fp (fun (i k : Nat) => (i0 + 2 ≤ i ∧ i ≤ i0 + 9)) h (DX7_swap i0 a1 a2 h) := by
  unfold DX7_swap
  exact (F_DX7_swap_l5 LF i0 a1 a2 0 0 h)
theorem F_DX9_storm  (a1 : Int) (a2 : Int) (h : qH)  : Fp (fun (i k : Nat) => (26 ≤ i ∧ i ≤ 33) ∨ (i = 44 ∧ 1 ≤ k ∧ k ≤ 2) ∨ (46 ≤ i ∧ i ≤ 155)) h (DX9_storm a1 a2 h) := by
  unfold DX9_storm
  refine Fp_bd ((F_DX1_isCell 5 a1 h).mono (fun i k g => g.elim)) (fun r1 h2 => ?_)
  refine Fp_ite (fun gc => ?_) (fun gc => ?_)
  · exact Fp_some
  · refine Fp_bd ((F_DX1_isCell 5 a2 h2).mono (fun i k g => g.elim)) (fun r4 h5 => ?_)
    refine Fp_ite (fun gc => ?_) (fun gc => ?_)
    · exact Fp_some
    · refine Fp_ite (fun gc => ?_) (fun gc => ?_)
      · refine Fp_bd ((F_DX1_isOpen 5 a1 h5).mono (fun i k g => g.elim)) (fun r7 h8 => ?_)
        refine Fp_ite (fun gc => ?_) (fun gc => ?_)
        · exact Fp_some
        · refine Fp_bd ((F_DX1_isOpen 5 a2 h8).mono (fun i k g => g.elim)) (fun r10 h11 => ?_)
          refine Fp_ite (fun gc => ?_) (fun gc => ?_)
          · refine Fp_bd ((F_DX3_draft 24 h11).mono (fun i k g => by omega)) (fun r13 h14 => ?_)
            refine Fp_bd ((F_DX7_swap 24 a1 a2 h14).mono (fun i k g => by omega)) (fun r16 h17 => ?_)
            refine Fp_ite (fun gc => ?_) (fun gc => ?_)
            · exact Fp_some
            · refine Fp_bd ((F_DX3_commit h17).mono (fun i k g => by omega)) (fun r19 h20 => ?_)
              exact Fp_some
          · exact Fp_some
      · exact Fp_some
theorem F_DX9_suspects  (a1 : Int) (h : qH)  : Fp (fun (i k : Nat) => (14 ≤ i ∧ i ≤ 15) ∨ (i = 160 ∧ 2 ≤ k ∧ k ≤ 3) ∨ (161 ≤ i ∧ i ≤ 162) ∨ i = 225) h (DX9_suspects a1 h) := by
  unfold DX9_suspects
  refine Fp_bd ((F_DX9_seenCode a1 h).mono (fun i k g => g.elim)) (fun r1 h2 => ?_)
  refine Fp_ite (fun gc => ?_) (fun gc => ?_)
  · exact Fp_some
  · refine Fp_bd ((F_DX9_isTray a1 h2).mono (fun i k g => g.elim)) (fun r4 h5 => ?_)
    refine Fp_ite (fun gc => ?_) (fun gc => ?_)
    · refine Fp_ite (fun gc => ?_) (fun gc => ?_)
      · refine Fp_bd (F_DX8_hear (168 + 2 * a1.toNat) (h5.1 24 2) (-1) h5) (fun r9 h10 => ?_)
        exact Fp_some
      · exact Fp_none
    · exact Fp_some
theorem F_DX9_thrower  (a1 : Int) (a2 : Int) (a3 : Int) (h : qH)  : Fp (fun (i k : Nat) => (14 ≤ i ∧ i ≤ 15) ∨ (i = 160 ∧ 2 ≤ k ∧ k ≤ 3) ∨ (161 ≤ i ∧ i ≤ 162) ∨ i = 225) h (DX9_thrower a1 a2 a3 h) := by
  unfold DX9_thrower
  refine Fp_bd ((F_DX9_isTray a1 h).mono (fun i k g => g.elim)) (fun r1 h2 => ?_)
  refine Fp_ite (fun gc => ?_) (fun gc => ?_)
  · exact Fp_some
  · refine Fp_ite (fun gc => ?_) (fun gc => ?_)
    · exact Fp_some
    · refine Fp_ite (fun gc => ?_) (fun gc => ?_)
      · refine Fp_bd ((F_DX9_seenCode a1 h2).mono (fun i k g => g.elim)) (fun r4 h5 => ?_)
        refine Fp_ite (fun gc => ?_) (fun gc => ?_)
        · refine Fp_ite (fun gc => ?_) (fun gc => ?_)
          · refine Fp_ite (fun gc => ?_) (fun gc => ?_)
            · refine Fp_bd (F_DX8_hear (168 + 2 * a1.toNat) (h5.1 24 2) a2 h5) (fun r9 h10 => ?_)
              refine Fp_ite (fun gc => ?_) (fun gc => ?_)
              · refine Fp_ite (fun gc => ?_) (fun gc => ?_)
                · exact Fp_some
                · exact Fp_none
              · refine Fp_ite (fun gc => ?_) (fun gc => ?_)
                · exact Fp_some
                · exact Fp_some
            · exact Fp_none
          · exact Fp_some
        · exact Fp_some
      · exact Fp_some
theorem F_DX9_throwsIt  (a1 : Int) (a2 : Int) (a3 : Int) (h : qH)  : Fp (fun (i k : Nat) => i = 24 ∨ (26 ≤ i ∧ i ≤ 33) ∨ (i = 44 ∧ 1 ≤ k ∧ k ≤ 2) ∨ (46 ≤ i ∧ i ≤ 155)) h (DX9_throwsIt a1 a2 a3 h) := by
  unfold DX9_throwsIt
  refine Fp_bd ((F_DX7_whyNotThrown 24 5 a1 a2 h).mono (fun i k g => g.elim)) (fun r1 h2 => ?_)
  refine Fp_ite (fun gc => ?_) (fun gc => ?_)
  · refine Fp_bd ((F_DX3_draft 24 h2).mono (fun i k g => by omega)) (fun r4 h5 => ?_)
    refine Fp_bd ((F_DX3_commit h5).mono (fun i k g => by omega)) (fun r7 h8 => ?_)
    refine Fp_bd ((F_DX7_launch 24 5 a1 a2 a3 h8).mono (fun i k g => by rcases g with g | g <;> omega)) (fun r10 h11 => ?_)
    exact Fp_some
  · exact Fp_some
theorem F_DX9_tides_l43   : ∀ (n : Nat) (a1 : Int) (a2 : Int) (a3 : Int) (h : qH), Fp (fun (i k : Nat) => (14 ≤ i ∧ i ≤ 15) ∨ i = 24 ∨ (26 ≤ i ∧ i ≤ 33) ∨ (i = 44 ∧ 1 ≤ k ∧ k ≤ 2) ∨ (46 ≤ i ∧ i ≤ 155) ∨ i = 225) h (DX9_tides_l43  n a1 a2 a3 h) := by
  intro n
  induction n with
  | zero =>
    intro a1 a2 a3 h
    exact Fp_none
  | succ n ih =>
    intro a1 a2 a3 h
    rw [DX9_tides_l43.eq_2]
    refine Fp_ite (fun gc => ?_) (fun gc => ?_)
    · refine Fp_bd ((F_DX7_countOf 24 2 h).mono (fun i k g => g.elim)) (fun r1 h2 => ?_)
      exact Fp_some
    · refine Fp_bd ((F_DX7_ebb 24 h).mono (fun i k g => by rcases g with g | g | g | g <;> omega)) (fun r4 h5 => ?_)
      exact (ih a1 a2 (qw (a3 + 1)) h5)
theorem F_DX9_tides  (a1 : Int) (h : qH)  : Fp (fun (i k : Nat) => (14 ≤ i ∧ i ≤ 15) ∨ i = 24 ∨ (26 ≤ i ∧ i ≤ 33) ∨ (i = 44 ∧ 1 ≤ k ∧ k ≤ 2) ∨ (46 ≤ i ∧ i ≤ 155) ∨ i = 225) h (DX9_tides a1 h) := by
  unfold DX9_tides
  refine Fp_ite (fun gc => ?_) (fun gc => ?_)
  · exact Fp_some
  · refine Fp_ite (fun gc => ?_) (fun gc => ?_)
    · refine Fp_bd ((F_DX3_draft 24 h).mono (fun i k g => by omega)) (fun r7 h8 => ?_)
      refine Fp_bd ((F_DX3_commit h8).mono (fun i k g => by omega)) (fun r10 h11 => ?_)
      refine Fp_bd ((F_DX7_countOf 24 2 h11).mono (fun i k g => g.elim)) (fun r13 h14 => ?_)
      exact (F_DX9_tides_l43 LF a1 r13 0 h14)
    · exact Fp_some
theorem F_DX3_bringBack  (a1 : Int) (i2 : Nat) (h : qH)  : Fp (fun (i k : Nat) => (i = 44 ∧ k = 2) ∨ i = i2 ∨ (i2 + 2 ≤ i ∧ i ≤ i2 + 9)) h (DX3_bringBack a1 i2 h) := by
  unfold DX3_bringBack
  refine Fp_qu (by first | omega | (simp only []; omega)) (fun h1 => ?_)
  refine Fp_bd ((F_DX3_slot (h1.1 44 2) h1).mono (fun i k g => g.elim)) (fun r2 h3 => ?_)
  refine Fp_bd ((F_DX7_takeFrom i2 r2.toNat h3).mono (fun i k g => by rcases g with g | g <;> omega)) (fun r5 h6 => ?_)
  exact Fp_some
theorem F_DX9_undo  (a1 : Int) (h : qH)  : Fp (fun (i k : Nat) => i = 24 ∨ (26 ≤ i ∧ i ≤ 33) ∨ (i = 44 ∧ k = 2)) h (DX9_undo a1 h) := by
  unfold DX9_undo
  refine Fp_ite (fun gc => ?_) (fun gc => ?_)
  · exact Fp_some
  · refine Fp_ite (fun gc => ?_) (fun gc => ?_)
    · exact Fp_some
    · refine Fp_ite (fun gc => ?_) (fun gc => ?_)
      · refine Fp_bd ((F_DX3_bringBack a1 24 h).mono (fun i k g => by rcases g with g | g | g <;> omega)) (fun r1 h2 => ?_)
        exact Fp_some
      · exact Fp_some
theorem F_DX9_whereIn_l46   : ∀ (n : Nat) (a2 : Int) (a3 : Int) (h : qH), Fp (fun (i k : Nat) => (14 ≤ i ∧ i ≤ 15) ∨ i = 156 ∨ i = 225) h (DX9_whereIn_l46  n a2 a3 h) := by
  intro n
  induction n with
  | zero =>
    intro a2 a3 h
    exact Fp_none
  | succ n ih =>
    intro a2 a3 h
    rw [DX9_whereIn_l46.eq_2]
    refine Fp_ite (fun gc => ?_) (fun gc => ?_)
    · refine Fp_bd ((F_DX0_place 156 h).mono (fun i k g => g.elim)) (fun r1 h2 => ?_)
      exact Fp_some
    · refine Fp_bd ((F_DX2_carry 156 (qw (h.1 24 2 + a3)) h).mono (fun i k g => by rcases g with g | g | g <;> omega)) (fun r4 h5 => ?_)
      exact (ih a2 (qw (a3 + 1)) h5)
theorem F_DX9_whereIn  (a1 : Int) (a2 : Int) (h : qH)  : Fp (fun (i k : Nat) => (14 ≤ i ∧ i ≤ 15) ∨ i = 156 ∨ i = 225) h (DX9_whereIn a1 a2 h) := by
  unfold DX9_whereIn
  refine Fp_bd ((F_DX7_has 24 a1 h).mono (fun i k g => g.elim)) (fun r7 h8 => ?_)
  refine Fp_ite (fun gc => ?_) (fun gc => ?_)
  · refine Fp_ite (fun gc => ?_) (fun gc => ?_)
    · exact Fp_some
    · refine Fp_ite (fun gc => ?_) (fun gc => ?_)
      · refine Fp_ite (fun gc => ?_) (fun gc => ?_)
        · refine Fp_bd ((F_DX0_takeFrom 156 (26 + a1.toNat) h8).mono (fun i k g => by omega)) (fun r12 h13 => ?_)
          exact (F_DX9_whereIn_l46 LF a2 0 h13)
        · exact Fp_none
      · exact Fp_some
  · exact Fp_some
theorem F_DX9_wind  (a1 : Int) (a2 : Int) (h : qH)  : Fp (fun (i k : Nat) => (14 ≤ i ∧ i ≤ 15) ∨ i = 225) h (DX9_wind a1 a2 h) := by
  unfold DX9_wind
  refine Fp_bd ((F_DX1_isCell 5 a1 h).mono (fun i k g => g.elim)) (fun r1 h2 => ?_)
  refine Fp_ite (fun gc => ?_) (fun gc => ?_)
  · refine Fp_ite (fun gc => ?_) (fun gc => ?_)
    · exact Fp_some
    · refine Fp_ite (fun gc => ?_) (fun gc => ?_)
      · refine Fp_bd (F_DX2_windAt a1 (qw (h2.1 24 2 + a2)) h2) (fun r4 h5 => ?_)
        exact Fp_some
      · exact Fp_some
  · exact Fp_some
theorem F_DX9_without  (a1 : Int) (a2 : Int) (a3 : Int) (h : qH)  : Fp (fun (i k : Nat) => (i = 4 ∧ k = 6) ∨ (13 ≤ i ∧ i ≤ 15) ∨ (225 ≤ i ∧ i ≤ 226)) h (DX9_without a1 a2 a3 h) := by
  unfold DX9_without
  refine Fp_bd ((F_DX9_pairCode a1 a2 h).mono (fun i k g => g.elim)) (fun r1 h2 => ?_)
  refine Fp_ite (fun gc => ?_) (fun gc => ?_)
  · exact Fp_some
  · refine Fp_bd ((F_DX1_isShore 5 a3 h2).mono (fun i k g => g.elim)) (fun r4 h5 => ?_)
    refine Fp_ite (fun gc => ?_) (fun gc => ?_)
    · exact Fp_some
    · refine Fp_ite (fun gc => ?_) (fun gc => ?_)
      · exact Fp_some
      · refine Fp_ite (fun gc => ?_) (fun gc => ?_)
        · refine Fp_ite (fun gc => ?_) (fun gc => ?_)
          · refine Fp_bd ((F_DX2_soonest a1 a2 (h5.1 24 2) h5).mono (fun i k g => by rcases g with g | g <;> omega)) (fun r7 h8 => ?_)
            refine Fp_ite (fun gc => ?_) (fun gc => ?_)
            · refine Fp_qu (by first | omega | (simp only []; omega)) (fun h10 => ?_)
              refine Fp_bd ((F_DX2_soonest a1 a2 (h10.1 24 2) h10).mono (fun i k g => by rcases g with g | g <;> omega)) (fun r11 h12 => ?_)
              refine Fp_qu (by first | omega | (simp only []; omega)) (fun h14 => ?_)
              refine Fp_ite (fun gc => ?_) (fun gc => ?_)
              · refine Fp_bd ((F_DX2_arrivalOf r11 h14).mono (fun i k g => g.elim)) (fun r15 h16 => ?_)
                refine Fp_bd ((F_DX2_arrivalOf r7 h16).mono (fun i k g => g.elim)) (fun r18 h19 => ?_)
                exact Fp_some
              · exact Fp_some
            · exact Fp_some
          · exact Fp_some
        · exact Fp_some
