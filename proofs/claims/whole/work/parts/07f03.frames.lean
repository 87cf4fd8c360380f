/-! ===== frames, printed by wip/whole/gen/gen_frames.py ===== -/
theorem F_DX9_write  (a1 : Int) (a2 : Int) (a3 : Int) (h : qH)  : Fp (fun (i k : Nat) => (169 ≤ i ∧ i ≤ 175)) h (DX9_write a1 a2 a3 h) := by
  unfold DX9_write
  refine Fp_bd ((F_DX9_isTray a1 h).mono (fun i k g => g.elim)) (fun r1 h2 => ?_)
  refine Fp_ite (fun gc => ?_) (fun gc => ?_)
  · refine Fp_ite (fun gc => ?_) (fun gc => ?_)
    · refine Fp_bd ((F_DX6_missing (168 + 2 * a1.toNat) h2).mono (fun i k g => g.elim)) (fun r6 h7 => ?_)
      refine Fp_ite (fun gc => ?_) (fun gc => ?_)
      · refine Fp_ite (fun gc => ?_) (fun gc => ?_)
        · exact Fp_some
        · refine Fp_ite (fun gc => ?_) (fun gc => ?_)
          · refine Fp_ite (fun gc => ?_) (fun gc => ?_)
            · refine Fp_ite (fun gc => ?_) (fun gc => ?_)
              · refine Fp_bd ((F_DX6_put (168 + 2 * a1.toNat) a2 a3 h7).mono (fun i k g => by omega)) (fun r13 h14 => ?_)
                refine Fp_ite (fun gc => ?_) (fun gc => ?_)
                · refine Fp_bd ((F_DX6_numberAt (168 + 2 * a1.toNat) a2 h14).mono (fun i k g => g.elim)) (fun r18 h19 => ?_)
                  exact Fp_some
                · exact Fp_none
              · exact Fp_none
            · exact Fp_some
          · exact Fp_none
      · exact Fp_some
    · exact Fp_none
  · exact Fp_some
theorem F_DX10_within  (a0 : Int) (a2 : Int) (a4 : Int) (h : qH)  : Fp (fun _ _ => False) h (DX10_within a0 a2 a4 h) := by
  unfold DX10_within
  refine Fp_ite (fun gc => ?_) (fun gc => ?_)
  · exact Fp_some
  · refine Fp_ite (fun gc => ?_) (fun gc => ?_)
    · exact Fp_some
    · exact Fp_some
theorem F_DX10_beyond_b56  (a3 : Int) (b0 : Int) (b1 : Int) (h : qH)  : Fp (fun _ _ => False) h (DX10_beyond_b56 a3 b0 b1 h) := by
  unfold DX10_beyond_b56
  refine Fp_let (fun v1 => ?_)
  refine Fp_bd ((F_DX10_within a3 0 (qw (h.1 213 1 - 1)) h).mono (fun i k g => g.elim)) (fun r4 h5 => ?_)
  refine Fp_ite (fun gc => ?_) (fun gc => ?_)
  · exact Fp_some
  · refine Fp_bd ((F_DX10_within v1 0 (qw (h5.1 213 2 - 1)) h5).mono (fun i k g => g.elim)) (fun r9 h10 => ?_)
    refine Fp_ite (fun gc => ?_) (fun gc => ?_)
    · exact Fp_some
    · exact Fp_some
theorem F_DX10_beyond_b27  (a1 : Int) (a2 : Int) (b0 : Int) (b1 : Int) (h : qH)  : Fp (fun _ _ => False) h (DX10_beyond_b27 a1 a2 b0 b1 h) := by
  unfold DX10_beyond_b27
  refine Fp_let (fun v14 => ?_)
  refine Fp_ite (fun gc => ?_) (fun gc => ?_)
  · exact Fp_none
  · refine Fp_ite (fun gc => ?_) (fun gc => ?_)
    · refine Fp_ite (fun gc => ?_) (fun gc => ?_)
      · exact (F_DX10_beyond_b56 v14 0 (qdiv a1 (h.1 213 1)) h)
      · exact (F_DX10_beyond_b56 v14 (-1) (qdiv a1 (h.1 213 1)) h)
    · exact (F_DX10_beyond_b56 v14 1 (qdiv a1 (h.1 213 1)) h)
theorem F_DX10_beyond  (a1 : Int) (a2 : Int) (h : qH)  : Fp (fun _ _ => False) h (DX10_beyond a1 a2 h) := by
  unfold DX10_beyond
  refine Fp_ite (fun gc => ?_) (fun gc => ?_)
  · exact Fp_none
  · refine Fp_ite (fun gc => ?_) (fun gc => ?_)
    · refine Fp_ite (fun gc => ?_) (fun gc => ?_)
      · exact (F_DX10_beyond_b27 a1 a2 0 (qrem a1 (h.1 213 1)) h)
      · exact (F_DX10_beyond_b27 a1 a2 (-1) (qrem a1 (h.1 213 1)) h)
    · exact (F_DX10_beyond_b27 a1 a2 1 (qrem a1 (h.1 213 1)) h)
theorem F_DX10_goes_b28  (b0 : Int) (h : qH)  : Fp (fun (i k : Nat) => i = 217) h (DX10_goes_b28 b0 h) := by
  unfold DX10_goes_b28
  refine Fp_ite (fun gc => ?_) (fun gc => ?_)
  · refine Fp_qu (by first | omega | (simp only []; omega)) (fun h1 => ?_)
    refine Fp_ite (fun gc => ?_) (fun gc => ?_)
    · refine Fp_ite (fun gc => ?_) (fun gc => ?_)
      · refine Fp_ite (fun gc => ?_) (fun gc => ?_)
        · refine Fp_ite (fun gc => ?_) (fun gc => ?_)
          · refine Fp_qu (by first | omega | (simp only []; omega)) (fun h6 => ?_)
            exact Fp_some
          · refine Fp_qu (by first | omega | (simp only []; omega)) (fun h7 => ?_)
            exact Fp_some
        · exact Fp_none
      · refine Fp_qu (by first | omega | (simp only []; omega)) (fun h8 => ?_)
        exact Fp_some
    · exact Fp_none
  · exact Fp_some
theorem F_DX10_goes  (a1 : Int) (h : qH)  : Fp (fun (i k : Nat) => i = 217) h (DX10_goes a1 h) := by
  unfold DX10_goes
  refine Fp_ite (fun gc => ?_) (fun gc => ?_)
  · exact (F_DX10_goes_b28 (-1) h)
  · refine Fp_ite (fun gc => ?_) (fun gc => ?_)
    · refine Fp_bd ((F_DX10_beyond (h.1 217 1) a1 h).mono (fun i k g => g.elim)) (fun r13 h14 => ?_)
      exact (F_DX10_goes_b28 r13 h14)
    · exact (F_DX10_goes_b28 (-1) h)
theorem F_DX10_phaseOf  (a1 : Int) (h : qH)  : Fp (fun _ _ => False) h (DX10_phaseOf a1 h) := by
  unfold DX10_phaseOf
  refine Fp_ite (fun gc => ?_) (fun gc => ?_)
  · exact Fp_none
  · exact Fp_some
theorem F_DX10_goesCurrent  (a1 : Int) (h : qH)  : Fp (fun (i k : Nat) => i = 217) h (DX10_goesCurrent a1 h) := by
  unfold DX10_goesCurrent
  refine Fp_ite (fun gc => ?_) (fun gc => ?_)
  · exact Fp_some
  · refine Fp_bd ((F_DX10_phaseOf a1 h).mono (fun i k g => g.elim)) (fun r5 h6 => ?_)
    refine Fp_ite (fun gc => ?_) (fun gc => ?_)
    · refine Fp_bd (F_DX10_goes (h6.1 213 (qw (qw (50 + qw (6 * h.1 217 1)) + r5)).toNat) h6) (fun r10 h11 => ?_)
      exact Fp_some
    · exact Fp_none
theorem F_DX10_isIn  (a0 : Int) (a2 : Int) (h : qH)  : Fp (fun _ _ => False) h (DX10_isIn a0 a2 h) := by
  unfold DX10_isIn
  refine Fp_ite (fun gc => ?_) (fun gc => ?_)
  · exact Fp_some
  · exact Fp_some
theorem F_DX10_between_b42  (b0 : Int) (h : qH)  : Fp (fun _ _ => False) h (DX10_between_b42 b0 h) := by
  unfold DX10_between_b42
  refine Fp_ite (fun gc => ?_) (fun gc => ?_)
  · refine Fp_ite (fun gc => ?_) (fun gc => ?_)
    · exact Fp_some
    · exact Fp_some
  · exact Fp_some
theorem F_DX10_between  (a0 : Int) (a1 : Int) (a2 : Int) (h : qH)  : Fp (fun _ _ => False) h (DX10_between a0 a1 a2 h) := by
  unfold DX10_between
  refine Fp_ite (fun gc => ?_) (fun gc => ?_)
  · refine Fp_ite (fun gc => ?_) (fun gc => ?_)
    · refine Fp_ite (fun gc => ?_) (fun gc => ?_)
      · refine Fp_ite (fun gc => ?_) (fun gc => ?_)
        · refine Fp_ite (fun gc => ?_) (fun gc => ?_)
          · refine Fp_ite (fun gc => ?_) (fun gc => ?_)
            · exact Fp_some
            · exact Fp_some
          · refine Fp_ite (fun gc => ?_) (fun gc => ?_)
            · exact Fp_some
            · exact Fp_some
        · refine Fp_ite (fun gc => ?_) (fun gc => ?_)
          · exact Fp_some
          · exact Fp_some
      · refine Fp_ite (fun gc => ?_) (fun gc => ?_)
        · exact Fp_some
        · exact Fp_some
    · refine Fp_ite (fun gc => ?_) (fun gc => ?_)
      · exact Fp_some
      · exact Fp_some
  · refine Fp_ite (fun gc => ?_) (fun gc => ?_)
    · refine Fp_ite (fun gc => ?_) (fun gc => ?_)
      · exact (F_DX10_between_b42 (qwl (a1 * a2)) h)
      · exact (F_DX10_between_b42 (qwl (a1 - a2)) h)
    · exact (F_DX10_between_b42 (qwl (a1 + a2)) h)
theorem F_DX10_keepsWord  (a1 : Int) (a2 : Int) (h : qH)  : Fp (fun _ _ => False) h (DX10_keepsWord a1 a2 h) := by
  unfold DX10_keepsWord
  refine Fp_ite (fun gc => ?_) (fun gc => ?_)
  · exact Fp_some
  · refine Fp_ite (fun gc => ?_) (fun gc => ?_)
    · exact Fp_some
    · refine Fp_ite (fun gc => ?_) (fun gc => ?_)
      · exact Fp_some
      · refine Fp_ite (fun gc => ?_) (fun gc => ?_)
        · exact Fp_some
        · refine Fp_ite (fun gc => ?_) (fun gc => ?_)
          · exact Fp_some
          · refine Fp_ite (fun gc => ?_) (fun gc => ?_)
            · exact Fp_some
            · refine Fp_bd ((F_DX10_phaseOf a2 h).mono (fun i k g => g.elim)) (fun r17 h18 => ?_)
              exact Fp_some
theorem F_DX10_moonOf  (a1 : Int) (h : qH)  : Fp (fun _ _ => False) h (DX10_moonOf a1 h) := by
  unfold DX10_moonOf
  refine Fp_ite (fun gc => ?_) (fun gc => ?_)
  · refine Fp_ite (fun gc => ?_) (fun gc => ?_)
    · exact Fp_none
    · exact Fp_some
  · exact Fp_some
theorem F_DX10_windWord  (a1 : Int) (a2 : Int) (a3 : Int) (h : qH)  : Fp (fun _ _ => False) h (DX10_windWord a1 a2 a3 h) := by
  unfold DX10_windWord
  refine Fp_ite (fun gc => ?_) (fun gc => ?_)
  · refine Fp_ite (fun gc => ?_) (fun gc => ?_)
    · refine Fp_ite (fun gc => ?_) (fun gc => ?_)
      · refine Fp_bd ((F_DX10_moonOf a3 h).mono (fun i k g => g.elim)) (fun r1 h2 => ?_)
        exact Fp_some
      · refine Fp_bd ((F_DX10_phaseOf a3 h).mono (fun i k g => g.elim)) (fun r4 h5 => ?_)
        exact Fp_some
    · refine Fp_ite (fun gc => ?_) (fun gc => ?_)
      · exact Fp_none
      · exact Fp_some
  · refine Fp_ite (fun gc => ?_) (fun gc => ?_)
    · exact Fp_none
    · exact Fp_some
theorem F_DX10_reckons_l6   : ∀ (n : Nat) (a1 : Int) (a2 : Int) (a3 : Int) (a4 : Int) (a5 : Int) (h : qH), Fp (fun (i k : Nat) => i = 218) h (DX10_reckons_l6  n a1 a2 a3 a4 a5 h) := by
  intro n
  induction n with
  | zero =>
    intro a1 a2 a3 a4 a5 h
    exact Fp_none
  | succ n ih =>
    intro a1 a2 a3 a4 a5 h
    rw [DX10_reckons_l6.eq_2]
    refine Fp_ite (fun gc => ?_) (fun gc => ?_)
    · refine Fp_ite (fun gc => ?_) (fun gc => ?_)
      · exact Fp_some
      · refine Fp_ite (fun gc => ?_) (fun gc => ?_)
        · refine Fp_ite (fun gc => ?_) (fun gc => ?_)
          · refine Fp_let (fun v9 => ?_)
            refine Fp_ite (fun gc => ?_) (fun gc => ?_)
            · refine Fp_ite (fun gc => ?_) (fun gc => ?_)
              · refine Fp_let (fun v10 => ?_)
                refine Fp_ite (fun gc => ?_) (fun gc => ?_)
                · refine Fp_ite (fun gc => ?_) (fun gc => ?_)
                  · refine Fp_bd ((F_DX10_between v9 (h.1 218 (qw (v10 - 1)).toNat) (h.1 218 v10.toNat) h).mono (fun i k g => g.elim)) (fun r15 h16 => ?_)
                    refine Fp_ite (fun gc => ?_) (fun gc => ?_)
                    · refine Fp_qu (by first | omega | (simp only []; omega)) (fun h18 => ?_)
                      exact (ih a1 a2 a3 v10 (qw (a5 + 1)) h18)
                    · exact Fp_none
                  · exact Fp_none
                · exact Fp_none
              · refine Fp_ite (fun gc => ?_) (fun gc => ?_)
                · refine Fp_ite (fun gc => ?_) (fun gc => ?_)
                  · refine Fp_qu (by first | omega | (simp only []; omega)) (fun h21 => ?_)
                    exact (ih a1 a2 a3 a4 (qw (a5 + 1)) h21)
                  · exact Fp_none
                · exact Fp_none
            · refine Fp_ite (fun gc => ?_) (fun gc => ?_)
              · refine Fp_ite (fun gc => ?_) (fun gc => ?_)
                · refine Fp_bd ((F_DX10_keepsWord (qw (v9 - 1000)) a3 h).mono (fun i k g => g.elim)) (fun r22 h23 => ?_)
                  refine Fp_ite (fun gc => ?_) (fun gc => ?_)
                  · refine Fp_qu (by first | omega | (simp only []; omega)) (fun h25 => ?_)
                    refine Fp_let (fun v26 => ?_)
                    exact (ih a1 a2 a3 v26 (qw (a5 + 1)) h25)
                  · exact Fp_none
                · refine Fp_bd ((F_DX10_windWord (qw (v9 - 1000)) a2 a3 h).mono (fun i k g => g.elim)) (fun r27 h28 => ?_)
                  refine Fp_ite (fun gc => ?_) (fun gc => ?_)
                  · refine Fp_qu (by first | omega | (simp only []; omega)) (fun h30 => ?_)
                    refine Fp_let (fun v31 => ?_)
                    exact (ih a1 a2 a3 v31 (qw (a5 + 1)) h30)
                  · exact Fp_none
              · refine Fp_ite (fun gc => ?_) (fun gc => ?_)
                · refine Fp_qu (by first | omega | (simp only []; omega)) (fun h32 => ?_)
                  refine Fp_let (fun v33 => ?_)
                  exact (ih a1 a2 a3 v33 (qw (a5 + 1)) h32)
                · exact Fp_none
          · exact Fp_none
        · exact Fp_none
    · exact Fp_none
theorem F_DX10_reckons  (a1 : Int) (a2 : Int) (a3 : Int) (h : qH)  : Fp (fun (i k : Nat) => i = 218) h (DX10_reckons a1 a2 a3 h) := by
  unfold DX10_reckons
  exact (F_DX10_reckons_l6 LF a1 a2 a3 0 0 h)
theorem F_DX10_isKept  (a1 : Int) (a2 : Int) (h : qH)  : Fp (fun (i k : Nat) => (i = 212 ∧ k = 18) ∨ i = 218) h (DX10_isKept a1 a2 h) := by
  unfold DX10_isKept
  refine Fp_qu (by first | omega | (simp only []; omega)) (fun h1 => ?_)
  refine Fp_ite (fun gc => ?_) (fun gc => ?_)
  · exact Fp_some
  · refine Fp_ite (fun gc => ?_) (fun gc => ?_)
    · exact Fp_some
    · refine Fp_ite (fun gc => ?_) (fun gc => ?_)
      · exact Fp_some
      · refine Fp_bd ((F_DX10_reckons 1 0 a2 h1).mono (fun i k g => by omega)) (fun r8 h9 => ?_)
        refine Fp_ite (fun gc => ?_) (fun gc => ?_)
        · exact Fp_some
        · exact Fp_some
theorem F_DX10_isOpen  (a1 : Int) (h : qH)  : Fp (fun _ _ => False) h (DX10_isOpen a1 h) := by
  unfold DX10_isOpen
  refine Fp_ite (fun gc => ?_) (fun gc => ?_)
  · exact Fp_some
  · refine Fp_ite (fun gc => ?_) (fun gc => ?_)
    · refine Fp_ite (fun gc => ?_) (fun gc => ?_)
      · exact Fp_some
      · exact Fp_some
    · exact Fp_none
theorem F_DX10_throwsTo  (a1 : Int) (h : qH)  : Fp (fun _ _ => False) h (DX10_throwsTo a1 h) := by
  unfold DX10_throwsTo
  refine Fp_ite (fun gc => ?_) (fun gc => ?_)
  · refine Fp_ite (fun gc => ?_) (fun gc => ?_)
    · refine Fp_bd ((F_DX10_beyond (h.1 213 (qw (266 + a1)).toNat) (h.1 213 (qw (272 + a1)).toNat) h).mono (fun i k g => g.elim)) (fun r5 h6 => ?_)
      refine Fp_bd ((F_DX10_isOpen r5 h6).mono (fun i k g => g.elim)) (fun r8 h9 => ?_)
      refine Fp_ite (fun gc => ?_) (fun gc => ?_)
      · exact Fp_some
      · exact Fp_some
    · exact Fp_none
  · exact Fp_none
theorem F_DX10_isFound  (a1 : Int) (h : qH)  : Fp (fun (i k : Nat) => (i = 212 ∧ k = 18) ∨ (217 ≤ i ∧ i ≤ 218)) h (DX10_isFound a1 h) := by
  unfold DX10_isFound
  refine Fp_ite (fun gc => ?_) (fun gc => ?_)
  · refine Fp_let (fun v5 => ?_)
    refine Fp_ite (fun gc => ?_) (fun gc => ?_)
    · exact Fp_some
    · refine Fp_ite (fun gc => ?_) (fun gc => ?_)
      · refine Fp_bd ((F_DX10_phaseOf a1 h).mono (fun i k g => g.elim)) (fun r8 h9 => ?_)
        refine Fp_bd ((F_DX10_isIn (h.1 213 (qw (278 + v5)).toNat) r8 h9).mono (fun i k g => g.elim)) (fun r11 h12 => ?_)
        refine Fp_ite (fun gc => ?_) (fun gc => ?_)
        · refine Fp_bd ((F_DX10_isKept v5 a1 h12).mono (fun i k g => by rcases g with g | g <;> omega)) (fun r14 h15 => ?_)
          refine Fp_ite (fun gc => ?_) (fun gc => ?_)
          · refine Fp_qu (by first | omega | (simp only []; omega)) (fun h19 => ?_)
            refine Fp_bd ((F_DX10_throwsTo v5 h19).mono (fun i k g => g.elim)) (fun r20 h21 => ?_)
            refine Fp_ite (fun gc => ?_) (fun gc => ?_)
            · refine Fp_bd ((F_DX10_throwsTo v5 h21).mono (fun i k g => g.elim)) (fun r23 h24 => ?_)
              refine Fp_qu (by first | omega | (simp only []; omega)) (fun h26 => ?_)
              refine Fp_qu (by first | omega | (simp only []; omega)) (fun h27 => ?_)
              exact Fp_some
            · exact Fp_some
          · refine Fp_qu (by first | omega | (simp only []; omega)) (fun h28 => ?_)
            refine Fp_qu (by first | omega | (simp only []; omega)) (fun h29 => ?_)
            exact Fp_some
        · exact Fp_some
      · exact Fp_none
  · exact Fp_none
theorem F_DX10_isOn  (h : qH)  : Fp (fun _ _ => False) h (DX10_isOn h) := by
  unfold DX10_isOn
  refine Fp_ite (fun gc => ?_) (fun gc => ?_)
  · exact Fp_some
  · refine Fp_ite (fun gc => ?_) (fun gc => ?_)
    · exact Fp_some
    · exact Fp_some
theorem F_DX10_windOf  (a1 : Int) (a2 : Int) (h : qH)  : Fp (fun (i k : Nat) => i = 218) h (DX10_windOf a1 a2 h) := by
  unfold DX10_windOf
  refine Fp_ite (fun gc => ?_) (fun gc => ?_)
  · refine Fp_bd (F_DX10_reckons 0 a1 a2 h) (fun r3 h4 => ?_)
    refine Fp_let (fun v6 => ?_)
    refine Fp_ite (fun gc => ?_) (fun gc => ?_)
    · exact Fp_some
    · exact Fp_some
  · exact Fp_some
theorem F_DX10_goesTide_b139  (a1 : Int) (h : qH)  : Fp (fun (i k : Nat) => (i = 212 ∧ k = 18) ∨ (217 ≤ i ∧ i ≤ 218)) h (DX10_goesTide_b139 a1 h) := by
  unfold DX10_goesTide_b139
  refine Fp_ite (fun gc => ?_) (fun gc => ?_)
  · exact Fp_some
  · refine Fp_bd (F_DX10_isFound a1 h) (fun r3 h4 => ?_)
    exact Fp_some
theorem F_DX10_goesTide_b75  (a1 : Int) (a2 : Int) (h : qH)  : Fp (fun (i k : Nat) => (i = 212 ∧ k = 18) ∨ (217 ≤ i ∧ i ≤ 218)) h (DX10_goesTide_b75 a1 a2 h) := by
  unfold DX10_goesTide_b75
  refine Fp_bd ((F_DX10_isOn h).mono (fun i k g => g.elim)) (fun r6 h7 => ?_)
  refine Fp_ite (fun gc => ?_) (fun gc => ?_)
  · refine Fp_qu (by first | omega | (simp only []; omega)) (fun h11 => ?_)
    refine Fp_ite (fun gc => ?_) (fun gc => ?_)
    · exact (F_DX10_goesTide_b139 a1 h11)
    · refine Fp_ite (fun gc => ?_) (fun gc => ?_)
      · exact (F_DX10_goesTide_b139 a1 h11)
      · refine Fp_ite (fun gc => ?_) (fun gc => ?_)
        · exact (F_DX10_goesTide_b139 a1 h11)
        · refine Fp_ite (fun gc => ?_) (fun gc => ?_)
          · exact (F_DX10_goesTide_b139 a1 h11)
          · refine Fp_qu (by first | omega | (simp only []; omega)) (fun h20 => ?_)
            exact (F_DX10_goesTide_b139 a1 h20)
  · exact Fp_some
theorem F_DX10_goesTide_b42  (a1 : Int) (a2 : Int) (h : qH)  : Fp (fun (i k : Nat) => (i = 212 ∧ k = 18) ∨ (217 ≤ i ∧ i ≤ 218)) h (DX10_goesTide_b42 a1 a2 h) := by
  unfold DX10_goesTide_b42
  refine Fp_ite (fun gc => ?_) (fun gc => ?_)
  · exact (F_DX10_goesTide_b75 a1 a2 h)
  · refine Fp_ite (fun gc => ?_) (fun gc => ?_)
    · exact (F_DX10_goesTide_b75 a1 a2 h)
    · refine Fp_bd ((F_DX10_windOf (h.1 217 1) a1 h).mono (fun i k g => by omega)) (fun r27 h28 => ?_)
      refine Fp_bd ((F_DX10_goes r27 h28).mono (fun i k g => by omega)) (fun r30 h31 => ?_)
      exact (F_DX10_goesTide_b75 a1 a2 h31)
theorem F_DX10_goesTide  (a1 : Int) (a2 : Int) (h : qH)  : Fp (fun (i k : Nat) => (i = 212 ∧ k = 18) ∨ (217 ≤ i ∧ i ≤ 218)) h (DX10_goesTide a1 a2 h) := by
  unfold DX10_goesTide
  refine Fp_bd ((F_DX10_isOn h).mono (fun i k g => g.elim)) (fun r33 h34 => ?_)
  refine Fp_ite (fun gc => ?_) (fun gc => ?_)
  · refine Fp_bd ((F_DX10_goesCurrent a1 h34).mono (fun i k g => by omega)) (fun r36 h37 => ?_)
    refine Fp_ite (fun gc => ?_) (fun gc => ?_)
    · exact (F_DX10_goesTide_b42 a1 a2 h37)
    · refine Fp_bd ((F_DX10_moonOf a1 h37).mono (fun i k g => g.elim)) (fun r41 h42 => ?_)
      refine Fp_ite (fun gc => ?_) (fun gc => ?_)
      · exact (F_DX10_goesTide_b42 a1 a2 h42)
      · refine Fp_bd ((F_DX10_goesCurrent a1 h42).mono (fun i k g => by omega)) (fun r46 h47 => ?_)
        exact (F_DX10_goesTide_b42 a1 a2 h47)
  · exact Fp_some
theorem F_DX10_loads_l2   : ∀ (n : Nat) (a1 : Int) (a2 : Int) (h : qH), Fp (fun (i k : Nat) => i = 217) h (DX10_loads_l2  n a1 a2 h) := by
  intro n
  induction n with
  | zero =>
    intro a1 a2 h
    exact Fp_none
  | succ n ih =>
    intro a1 a2 h
    rw [DX10_loads_l2.eq_2]
    refine Fp_ite (fun gc => ?_) (fun gc => ?_)
    · exact Fp_some
    · refine Fp_ite (fun gc => ?_) (fun gc => ?_)
      · refine Fp_ite (fun gc => ?_) (fun gc => ?_)
        · refine Fp_qu (by first | omega | (simp only []; omega)) (fun h3 => ?_)
          exact (ih a1 (qw (a2 + 1)) h3)
        · exact Fp_none
      · exact Fp_none
theorem F_DX10_loads  (a1 : Int) (h : qH)  : Fp (fun (i k : Nat) => i = 217) h (DX10_loads a1 h) := by
  unfold DX10_loads
  exact (F_DX10_loads_l2 LF a1 0 h)
theorem F_DX10_beenBy_b36 (k10 : Int → Int → Int → qH → Option (Int × qH)) (a2 : Int) (a3 : Int) (a5 : Int) (h : qH) (k10_h : ∀ (x0 : Int) (x1 : Int) (x2 : Int) (hx : qH), Fp (fun (i k : Nat) => (i = 212 ∧ k = 18) ∨ (217 ≤ i ∧ i ≤ 218)) hx (k10 x0 x1 x2 hx)) : Fp (fun (i k : Nat) => (i = 212 ∧ k = 18) ∨ (217 ≤ i ∧ i ≤ 218)) h (DX10_beenBy_b36 k10 a2 a3 a5 h) := by
  unfold DX10_beenBy_b36
  refine Fp_bd (F_DX10_goesTide (qw (h.1 213 349 + a5)) 0 h) (fun r3 h4 => ?_)
  exact (k10_h a2 a3 (qw (a5 + 1)) h4)
theorem F_DX10_beenBy_l10   : ∀ (n : Nat) (a2 : Int) (a3 : Int) (a5 : Int) (h : qH), Fp (fun (i k : Nat) => (i = 212 ∧ k = 18) ∨ (217 ≤ i ∧ i ≤ 218)) h (DX10_beenBy_l10  n a2 a3 a5 h) := by
  intro n
  induction n with
  | zero =>
    intro a2 a3 a5 h
    exact Fp_none
  | succ n ih =>
    intro a2 a3 a5 h
    rw [DX10_beenBy_l10.eq_2]
    refine Fp_ite (fun gc => ?_) (fun gc => ?_)
    · exact Fp_some
    · refine Fp_ite (fun gc => ?_) (fun gc => ?_)
      · exact (F_DX10_beenBy_b36 (DX10_beenBy_l10 n) a2 a3 a5 h (fun x0 x1 x2 hx => ih x0 x1 x2 hx))
      · exact (F_DX10_beenBy_b36 (DX10_beenBy_l10 n) a2 (qorl a3 (qshll 1 (h.1 217 1))) a5 h (fun x0 x1 x2 hx => ih x0 x1 x2 hx))
theorem F_DX10_beenBy  (a1 : Int) (a2 : Int) (h : qH)  : Fp (fun (i k : Nat) => (i = 212 ∧ k = 18) ∨ (217 ≤ i ∧ i ≤ 218)) h (DX10_beenBy a1 a2 h) := by
  unfold DX10_beenBy
  refine Fp_bd ((F_DX10_loads a1 h).mono (fun i k g => by omega)) (fun r10 h11 => ?_)
  exact (F_DX10_beenBy_l10 LF a2 0 0 h11)
theorem F_DX10_endsIn_l2   : ∀ (n : Nat) (a1 : Int) (a2 : Int) (a3 : Int) (h : qH), Fp (fun (i k : Nat) => (i = 212 ∧ k = 18) ∨ (217 ≤ i ∧ i ≤ 218)) h (DX10_endsIn_l2  n a1 a2 a3 h) := by
  intro n
  induction n with
  | zero =>
    intro a1 a2 a3 h
    exact Fp_none
  | succ n ih =>
    intro a1 a2 a3 h
    rw [DX10_endsIn_l2.eq_2]
    refine Fp_ite (fun gc => ?_) (fun gc => ?_)
    · exact Fp_some
    · refine Fp_bd ((F_DX10_isOn h).mono (fun i k g => g.elim)) (fun r1 h2 => ?_)
      refine Fp_ite (fun gc => ?_) (fun gc => ?_)
      · refine Fp_ite (fun gc => ?_) (fun gc => ?_)
        · exact (ih a1 a2 (qw (a3 + 1)) h2)
        · refine Fp_bd (F_DX10_goesTide (qw (a1 + a3)) 0 h2) (fun r4 h5 => ?_)
          exact (ih a1 a2 (qw (a3 + 1)) h5)
      · exact Fp_some
theorem F_DX10_endsIn  (a1 : Int) (a2 : Int) (h : qH)  : Fp (fun (i k : Nat) => (i = 212 ∧ k = 18) ∨ (217 ≤ i ∧ i ≤ 218)) h (DX10_endsIn a1 a2 h) := by
  unfold DX10_endsIn
  exact (F_DX10_endsIn_l2 LF a1 a2 0 h)
theorem F_DX10_isThrown_b43  (b0 : Int) (b1 : Int) (h : qH)  : Fp (fun (i k : Nat) => i = 217) h (DX10_isThrown_b43 b0 b1 h) := by
  unfold DX10_isThrown_b43
  refine Fp_ite (fun gc => ?_) (fun gc => ?_)
  · refine Fp_qu (by first | omega | (simp only []; omega)) (fun h1 => ?_)
    refine Fp_qu (by first | omega | (simp only []; omega)) (fun h2 => ?_)
    refine Fp_qu (by first | omega | (simp only []; omega)) (fun h3 => ?_)
    refine Fp_qu (by first | omega | (simp only []; omega)) (fun h4 => ?_)
    exact Fp_some
  · exact Fp_none
theorem F_DX10_isThrown  (a1 : Int) (a2 : Int) (a3 : Int) (a4 : Int) (h : qH)  : Fp (fun (i k : Nat) => i = 217) h (DX10_isThrown a1 a2 a3 a4 h) := by
  unfold DX10_isThrown
  refine Fp_qu (by first | omega | (simp only []; omega)) (fun h5 => ?_)
  refine Fp_qu (by first | omega | (simp only []; omega)) (fun h6 => ?_)
  refine Fp_qu (by first | omega | (simp only []; omega)) (fun h7 => ?_)
  refine Fp_qu (by first | omega | (simp only []; omega)) (fun h8 => ?_)
  refine Fp_ite (fun gc => ?_) (fun gc => ?_)
  · exact (F_DX10_isThrown_b43 0 4 h8)
  · exact (F_DX10_isThrown_b43 1 4 h8)
theorem F_DX10_keptBy  (a1 : Int) (a2 : Int) (a3 : Int) (a4 : Int) (h : qH)  : Fp (fun (i k : Nat) => (i = 212 ∧ k = 18) ∨ (i = 212 ∧ k = 23) ∨ (217 ≤ i ∧ i ≤ 218)) h (DX10_keptBy a1 a2 a3 a4 h) := by
  unfold DX10_keptBy
  refine Fp_bd ((F_DX10_throwsTo a1 h).mono (fun i k g => g.elim)) (fun r1 h2 => ?_)
  refine Fp_bd ((F_DX10_isThrown a1 a2 a3 r1 h2).mono (fun i k g => by omega)) (fun r4 h5 => ?_)
  refine Fp_bd ((F_DX10_endsIn a4 200 h5).mono (fun i k g => by rcases g with g | g <;> omega)) (fun r7 h8 => ?_)
  refine Fp_qu (by first | omega | (simp only []; omega)) (fun h10 => ?_)
  refine Fp_ite (fun gc => ?_) (fun gc => ?_)
  · exact Fp_some
  · refine Fp_ite (fun gc => ?_) (fun gc => ?_)
    · exact Fp_some
    · exact Fp_some
theorem F_DX10_bestFrom_b47 (k8 : Int → Int → Int → Int → Int → qH → Option (Int × qH)) (k27 : Int → Int → Int → Int → Int → Int → qH → Option (Int × qH)) (a1 : Int) (a2 : Int) (a3 : Int) (a4 : Int) (a5 : Int) (a6 : Int) (b0 : Int) (b1 : Int) (b2 : Int) (h : qH) (k8_h : ∀ (x0 : Int) (x1 : Int) (x2 : Int) (x3 : Int) (x4 : Int) (hx : qH), Fp (fun (i k : Nat) => (i = 212 ∧ k = 18) ∨ (i = 212 ∧ 23 ≤ k ∧ k ≤ 25) ∨ (217 ≤ i ∧ i ≤ 218)) hx (k8 x0 x1 x2 x3 x4 hx)) (k27_h : ∀ (x0 : Int) (x1 : Int) (x2 : Int) (x3 : Int) (x4 : Int) (x5 : Int) (hx : qH), Fp (fun (i k : Nat) => (i = 212 ∧ k = 18) ∨ (i = 212 ∧ 23 ≤ k ∧ k ≤ 25) ∨ (217 ≤ i ∧ i ≤ 218)) hx (k27 x0 x1 x2 x3 x4 x5 hx)) : Fp (fun (i k : Nat) => (i = 212 ∧ k = 18) ∨ (i = 212 ∧ 23 ≤ k ∧ k ≤ 25) ∨ (217 ≤ i ∧ i ≤ 218)) h (DX10_bestFrom_b47 k8 k27 a1 a2 a3 a4 a5 a6 b0 b1 b2 h) := by
  unfold DX10_bestFrom_b47
  refine Fp_bd ((F_DX10_keptBy b2 b1 b0 (qw (a3 + a5)) h).mono (fun i k g => by rcases g with g | g | g <;> omega)) (fun r1 h2 => ?_)
  refine Fp_ite (fun gc => ?_) (fun gc => ?_)
  · exact (k27_h a1 a2 a3 a4 a5 (qw (a6 + 1)) h2)
  · refine Fp_ite (fun gc => ?_) (fun gc => ?_)
    · refine Fp_let (fun v4 => ?_)
      refine Fp_qu (by first | omega | (simp only []; omega)) (fun h5 => ?_)
      refine Fp_qu (by first | omega | (simp only []; omega)) (fun h6 => ?_)
      exact (k27_h a1 a2 a3 v4 a5 (qw (a6 + 1)) h6)
    · exact (k27_h a1 a2 a3 a4 a5 (qw (a6 + 1)) h2)
theorem F_DX10_bestFrom_l27 (k8 : Int → Int → Int → Int → Int → qH → Option (Int × qH)) (k8_h : ∀ (x0 : Int) (x1 : Int) (x2 : Int) (x3 : Int) (x4 : Int) (hx : qH), Fp (fun (i k : Nat) => (i = 212 ∧ k = 18) ∨ (i = 212 ∧ 23 ≤ k ∧ k ≤ 25) ∨ (217 ≤ i ∧ i ≤ 218)) hx (k8 x0 x1 x2 x3 x4 hx)) : ∀ (n : Nat) (a1 : Int) (a2 : Int) (a3 : Int) (a4 : Int) (a5 : Int) (a6 : Int) (h : qH), Fp (fun (i k : Nat) => (i = 212 ∧ k = 18) ∨ (i = 212 ∧ 23 ≤ k ∧ k ≤ 25) ∨ (217 ≤ i ∧ i ≤ 218)) h (DX10_bestFrom_l27 k8 n a1 a2 a3 a4 a5 a6 h) := by
  intro n
  induction n with
  | zero =>
    intro a1 a2 a3 a4 a5 a6 h
    exact Fp_none
  | succ n ih =>
    intro a1 a2 a3 a4 a5 a6 h
    rw [DX10_bestFrom_l27.eq_2]
    refine Fp_ite (fun gc => ?_) (fun gc => ?_)
    · exact (k8_h a1 a2 a3 a4 (qw (a5 + 1)) h)
    · refine Fp_ite (fun gc => ?_) (fun gc => ?_)
      · exact (F_DX10_bestFrom_b47 k8 (DX10_bestFrom_l27 k8 n) a1 a2 a3 a4 a5 a6 0 a2 a1 h k8_h (fun x0 x1 x2 x3 x4 x5 hx => ih x0 x1 x2 x3 x4 x5 hx))
      · exact (F_DX10_bestFrom_b47 k8 (DX10_bestFrom_l27 k8 n) a1 a2 a3 a4 a5 a6 1 a2 a1 h k8_h (fun x0 x1 x2 x3 x4 x5 hx => ih x0 x1 x2 x3 x4 x5 hx))
theorem F_DX10_bestFrom_l8   : ∀ (n : Nat) (a1 : Int) (a2 : Int) (a3 : Int) (a4 : Int) (a5 : Int) (h : qH), Fp (fun (i k : Nat) => (i = 212 ∧ k = 18) ∨ (i = 212 ∧ 23 ≤ k ∧ k ≤ 25) ∨ (217 ≤ i ∧ i ≤ 218)) h (DX10_bestFrom_l8  n a1 a2 a3 a4 a5 h) := by
  intro n
  induction n with
  | zero =>
    intro a1 a2 a3 a4 a5 h
    exact Fp_none
  | succ n ih =>
    intro a1 a2 a3 a4 a5 h
    rw [DX10_bestFrom_l8.eq_2]
    refine Fp_ite (fun gc => ?_) (fun gc => ?_)
    · exact Fp_some
    · refine Fp_bd ((F_DX10_throwsTo a1 h).mono (fun i k g => g.elim)) (fun r7 h8 => ?_)
      refine Fp_ite (fun gc => ?_) (fun gc => ?_)
      · exact Fp_some
      · exact (F_DX10_bestFrom_l27 (DX10_bestFrom_l8 n) (fun x0 x1 x2 x3 x4 hx => ih x0 x1 x2 x3 x4 hx) LF a1 a2 a3 a4 a5 0 h8)
theorem F_DX10_bestFrom  (a1 : Int) (a2 : Int) (a3 : Int) (h : qH)  : Fp (fun (i k : Nat) => (i = 212 ∧ k = 18) ∨ (i = 212 ∧ 23 ≤ k ∧ k ≤ 25) ∨ (217 ≤ i ∧ i ≤ 218)) h (DX10_bestFrom a1 a2 a3 h) := by
  unfold DX10_bestFrom
  exact (F_DX10_bestFrom_l8 LF a1 a2 a3 1000000 0 h)
theorem F_DX10_isShore  (a1 : Int) (h : qH)  : Fp (fun _ _ => False) h (DX10_isShore a1 h) := by
  unfold DX10_isShore
  refine Fp_bd ((F_DX10_within a1 0 (qw (h.1 213 4 - 1)) h).mono (fun i k g => g.elim)) (fun r3 h4 => ?_)
  refine Fp_ite (fun gc => ?_) (fun gc => ?_)
  · exact Fp_some
  · exact Fp_none
theorem F_DX10_noThrow  (a1 : Int) (a2 : Int) (h : qH)  : Fp (fun _ _ => False) h (DX10_noThrow a1 a2 h) := by
  unfold DX10_noThrow
  refine Fp_bd ((F_DX10_isShore a1 h).mono (fun i k g => g.elim)) (fun r1 h2 => ?_)
  refine Fp_ite (fun gc => ?_) (fun gc => ?_)
  · exact Fp_some
  · refine Fp_ite (fun gc => ?_) (fun gc => ?_)
    · refine Fp_ite (fun gc => ?_) (fun gc => ?_)
      · exact Fp_some
      · exact Fp_some
    · refine Fp_bd ((F_DX10_isShore a2 h2).mono (fun i k g => g.elim)) (fun r4 h5 => ?_)
      refine Fp_ite (fun gc => ?_) (fun gc => ?_)
      · exact Fp_some
      · refine Fp_ite (fun gc => ?_) (fun gc => ?_)
        · exact Fp_some
        · exact Fp_some
theorem F_DX10_best  (a1 : Int) (a2 : Int) (a3 : Int) (h : qH)  : Fp (fun (i k : Nat) => (i = 212 ∧ k = 0) ∨ (i = 212 ∧ k = 18) ∨ (i = 212 ∧ 23 ≤ k ∧ k ≤ 25) ∨ (217 ≤ i ∧ i ≤ 218)) h (DX10_best a1 a2 a3 h) := by
  unfold DX10_best
  refine Fp_qu (by first | omega | (simp only []; omega)) (fun h1 => ?_)
  refine Fp_bd ((F_DX10_noThrow a1 a2 h1).mono (fun i k g => g.elim)) (fun r2 h3 => ?_)
  refine Fp_ite (fun gc => ?_) (fun gc => ?_)
  · exact Fp_some
  · refine Fp_ite (fun gc => ?_) (fun gc => ?_)
    · exact Fp_some
    · refine Fp_bd ((F_DX10_within a3 0 2 h3).mono (fun i k g => g.elim)) (fun r5 h6 => ?_)
      refine Fp_ite (fun gc => ?_) (fun gc => ?_)
      · refine Fp_bd ((F_DX10_throwsTo a1 h6).mono (fun i k g => g.elim)) (fun r8 h9 => ?_)
        refine Fp_ite (fun gc => ?_) (fun gc => ?_)
        · refine Fp_bd ((F_DX10_bestFrom a1 a2 (h9.1 213 349) h9).mono (fun i k g => by rcases g with g | g | g <;> omega)) (fun r13 h14 => ?_)
          refine Fp_ite (fun gc => ?_) (fun gc => ?_)
          · refine Fp_ite (fun gc => ?_) (fun gc => ?_)
            · refine Fp_ite (fun gc => ?_) (fun gc => ?_)
              · exact Fp_some
              · exact Fp_some
            · exact Fp_some
          · exact Fp_some
        · exact Fp_some
      · exact Fp_some
theorem F_DX10_bitsOf_l4   : ∀ (n : Nat) (a0 : Int) (a1 : Int) (a2 : Int) (h : qH), Fp (fun _ _ => False) h (DX10_bitsOf_l4  n a0 a1 a2 h) := by
  intro n
  induction n with
  | zero =>
    intro a0 a1 a2 h
    exact Fp_none
  | succ n ih =>
    intro a0 a1 a2 h
    rw [DX10_bitsOf_l4.eq_2]
    refine Fp_ite (fun gc => ?_) (fun gc => ?_)
    · exact Fp_some
    · refine Fp_let (fun v1 => ?_)
      exact (ih a0 v1 (qw (a2 + 1)) h)
theorem F_DX10_bitsOf  (a0 : Int) (h : qH)  : Fp (fun _ _ => False) h (DX10_bitsOf a0 h) := by
  unfold DX10_bitsOf
  exact (F_DX10_bitsOf_l4 LF a0 0 0 h)
theorem F_DX10_isBottle  (a1 : Int) (h : qH)  : Fp (fun _ _ => False) h (DX10_isBottle a1 h) := by
  unfold DX10_isBottle
  refine Fp_bd ((F_DX10_within a1 0 (qw (h.1 213 348 - 1)) h).mono (fun i k g => g.elim)) (fun r3 h4 => ?_)
  refine Fp_ite (fun gc => ?_) (fun gc => ?_)
  · exact Fp_some
  · exact Fp_none
theorem F_DX10_bottle  (a1 : Int) (a2 : Int) (h : qH)  : Fp (fun (i k : Nat) => (i = 212 ∧ k = 0)) h (DX10_bottle a1 a2 h) := by
  unfold DX10_bottle
  refine Fp_qu (by first | omega | (simp only []; omega)) (fun h1 => ?_)
  refine Fp_bd ((F_DX10_isBottle a1 h1).mono (fun i k g => g.elim)) (fun r2 h3 => ?_)
  refine Fp_ite (fun gc => ?_) (fun gc => ?_)
  · exact Fp_some
  · refine Fp_bd ((F_DX10_within a2 0 7 h3).mono (fun i k g => g.elim)) (fun r5 h6 => ?_)
    refine Fp_ite (fun gc => ?_) (fun gc => ?_)
    · exact Fp_some
    · refine Fp_ite (fun gc => ?_) (fun gc => ?_)
      · exact Fp_some
      · exact Fp_none
theorem F_DX10_cells  (h : qH)  : Fp (fun _ _ => False) h (DX10_cells h) := by
  unfold DX10_cells
  exact Fp_some
theorem F_DX10_openSea_l4   : ∀ (n : Nat) (a1 : Int) (a3 : Int) (h : qH), Fp (fun _ _ => False) h (DX10_openSea_l4  n a1 a3 h) := by
  intro n
  induction n with
  | zero =>
    intro a1 a3 h
    exact Fp_none
  | succ n ih =>
    intro a1 a3 h
    rw [DX10_openSea_l4.eq_2]
    refine Fp_bd ((F_DX10_cells h).mono (fun i k g => g.elim)) (fun r1 h2 => ?_)
    refine Fp_ite (fun gc => ?_) (fun gc => ?_)
    · exact Fp_some
    · refine Fp_bd ((F_DX10_isOpen a3 h2).mono (fun i k g => g.elim)) (fun r4 h5 => ?_)
      refine Fp_ite (fun gc => ?_) (fun gc => ?_)
      · refine Fp_let (fun v7 => ?_)
        exact (ih v7 (qw (a3 + 1)) h5)
      · refine Fp_let (fun v8 => ?_)
        exact (ih v8 (qw (a3 + 1)) h5)
theorem F_DX10_openSea  (h : qH)  : Fp (fun _ _ => False) h (DX10_openSea h) := by
  unfold DX10_openSea
  exact (F_DX10_openSea_l4 LF 0 0 h)
theorem F_DX10_calm_l29   : ∀ (n : Nat) (a1 : Int) (a2 : Int) (a4 : Int) (h : qH), Fp (fun (i k : Nat) => (i = 212 ∧ k = 0) ∨ (i = 212 ∧ k = 18) ∨ (217 ≤ i ∧ i ≤ 218)) h (DX10_calm_l29  n a1 a2 a4 h) := by
  intro n
  induction n with
  | zero =>
    intro a1 a2 a4 h
    exact Fp_none
  | succ n ih =>
    intro a1 a2 a4 h
    rw [DX10_calm_l29.eq_2]
    refine Fp_ite (fun gc => ?_) (fun gc => ?_)
    · exact Fp_some
    · refine Fp_ite (fun gc => ?_) (fun gc => ?_)
      · refine Fp_ite (fun gc => ?_) (fun gc => ?_)
        · exact (ih a1 a2 (qw (a4 + 1)) h)
        · refine Fp_bd ((F_DX10_beenBy a4 a1 h).mono (fun i k g => by rcases g with g | g <;> omega)) (fun r5 h6 => ?_)
          refine Fp_let (fun v8 => ?_)
          exact (ih a1 v8 (qw (a4 + 1)) h6)
      · exact Fp_none
theorem F_DX10_calm  (a1 : Int) (h : qH)  : Fp (fun (i k : Nat) => (i = 212 ∧ k = 0) ∨ (i = 212 ∧ k = 18) ∨ (217 ≤ i ∧ i ≤ 218)) h (DX10_calm a1 h) := by
  unfold DX10_calm
  refine Fp_qu (by first | omega | (simp only []; omega)) (fun h9 => ?_)
  refine Fp_bd ((F_DX10_within a1 1 60 h9).mono (fun i k g => g.elim)) (fun r10 h11 => ?_)
  refine Fp_ite (fun gc => ?_) (fun gc => ?_)
  · refine Fp_bd ((F_DX10_openSea h11).mono (fun i k g => g.elim)) (fun r13 h14 => ?_)
    exact (F_DX10_calm_l29 LF a1 r13 0 h14)
  · exact Fp_some
theorem F_DX10_catchOf_l5   : ∀ (n : Nat) (a1 : Int) (a2 : Int) (a3 : Int) (a4 : Int) (h : qH), Fp (fun (i k : Nat) => (i = 212 ∧ k = 18) ∨ (217 ≤ i ∧ i ≤ 218)) h (DX10_catchOf_l5  n a1 a2 a3 a4 h) := by
  intro n
  induction n with
  | zero =>
    intro a1 a2 a3 a4 h
    exact Fp_none
  | succ n ih =>
    intro a1 a2 a3 a4 h
    rw [DX10_catchOf_l5.eq_2]
    refine Fp_ite (fun gc => ?_) (fun gc => ?_)
    · exact Fp_some
    · refine Fp_bd (F_DX10_beenBy a4 a2 h) (fun r3 h4 => ?_)
      refine Fp_bd ((F_DX10_isIn r3 a1 h4).mono (fun i k g => g.elim)) (fun r6 h7 => ?_)
      refine Fp_ite (fun gc => ?_) (fun gc => ?_)
      · refine Fp_let (fun v9 => ?_)
        exact (ih a1 a2 v9 (qw (a4 + 1)) h7)
      · refine Fp_let (fun v10 => ?_)
        exact (ih a1 a2 v10 (qw (a4 + 1)) h7)
theorem F_DX10_catchOf  (a1 : Int) (a2 : Int) (h : qH)  : Fp (fun (i k : Nat) => (i = 212 ∧ k = 18) ∨ (217 ≤ i ∧ i ≤ 218)) h (DX10_catchOf a1 a2 h) := by
  unfold DX10_catchOf
  exact (F_DX10_catchOf_l5 LF a1 a2 0 0 h)
theorem F_DX10_isCell  (a1 : Int) (h : qH)  : Fp (fun _ _ => False) h (DX10_isCell a1 h) := by
  unfold DX10_isCell
  refine Fp_bd ((F_DX10_cells h).mono (fun i k g => g.elim)) (fun r1 h2 => ?_)
  refine Fp_bd ((F_DX10_within a1 0 (qw (r1 - 1)) h2).mono (fun i k g => g.elim)) (fun r4 h5 => ?_)
  refine Fp_ite (fun gc => ?_) (fun gc => ?_)
  · exact Fp_some
  · exact Fp_none
theorem F_DX10_catches  (a1 : Int) (a2 : Int) (h : qH)  : Fp (fun (i k : Nat) => (i = 212 ∧ k = 0) ∨ (i = 212 ∧ k = 18) ∨ (217 ≤ i ∧ i ≤ 218)) h (DX10_catches a1 a2 h) := by
  unfold DX10_catches
  refine Fp_qu (by first | omega | (simp only []; omega)) (fun h1 => ?_)
  refine Fp_bd ((F_DX10_isCell a1 h1).mono (fun i k g => g.elim)) (fun r2 h3 => ?_)
  refine Fp_ite (fun gc => ?_) (fun gc => ?_)
  · refine Fp_bd ((F_DX10_within a2 1 60 h3).mono (fun i k g => g.elim)) (fun r5 h6 => ?_)
    refine Fp_ite (fun gc => ?_) (fun gc => ?_)
    · refine Fp_bd ((F_DX10_isOpen a1 h6).mono (fun i k g => g.elim)) (fun r8 h9 => ?_)
      refine Fp_ite (fun gc => ?_) (fun gc => ?_)
      · exact Fp_some
      · refine Fp_bd ((F_DX10_catchOf a1 a2 h9).mono (fun i k g => by rcases g with g | g <;> omega)) (fun r11 h12 => ?_)
        exact Fp_some
    · exact Fp_some
  · exact Fp_some
theorem F_DX10_cell  (a1 : Int) (h : qH)  : Fp (fun (i k : Nat) => (i = 212 ∧ k = 0)) h (DX10_cell a1 h) := by
  unfold DX10_cell
  refine Fp_qu (by first | omega | (simp only []; omega)) (fun h1 => ?_)
  refine Fp_bd ((F_DX10_isCell a1 h1).mono (fun i k g => g.elim)) (fun r2 h3 => ?_)
  refine Fp_ite (fun gc => ?_) (fun gc => ?_)
  · exact Fp_some
  · refine Fp_ite (fun gc => ?_) (fun gc => ?_)
    · exact Fp_some
    · exact Fp_none
theorem F_DX10_codes  (a1 : Int) (h : qH)  : Fp (fun (i k : Nat) => i = 216) h (DX10_codes a1 h) := by
  unfold DX10_codes
  refine Fp_ite (fun gc => ?_) (fun gc => ?_)
  · refine Fp_ite (fun gc => ?_) (fun gc => ?_)
    · refine Fp_qu (by first | omega | (simp only []; omega)) (fun h3 => ?_)
      refine Fp_qu (by first | omega | (simp only []; omega)) (fun h6 => ?_)
      exact Fp_some
    · exact Fp_none
  · exact Fp_some
theorem F_DX10_here  (h : qH)  : Fp (fun _ _ => False) h (DX10_here h) := by
  unfold DX10_here
  refine Fp_bd ((F_DX10_isOn h).mono (fun i k g => g.elim)) (fun r1 h2 => ?_)
  refine Fp_ite (fun gc => ?_) (fun gc => ?_)
  · exact Fp_some
  · exact Fp_some
theorem F_DX10_comesTo_l33   : ∀ (n : Nat) (a2 : Int) (a3 : Int) (h : qH), Fp (fun (i k : Nat) => (i = 212 ∧ k = 0) ∨ (i = 212 ∧ k = 18) ∨ (217 ≤ i ∧ i ≤ 218)) h (DX10_comesTo_l33  n a2 a3 h) := by
  intro n
  induction n with
  | zero =>
    intro a2 a3 h
    exact Fp_none
  | succ n ih =>
    intro a2 a3 h
    rw [DX10_comesTo_l33.eq_2]
    refine Fp_ite (fun gc => ?_) (fun gc => ?_)
    · exact Fp_some
    · refine Fp_bd ((F_DX10_here h).mono (fun i k g => g.elim)) (fun r1 h2 => ?_)
      refine Fp_ite (fun gc => ?_) (fun gc => ?_)
      · refine Fp_bd ((F_DX10_goesTide (qw (h2.1 213 349 + a3)) 0 h2).mono (fun i k g => by rcases g with g | g <;> omega)) (fun r6 h7 => ?_)
        exact (ih a2 (qw (a3 + 1)) h7)
      · exact Fp_some
theorem F_DX10_comesTo  (a1 : Int) (a2 : Int) (h : qH)  : Fp (fun (i k : Nat) => (i = 212 ∧ k = 0) ∨ (i = 212 ∧ k = 18) ∨ (217 ≤ i ∧ i ≤ 218)) h (DX10_comesTo a1 a2 h) := by
  unfold DX10_comesTo
  refine Fp_qu (by first | omega | (simp only []; omega)) (fun h9 => ?_)
  refine Fp_bd ((F_DX10_isBottle a1 h9).mono (fun i k g => g.elim)) (fun r10 h11 => ?_)
  refine Fp_ite (fun gc => ?_) (fun gc => ?_)
  · exact Fp_some
  · refine Fp_bd ((F_DX10_isCell a2 h11).mono (fun i k g => g.elim)) (fun r13 h14 => ?_)
    refine Fp_ite (fun gc => ?_) (fun gc => ?_)
    · refine Fp_bd ((F_DX10_loads a1 h14).mono (fun i k g => by omega)) (fun r16 h17 => ?_)
      exact (F_DX10_comesTo_l33 LF a2 0 h17)
    · exact Fp_some
theorem F_DX10_manyOf_l4   : ∀ (n : Nat) (a1 : Int) (a2 : Int) (a3 : Int) (h : qH), Fp (fun _ _ => False) h (DX10_manyOf_l4  n a1 a2 a3 h) := by
  intro n
  induction n with
  | zero =>
    intro a1 a2 a3 h
    exact Fp_none
  | succ n ih =>
    intro a1 a2 a3 h
    rw [DX10_manyOf_l4.eq_2]
    refine Fp_ite (fun gc => ?_) (fun gc => ?_)
    · exact Fp_some
    · refine Fp_ite (fun gc => ?_) (fun gc => ?_)
      · refine Fp_ite (fun gc => ?_) (fun gc => ?_)
        · refine Fp_let (fun v5 => ?_)
          exact (ih a1 v5 (qw (a3 + 1)) h)
        · refine Fp_let (fun v6 => ?_)
          exact (ih a1 v6 (qw (a3 + 1)) h)
      · exact Fp_none
theorem F_DX10_manyOf  (a1 : Int) (h : qH)  : Fp (fun _ _ => False) h (DX10_manyOf a1 h) := by
  unfold DX10_manyOf
  exact (F_DX10_manyOf_l4 LF a1 0 0 h)
theorem F_DX10_rocks_l4   : ∀ (n : Nat) (a1 : Int) (a2 : Int) (h : qH), Fp (fun _ _ => False) h (DX10_rocks_l4  n a1 a2 h) := by
  intro n
  induction n with
  | zero =>
    intro a1 a2 h
    exact Fp_none
  | succ n ih =>
    intro a1 a2 h
    rw [DX10_rocks_l4.eq_2]
    refine Fp_bd ((F_DX10_cells h).mono (fun i k g => g.elim)) (fun r1 h2 => ?_)
    refine Fp_ite (fun gc => ?_) (fun gc => ?_)
    · exact Fp_some
    · refine Fp_ite (fun gc => ?_) (fun gc => ?_)
      · refine Fp_ite (fun gc => ?_) (fun gc => ?_)
        · refine Fp_let (fun v6 => ?_)
          exact (ih v6 (qw (a2 + 1)) h2)
        · refine Fp_let (fun v7 => ?_)
          exact (ih v7 (qw (a2 + 1)) h2)
      · exact Fp_none
theorem F_DX10_rocks  (h : qH)  : Fp (fun _ _ => False) h (DX10_rocks h) := by
  unfold DX10_rocks
  exact (F_DX10_rocks_l4 LF 0 0 h)
theorem F_DX10_count  (a1 : Int) (h : qH)  : Fp (fun (i k : Nat) => (i = 212 ∧ k = 0)) h (DX10_count a1 h) := by
  unfold DX10_count
  refine Fp_qu (by first | omega | (simp only []; omega)) (fun h1 => ?_)
  refine Fp_ite (fun gc => ?_) (fun gc => ?_)
  · exact Fp_some
  · refine Fp_ite (fun gc => ?_) (fun gc => ?_)
    · exact Fp_some
    · refine Fp_ite (fun gc => ?_) (fun gc => ?_)
      · exact Fp_some
      · refine Fp_ite (fun gc => ?_) (fun gc => ?_)
        · exact Fp_some
        · refine Fp_ite (fun gc => ?_) (fun gc => ?_)
          · exact Fp_some
          · refine Fp_ite (fun gc => ?_) (fun gc => ?_)
            · refine Fp_bd ((F_DX10_manyOf 0 h1).mono (fun i k g => g.elim)) (fun r18 h19 => ?_)
              exact Fp_some
            · refine Fp_ite (fun gc => ?_) (fun gc => ?_)
              · refine Fp_bd ((F_DX10_manyOf 2 h1).mono (fun i k g => g.elim)) (fun r22 h23 => ?_)
                exact Fp_some
              · refine Fp_ite (fun gc => ?_) (fun gc => ?_)
                · exact Fp_some
                · refine Fp_ite (fun gc => ?_) (fun gc => ?_)
                  · refine Fp_bd ((F_DX10_phaseOf (h1.1 213 349) h1).mono (fun i k g => g.elim)) (fun r31 h32 => ?_)
                    exact Fp_some
                  · refine Fp_ite (fun gc => ?_) (fun gc => ?_)
                    · refine Fp_bd ((F_DX10_moonOf (h1.1 213 349) h1).mono (fun i k g => g.elim)) (fun r37 h38 => ?_)
                      exact Fp_some
                    · refine Fp_ite (fun gc => ?_) (fun gc => ?_)
                      · exact Fp_some
                      · refine Fp_ite (fun gc => ?_) (fun gc => ?_)
                        · exact Fp_some
                        · refine Fp_ite (fun gc => ?_) (fun gc => ?_)
                          · exact Fp_some
                          · refine Fp_ite (fun gc => ?_) (fun gc => ?_)
                            · refine Fp_bd ((F_DX10_rocks h1).mono (fun i k g => g.elim)) (fun r48 h49 => ?_)
                              exact Fp_some
                            · exact Fp_some
theorem F_DX10_current  (a1 : Int) (a2 : Int) (h : qH)  : Fp (fun (i k : Nat) => (i = 212 ∧ k = 0)) h (DX10_current a1 a2 h) := by
  unfold DX10_current
  refine Fp_qu (by first | omega | (simp only []; omega)) (fun h1 => ?_)
  refine Fp_bd ((F_DX10_isCell a1 h1).mono (fun i k g => g.elim)) (fun r2 h3 => ?_)
  refine Fp_ite (fun gc => ?_) (fun gc => ?_)
  · exact Fp_some
  · refine Fp_bd ((F_DX10_within a2 0 (qw (h3.1 213 3 - 1)) h3).mono (fun i k g => g.elim)) (fun r7 h8 => ?_)
    refine Fp_ite (fun gc => ?_) (fun gc => ?_)
    · exact Fp_some
    · refine Fp_ite (fun gc => ?_) (fun gc => ?_)
      · exact Fp_some
      · exact Fp_none
theorem F_DX10_cut  (a0 : Int) (a2 : Int) (h : qH)  : Fp (fun _ _ => False) h (DX10_cut a0 a2 h) := by
  unfold DX10_cut
  refine Fp_ite (fun gc => ?_) (fun gc => ?_)
  · refine Fp_ite (fun gc => ?_) (fun gc => ?_)
    · refine Fp_ite (fun gc => ?_) (fun gc => ?_)
      · exact Fp_some
      · exact Fp_some
    · exact Fp_some
  · exact Fp_some
theorem F_DX10_deadly_l10   : ∀ (n : Nat) (a1 : Int) (a2 : Int) (a4 : Int) (h : qH), Fp (fun (i k : Nat) => (i = 212 ∧ k = 0) ∨ (i = 212 ∧ k = 18) ∨ (217 ≤ i ∧ i ≤ 218)) h (DX10_deadly_l10  n a1 a2 a4 h) := by
  intro n
  induction n with
  | zero =>
    intro a1 a2 a4 h
    exact Fp_none
  | succ n ih =>
    intro a1 a2 a4 h
    rw [DX10_deadly_l10.eq_2]
    refine Fp_bd ((F_DX10_cells h).mono (fun i k g => g.elim)) (fun r1 h2 => ?_)
    refine Fp_ite (fun gc => ?_) (fun gc => ?_)
    · exact Fp_some
    · refine Fp_bd ((F_DX10_isOpen a4 h2).mono (fun i k g => g.elim)) (fun r4 h5 => ?_)
      refine Fp_ite (fun gc => ?_) (fun gc => ?_)
      · refine Fp_bd ((F_DX10_isThrown (-1) (-1) a1 a4 h5).mono (fun i k g => by omega)) (fun r7 h8 => ?_)
        refine Fp_bd ((F_DX10_endsIn (h8.1 213 349) 200 h8).mono (fun i k g => by rcases g with g | g <;> omega)) (fun r12 h13 => ?_)
        refine Fp_ite (fun gc => ?_) (fun gc => ?_)
        · exact (ih a1 a2 (qw (a4 + 1)) h13)
        · refine Fp_let (fun v17 => ?_)
          exact (ih a1 v17 (qw (a4 + 1)) h13)
      · exact (ih a1 a2 (qw (a4 + 1)) h5)
theorem F_DX10_deadly  (a1 : Int) (h : qH)  : Fp (fun (i k : Nat) => (i = 212 ∧ k = 0) ∨ (i = 212 ∧ k = 18) ∨ (217 ≤ i ∧ i ≤ 218)) h (DX10_deadly a1 h) := by
  unfold DX10_deadly
  refine Fp_qu (by first | omega | (simp only []; omega)) (fun h18 => ?_)
  exact (F_DX10_deadly_l10 LF a1 0 0 h18)
theorem F_DX10_stores_l2   : ∀ (n : Nat) (a1 : Int) (a2 : Int) (h : qH), Fp (fun (i k : Nat) => i = 213) h (DX10_stores_l2  n a1 a2 h) := by
  intro n
  induction n with
  | zero =>
    intro a1 a2 h
    exact Fp_none
  | succ n ih =>
    intro a1 a2 h
    rw [DX10_stores_l2.eq_2]
    refine Fp_ite (fun gc => ?_) (fun gc => ?_)
    · exact Fp_some
    · refine Fp_ite (fun gc => ?_) (fun gc => ?_)
      · refine Fp_ite (fun gc => ?_) (fun gc => ?_)
        · refine Fp_qu (by first | omega | (simp only []; omega)) (fun h3 => ?_)
          exact (ih a1 (qw (a2 + 1)) h3)
        · exact Fp_none
      · exact Fp_none
theorem F_DX10_stores  (a1 : Int) (h : qH)  : Fp (fun (i k : Nat) => i = 213) h (DX10_stores a1 h) := by
  unfold DX10_stores
  exact (F_DX10_stores_l2 LF a1 0 h)
theorem F_DX10_throwsOne  (a1 : Int) (a2 : Int) (a3 : Int) (h : qH)  : Fp (fun (i k : Nat) => i = 213 ∨ i = 217) h (DX10_throwsOne a1 a2 a3 h) := by
  unfold DX10_throwsOne
  refine Fp_bd ((F_DX10_throwsTo a1 h).mono (fun i k g => g.elim)) (fun r1 h2 => ?_)
  refine Fp_bd ((F_DX10_isThrown a1 a2 a3 r1 h2).mono (fun i k g => by omega)) (fun r4 h5 => ?_)
  refine Fp_bd ((F_DX10_stores (h5.1 213 348) h5).mono (fun i k g => by omega)) (fun r9 h10 => ?_)
  refine Fp_qu (by first | omega | (simp only []; omega)) (fun h14 => ?_)
  exact Fp_some
theorem F_DX10_tide_b59 (k4 : Int → Int → qH → Option (Int × qH)) (a2 : Int) (b0 : Int) (b1 : Int) (h : qH) (k4_h : ∀ (x0 : Int) (x1 : Int) (hx : qH), Fp (fun (i k : Nat) => (i = 212 ∧ k = 18) ∨ i = 213 ∨ (217 ≤ i ∧ i ≤ 218)) hx (k4 x0 x1 hx)) : Fp (fun (i k : Nat) => (i = 212 ∧ k = 18) ∨ i = 213 ∨ (217 ≤ i ∧ i ≤ 218)) h (DX10_tide_b59 k4 a2 b0 b1 h) := by
  unfold DX10_tide_b59
  refine Fp_let (fun v1 => ?_)
  refine Fp_bd ((F_DX10_stores a2 h).mono (fun i k g => by omega)) (fun r2 h3 => ?_)
  exact (k4_h v1 (qw (a2 + 1)) h3)
theorem F_DX10_tide_l4   : ∀ (n : Nat) (a1 : Int) (a2 : Int) (h : qH), Fp (fun (i k : Nat) => (i = 212 ∧ k = 18) ∨ i = 213 ∨ (217 ≤ i ∧ i ≤ 218)) h (DX10_tide_l4  n a1 a2 h) := by
  intro n
  induction n with
  | zero =>
    intro a1 a2 h
    exact Fp_none
  | succ n ih =>
    intro a1 a2 h
    rw [DX10_tide_l4.eq_2]
    refine Fp_ite (fun gc => ?_) (fun gc => ?_)
    · refine Fp_qu (by first | omega | (simp only []; omega)) (fun h9 => ?_)
      exact Fp_some
    · refine Fp_bd ((F_DX10_loads a2 h).mono (fun i k g => by omega)) (fun r10 h11 => ?_)
      refine Fp_bd ((F_DX10_isOn h11).mono (fun i k g => g.elim)) (fun r13 h14 => ?_)
      refine Fp_bd ((F_DX10_goesTide (h14.1 213 349) 0 h14).mono (fun i k g => by rcases g with g | g <;> omega)) (fun r18 h19 => ?_)
      refine Fp_ite (fun gc => ?_) (fun gc => ?_)
      · exact (F_DX10_tide_b59 (DX10_tide_l4 n) a2 0 a1 h19 (fun x0 x1 hx => ih x0 x1 hx))
      · refine Fp_ite (fun gc => ?_) (fun gc => ?_)
        · exact (F_DX10_tide_b59 (DX10_tide_l4 n) a2 0 a1 h19 (fun x0 x1 hx => ih x0 x1 hx))
        · exact (F_DX10_tide_b59 (DX10_tide_l4 n) a2 1 a1 h19 (fun x0 x1 hx => ih x0 x1 hx))
theorem F_DX10_tide  (h : qH)  : Fp (fun (i k : Nat) => (i = 212 ∧ k = 18) ∨ i = 213 ∨ (217 ≤ i ∧ i ≤ 218)) h (DX10_tide h) := by
  unfold DX10_tide
  exact (F_DX10_tide_l4 LF 0 0 h)
theorem F_DX10_does_b69  (a1 : Int) (b0 : Int) (b1 : Int) (h : qH)  : Fp (fun (i k : Nat) => (i = 212 ∧ k = 18) ∨ i = 213 ∨ (217 ≤ i ∧ i ≤ 218)) h (DX10_does_b69 a1 b0 b1 h) := by
  unfold DX10_does_b69
  refine Fp_ite (fun gc => ?_) (fun gc => ?_)
  · refine Fp_bd ((F_DX10_throwsOne b1 b0 0 h).mono (fun i k g => by rcases g with g | g <;> omega)) (fun r1 h2 => ?_)
    exact Fp_some
  · refine Fp_bd ((F_DX10_throwsOne b1 b0 1 h).mono (fun i k g => by rcases g with g | g <;> omega)) (fun r4 h5 => ?_)
    exact Fp_some
theorem F_DX10_does  (a1 : Int) (h : qH)  : Fp (fun (i k : Nat) => (i = 212 ∧ k = 18) ∨ i = 213 ∨ (217 ≤ i ∧ i ≤ 218)) h (DX10_does a1 h) := by
  unfold DX10_does
  refine Fp_ite (fun gc => ?_) (fun gc => ?_)
  · refine Fp_ite (fun gc => ?_) (fun gc => ?_)
    · refine Fp_ite (fun gc => ?_) (fun gc => ?_)
      · exact (F_DX10_does_b69 a1 (qrem (qdiv a1 10) 10) (qdiv a1 100) h)
      · exact (F_DX10_does_b69 a1 (-1) (qdiv a1 100) h)
    · refine Fp_ite (fun gc => ?_) (fun gc => ?_)
      · refine Fp_qu (by first | omega | (simp only []; omega)) (fun h7 => ?_)
        exact Fp_some
      · exact Fp_none
  · refine Fp_bd (F_DX10_tide h) (fun r8 h9 => ?_)
    exact Fp_some
theorem F_DX10_draw  (a1 : Int) (h : qH)  : Fp (fun (i k : Nat) => (i = 212 ∧ k = 22)) h (DX10_draw a1 h) := by
  unfold DX10_draw
  refine Fp_qu (by first | omega | (simp only []; omega)) (fun h1 => ?_)
  refine Fp_ite (fun gc => ?_) (fun gc => ?_)
  · exact Fp_none
  · exact Fp_some
theorem F_DX10_drawn_b68  (b0 : Int) (b1 : Int) (b2 : Int) (h : qH)  : Fp (fun (i k : Nat) => (i = 212 ∧ k = 22)) h (DX10_drawn_b68 b0 b1 b2 h) := by
  unfold DX10_drawn_b68
  refine Fp_bd (F_DX10_draw 2 h) (fun r1 h2 => ?_)
  exact Fp_some
theorem F_DX10_drawn  (h : qH)  : Fp (fun (i k : Nat) => (i = 212 ∧ k = 22)) h (DX10_drawn h) := by
  unfold DX10_drawn
  refine Fp_bd (F_DX10_draw 4 h) (fun r4 h5 => ?_)
  refine Fp_ite (fun gc => ?_) (fun gc => ?_)
  · refine Fp_ite (fun gc => ?_) (fun gc => ?_)
    · refine Fp_bd (F_DX10_draw (h5.1 213 4) h5) (fun r9 h10 => ?_)
      refine Fp_bd (F_DX10_draw (h10.1 213 4) h10) (fun r14 h15 => ?_)
      refine Fp_ite (fun gc => ?_) (fun gc => ?_)
      · exact (F_DX10_drawn_b68 r14 10 (qw (100 * r9)) h15)
      · exact (F_DX10_drawn_b68 9 10 (qw (100 * r9)) h15)
    · refine Fp_bd (F_DX10_draw 8 h5) (fun r17 h18 => ?_)
      exact Fp_some
  · exact Fp_some
theorem F_DX10_is  (a1 : Int) (h : qH)  : Fp (fun _ _ => False) h (DX10_is a1 h) := by
  unfold DX10_is
  refine Fp_ite (fun gc => ?_) (fun gc => ?_)
  · exact Fp_some
  · refine Fp_ite (fun gc => ?_) (fun gc => ?_)
    · exact Fp_some
    · exact Fp_some
theorem F_DX10_isDigit  (a0 : Int) (h : qH)  : Fp (fun _ _ => False) h (DX10_isDigit a0 h) := by
  unfold DX10_isDigit
  refine Fp_ite (fun gc => ?_) (fun gc => ?_)
  · exact Fp_some
  · refine Fp_ite (fun gc => ?_) (fun gc => ?_)
    · exact Fp_some
    · exact Fp_some
theorem F_DX10_isSmall  (a0 : Int) (h : qH)  : Fp (fun _ _ => False) h (DX10_isSmall a0 h) := by
  unfold DX10_isSmall
  refine Fp_ite (fun gc => ?_) (fun gc => ?_)
  · exact Fp_some
  · refine Fp_ite (fun gc => ?_) (fun gc => ?_)
    · exact Fp_some
    · exact Fp_some
theorem F_DX10_keyAt_l97 (k4 : Int → Int → qH → Option (Int × qH)) (k4_h : ∀ (x0 : Int) (x1 : Int) (hx : qH), Fp (fun _ _ => False) hx (k4 x0 x1 hx)) : ∀ (n : Nat) (a1 : Int) (a2 : Int) (h : qH), Fp (fun _ _ => False) h (DX10_keyAt_l97 k4 n a1 a2 h) := by
  intro n
  induction n with
  | zero =>
    intro a1 a2 h
    exact Fp_none
  | succ n ih =>
    intro a1 a2 h
    rw [DX10_keyAt_l97.eq_2]
    refine Fp_bd (Ft_J0_charAt_5068e 29 a2 h) (fun r1 h2 => ?_)
    refine Fp_ite (fun gc => ?_) (fun gc => ?_)
    · refine Fp_let (fun v4 => ?_)
      exact (k4_h (qw (a1 + 1)) v4 h2)
    · exact (ih a1 (qw (a2 + 1)) h2)
theorem F_DX10_keyAt_b69 (k4 : Int → Int → qH → Option (Int × qH)) (a1 : Int) (a2 : Int) (a3 : Int) (h : qH) (k4_h : ∀ (x0 : Int) (x1 : Int) (hx : qH), Fp (fun _ _ => False) hx (k4 x0 x1 hx)) : Fp (fun _ _ => False) h (DX10_keyAt_b69 k4 a1 a2 a3 h) := by
  unfold DX10_keyAt_b69
  refine Fp_bd (Ft_J0_charAt_5068e 29 (qw (a2 + a3)) h) (fun r5 h6 => ?_)
  refine Fp_ite (fun gc => ?_) (fun gc => ?_)
  · exact (F_DX10_keyAt_l97 k4 k4_h LF a1 a2 h6)
  · refine Fp_ite (fun gc => ?_) (fun gc => ?_)
    · exact (F_DX10_keyAt_l97 k4 k4_h LF a1 a2 h6)
    · exact Fp_some
theorem F_DX10_keyAt_l15 (k4 : Int → Int → qH → Option (Int × qH)) (k4_h : ∀ (x0 : Int) (x1 : Int) (hx : qH), Fp (fun _ _ => False) hx (k4 x0 x1 hx)) : ∀ (n : Nat) (a1 : Int) (a2 : Int) (a3 : Int) (h : qH), Fp (fun _ _ => False) h (DX10_keyAt_l15 k4 n a1 a2 a3 h) := by
  intro n
  induction n with
  | zero =>
    intro a1 a2 a3 h
    exact Fp_none
  | succ n ih =>
    intro a1 a2 a3 h
    rw [DX10_keyAt_l15.eq_2]
    refine Fp_bd (Ft_J0_charAt_5068e 29 (qw (a2 + a3)) h) (fun r8 h9 => ?_)
    refine Fp_ite (fun gc => ?_) (fun gc => ?_)
    · exact (F_DX10_keyAt_b69 k4 a1 a2 a3 h9 k4_h)
    · refine Fp_ite (fun gc => ?_) (fun gc => ?_)
      · exact (F_DX10_keyAt_b69 k4 a1 a2 a3 h9 k4_h)
      · refine Fp_ite (fun gc => ?_) (fun gc => ?_)
        · refine Fp_bd (Ft_J0_charAt_5068e 29 (qw (a2 + a3)) h9) (fun r13 h14 => ?_)
          refine Fp_ite (fun gc => ?_) (fun gc => ?_)
          · exact (F_DX10_keyAt_b69 k4 a1 a2 a3 h14 k4_h)
          · exact (ih a1 a2 (qw (a3 + 1)) h14)
        · exact Fp_none
theorem F_DX10_keyAt_l4   : ∀ (n : Nat) (a1 : Int) (a2 : Int) (h : qH), Fp (fun _ _ => False) h (DX10_keyAt_l4  n a1 a2 h) := by
  intro n
  induction n with
  | zero =>
    intro a1 a2 h
    exact Fp_none
  | succ n ih =>
    intro a1 a2 h
    rw [DX10_keyAt_l4.eq_2]
    refine Fp_bd (Ft_J0_length_8abf5 29 h) (fun r16 h17 => ?_)
    refine Fp_ite (fun gc => ?_) (fun gc => ?_)
    · exact Fp_some
    · exact (F_DX10_keyAt_l15 (DX10_keyAt_l4 n) (fun x0 x1 hx => ih x0 x1 hx) LF a1 a2 0 h17)
theorem F_DX10_keyAt  (h : qH)  : Fp (fun _ _ => False) h (DX10_keyAt h) := by
  unfold DX10_keyAt
  exact (F_DX10_keyAt_l4 LF 0 1 h)
theorem F_DX10_see  (a1 : Int) (h : qH)  : Fp (fun _ _ => False) h (DX10_see a1 h) := by
  unfold DX10_see
  refine Fp_ite (fun gc => ?_) (fun gc => ?_)
  · exact Fp_some
  · refine Fp_ite (fun gc => ?_) (fun gc => ?_)
    · exact Fp_some
    · exact Fp_none
theorem F_DX10_next_l254   : ∀ (n : Nat) (a1 : Int) (h : qH), Fp (fun (i k : Nat) => (i = 212 ∧ 6 ≤ k ∧ k ≤ 7) ∨ (i = 212 ∧ 9 ≤ k ∧ k ≤ 10)) h (DX10_next_l254  n a1 h) := by
  intro n
  induction n with
  | zero =>
    intro a1 h
    exact Fp_none
  | succ n ih =>
    intro a1 h
    rw [DX10_next_l254.eq_2]
    refine Fp_bd (Ft_J0_length_8abf5 30 h) (fun r1 h2 => ?_)
    refine Fp_ite (fun gc => ?_) (fun gc => ?_)
    · exact Fp_some
    · refine Fp_bd ((F_DX10_see (h2.1 212 6) h2).mono (fun i k g => g.elim)) (fun r4 h5 => ?_)
      refine Fp_bd (Ft_J0_charAt_5068e 30 a1 h5) (fun r7 h8 => ?_)
      refine Fp_ite (fun gc => ?_) (fun gc => ?_)
      · exact (ih (qw (a1 + 1)) h8)
      · refine Fp_qu (by first | omega | (simp only []; omega)) (fun h10 => ?_)
        exact (ih (qw (a1 + 1)) h10)
theorem F_DX10_next_l146   : ∀ (n : Nat)  (h : qH), Fp (fun (i k : Nat) => (i = 212 ∧ 6 ≤ k ∧ k ≤ 7) ∨ (i = 212 ∧ 9 ≤ k ∧ k ≤ 10)) h (DX10_next_l146  n h) := by
  intro n
  induction n with
  | zero =>
    intro h
    exact Fp_none
  | succ n ih =>
    intro h
    rw [DX10_next_l146.eq_2]
    refine Fp_bd ((F_DX10_see (h.1 212 7) h).mono (fun i k g => g.elim)) (fun r11 h12 => ?_)
    refine Fp_bd ((F_DX10_isDigit r11 h12).mono (fun i k g => g.elim)) (fun r14 h15 => ?_)
    refine Fp_ite (fun gc => ?_) (fun gc => ?_)
    · refine Fp_ite (fun gc => ?_) (fun gc => ?_)
      · refine Fp_qu (by first | omega | (simp only []; omega)) (fun h17 => ?_)
        exact Fp_some
      · refine Fp_qu (by first | omega | (simp only []; omega)) (fun h18 => ?_)
        exact Fp_some
    · refine Fp_ite (fun gc => ?_) (fun gc => ?_)
      · refine Fp_qu (by first | omega | (simp only []; omega)) (fun h19 => ?_)
        exact (ih h19)
      · refine Fp_bd ((F_DX10_see (h15.1 212 7) h15).mono (fun i k g => g.elim)) (fun r20 h21 => ?_)
        refine Fp_qu (by first | omega | (simp only []; omega)) (fun h23 => ?_)
        refine Fp_qu (by first | omega | (simp only []; omega)) (fun h24 => ?_)
        exact (ih h24)
theorem F_DX10_next_l89   : ∀ (n : Nat)  (h : qH), Fp (fun (i k : Nat) => (i = 212 ∧ 6 ≤ k ∧ k ≤ 7) ∨ (i = 212 ∧ 9 ≤ k ∧ k ≤ 10)) h (DX10_next_l89  n h) := by
  intro n
  induction n with
  | zero =>
    intro h
    exact Fp_none
  | succ n ih =>
    intro h
    rw [DX10_next_l89.eq_2]
    refine Fp_bd ((F_DX10_see (h.1 212 7) h).mono (fun i k g => g.elim)) (fun r25 h26 => ?_)
    refine Fp_bd ((F_DX10_isSmall r25 h26).mono (fun i k g => g.elim)) (fun r28 h29 => ?_)
    refine Fp_ite (fun gc => ?_) (fun gc => ?_)
    · refine Fp_bd ((F_DX10_keyAt h29).mono (fun i k g => g.elim)) (fun r31 h32 => ?_)
      refine Fp_qu (by first | omega | (simp only []; omega)) (fun h34 => ?_)
      exact Fp_some
    · refine Fp_qu (by first | omega | (simp only []; omega)) (fun h35 => ?_)
      exact (ih h35)
theorem F_DX10_next_l8   : ∀ (n : Nat)  (h : qH), Fp (fun (i k : Nat) => (i = 212 ∧ 6 ≤ k ∧ k ≤ 7) ∨ (i = 212 ∧ 9 ≤ k ∧ k ≤ 10)) h (DX10_next_l8  n h) := by
  intro n
  induction n with
  | zero =>
    intro h
    exact Fp_none
  | succ n ih =>
    intro h
    rw [DX10_next_l8.eq_2]
    refine Fp_bd ((F_DX10_see (h.1 212 6) h).mono (fun i k g => g.elim)) (fun r36 h37 => ?_)
    refine Fp_ite (fun gc => ?_) (fun gc => ?_)
    · refine Fp_qu (by first | omega | (simp only []; omega)) (fun h39 => ?_)
      exact (ih h39)
    · refine Fp_bd ((F_DX10_see (h37.1 212 6) h37).mono (fun i k g => g.elim)) (fun r40 h41 => ?_)
      refine Fp_ite (fun gc => ?_) (fun gc => ?_)
      · refine Fp_qu (by first | omega | (simp only []; omega)) (fun h43 => ?_)
        refine Fp_ite (fun gc => ?_) (fun gc => ?_)
        · refine Fp_bd ((F_DX10_see (h43.1 212 6) h43).mono (fun i k g => g.elim)) (fun r44 h45 => ?_)
          refine Fp_bd ((F_DX10_isSmall r44 h45).mono (fun i k g => g.elim)) (fun r47 h48 => ?_)
          refine Fp_ite (fun gc => ?_) (fun gc => ?_)
          · refine Fp_bd ((F_DX10_see (h48.1 212 6) h48).mono (fun i k g => g.elim)) (fun r50 h51 => ?_)
            refine Fp_bd ((F_DX10_isDigit r50 h51).mono (fun i k g => g.elim)) (fun r53 h54 => ?_)
            refine Fp_ite (fun gc => ?_) (fun gc => ?_)
            · refine Fp_qu (by first | omega | (simp only []; omega)) (fun h56 => ?_)
              refine Fp_qu (by first | omega | (simp only []; omega)) (fun h57 => ?_)
              exact (F_DX10_next_l254 LF 0 h57)
            · refine Fp_qu (by first | omega | (simp only []; omega)) (fun h58 => ?_)
              exact (F_DX10_next_l146 LF h58)
          · exact (F_DX10_next_l89 LF h48)
        · refine Fp_qu (by first | omega | (simp only []; omega)) (fun h59 => ?_)
          exact Fp_some
      · refine Fp_qu (by first | omega | (simp only []; omega)) (fun h60 => ?_)
        exact (ih h60)
theorem F_DX10_next  (h : qH)  : Fp (fun (i k : Nat) => (i = 212 ∧ 6 ≤ k ∧ k ≤ 7) ∨ (i = 212 ∧ 9 ≤ k ∧ k ≤ 10)) h (DX10_next h) := by
  unfold DX10_next
  refine Fp_qu (by first | omega | (simp only []; omega)) (fun h61 => ?_)
  exact (F_DX10_next_l8 LF h61)
theorem F_DX10_eats  (a1 : Int) (h : qH)  : Fp (fun (i k : Nat) => (i = 212 ∧ 6 ≤ k ∧ k ≤ 7) ∨ (i = 212 ∧ 9 ≤ k ∧ k ≤ 10)) h (DX10_eats a1 h) := by
  unfold DX10_eats
  refine Fp_bd ((F_DX10_is a1 h).mono (fun i k g => g.elim)) (fun r1 h2 => ?_)
  refine Fp_ite (fun gc => ?_) (fun gc => ?_)
  · refine Fp_bd (F_DX10_next h2) (fun r4 h5 => ?_)
    exact Fp_some
  · exact Fp_some
theorem F_DX10_eddy_l38   : ∀ (n : Nat) (a1 : Int) (a3 : Int) (h : qH), Fp (fun (i k : Nat) => (i = 212 ∧ k = 0) ∨ (i = 212 ∧ k = 18) ∨ (217 ≤ i ∧ i ≤ 218)) h (DX10_eddy_l38  n a1 a3 h) := by
  intro n
  induction n with
  | zero =>
    intro a1 a3 h
    exact Fp_none
  | succ n ih =>
    intro a1 a3 h
    rw [DX10_eddy_l38.eq_2]
    refine Fp_ite (fun gc => ?_) (fun gc => ?_)
    · exact Fp_some
    · refine Fp_bd ((F_DX10_goesTide (qw (qw (h.1 213 349 + a3) - 1)) 1 h).mono (fun i k g => by rcases g with g | g <;> omega)) (fun r3 h4 => ?_)
      refine Fp_ite (fun gc => ?_) (fun gc => ?_)
      · refine Fp_ite (fun gc => ?_) (fun gc => ?_)
        · exact (ih a1 (qw (a3 + 1)) h4)
        · refine Fp_bd ((F_DX10_phaseOf (qw (h4.1 213 349 + a3)) h4).mono (fun i k g => g.elim)) (fun r12 h13 => ?_)
          refine Fp_bd ((F_DX10_phaseOf (h13.1 213 349) h13).mono (fun i k g => g.elim)) (fun r17 h18 => ?_)
          refine Fp_ite (fun gc => ?_) (fun gc => ?_)
          · exact (ih a1 (qw (a3 + 1)) h18)
          · refine Fp_bd ((F_DX10_moonOf (qw (h18.1 213 349 + a3)) h18).mono (fun i k g => g.elim)) (fun r22 h23 => ?_)
            refine Fp_bd ((F_DX10_moonOf (h23.1 213 349) h23).mono (fun i k g => g.elim)) (fun r27 h28 => ?_)
            refine Fp_ite (fun gc => ?_) (fun gc => ?_)
            · exact (ih a1 (qw (a3 + 1)) h28)
            · exact Fp_some
      · exact Fp_some
theorem F_DX10_eddy  (a1 : Int) (a2 : Int) (h : qH)  : Fp (fun (i k : Nat) => (i = 212 ∧ k = 0) ∨ (i = 212 ∧ k = 18) ∨ (217 ≤ i ∧ i ≤ 218)) h (DX10_eddy a1 a2 h) := by
  unfold DX10_eddy
  refine Fp_qu (by first | omega | (simp only []; omega)) (fun h30 => ?_)
  refine Fp_bd ((F_DX10_isCell a1 h30).mono (fun i k g => g.elim)) (fun r31 h32 => ?_)
  refine Fp_ite (fun gc => ?_) (fun gc => ?_)
  · refine Fp_bd ((F_DX10_isOpen a1 h32).mono (fun i k g => g.elim)) (fun r34 h35 => ?_)
    refine Fp_ite (fun gc => ?_) (fun gc => ?_)
    · refine Fp_bd ((F_DX10_isThrown (-1) (-1) a2 a1 h35).mono (fun i k g => by omega)) (fun r37 h38 => ?_)
      exact (F_DX10_eddy_l38 LF a1 1 h38)
    · exact Fp_some
  · exact Fp_some
theorem F_DX10_fails  (a1 : Int) (h : qH)  : Fp (fun (i k : Nat) => (i = 212 ∧ 11 ≤ k ∧ k ≤ 12)) h (DX10_fails a1 h) := by
  unfold DX10_fails
  refine Fp_ite (fun gc => ?_) (fun gc => ?_)
  · refine Fp_ite (fun gc => ?_) (fun gc => ?_)
    · refine Fp_qu (by first | omega | (simp only []; omega)) (fun h1 => ?_)
      refine Fp_qu (by first | omega | (simp only []; omega)) (fun h2 => ?_)
      exact Fp_some
    · refine Fp_qu (by first | omega | (simp only []; omega)) (fun h3 => ?_)
      refine Fp_qu (by first | omega | (simp only []; omega)) (fun h4 => ?_)
      exact Fp_some
  · exact Fp_some
theorem F_DX10_ends  (h : qH)  : Fp (fun (i k : Nat) => (i = 212 ∧ 6 ≤ k ∧ k ≤ 7) ∨ (i = 212 ∧ 9 ≤ k ∧ k ≤ 12) ∨ (i = 216 ∧ k = 0)) h (DX10_ends h) := by
  unfold DX10_ends
  refine Fp_bd ((F_DX10_eats 40 h).mono (fun i k g => by rcases g with g | g <;> omega)) (fun r1 h2 => ?_)
  refine Fp_ite (fun gc => ?_) (fun gc => ?_)
  · refine Fp_qu (by first | omega | (simp only []; omega)) (fun h6 => ?_)
    exact Fp_some
  · refine Fp_bd ((F_DX10_fails 2 h2).mono (fun i k g => by omega)) (fun r7 h8 => ?_)
    refine Fp_qu (by first | omega | (simp only []; omega)) (fun h12 => ?_)
    exact Fp_some
theorem F_DX10_fate  (a1 : Int) (a2 : Int) (h : qH)  : Fp (fun (i k : Nat) => (i = 212 ∧ k = 0) ∨ (i = 212 ∧ k = 18) ∨ (217 ≤ i ∧ i ≤ 218)) h (DX10_fate a1 a2 h) := by
  unfold DX10_fate
  refine Fp_qu (by first | omega | (simp only []; omega)) (fun h1 => ?_)
  refine Fp_bd ((F_DX10_isBottle a1 h1).mono (fun i k g => g.elim)) (fun r2 h3 => ?_)
  refine Fp_ite (fun gc => ?_) (fun gc => ?_)
  · exact Fp_some
  · refine Fp_bd ((F_DX10_within a2 0 2 h3).mono (fun i k g => g.elim)) (fun r5 h6 => ?_)
    refine Fp_ite (fun gc => ?_) (fun gc => ?_)
    · refine Fp_bd ((F_DX10_loads a1 h6).mono (fun i k g => by omega)) (fun r8 h9 => ?_)
      refine Fp_bd ((F_DX10_endsIn (h9.1 213 349) 200 h9).mono (fun i k g => by rcases g with g | g <;> omega)) (fun r13 h14 => ?_)
      refine Fp_ite (fun gc => ?_) (fun gc => ?_)
      · refine Fp_ite (fun gc => ?_) (fun gc => ?_)
        · exact Fp_some
        · refine Fp_ite (fun gc => ?_) (fun gc => ?_)
          · exact Fp_some
          · exact Fp_some
      · exact Fp_some
    · exact Fp_some
theorem F_DX10_fault  (a1 : Int) (h : qH)  : Fp (fun (i k : Nat) => (i = 212 ∧ k = 0)) h (DX10_fault a1 h) := by
  unfold DX10_fault
  refine Fp_qu (by first | omega | (simp only []; omega)) (fun h1 => ?_)
  refine Fp_ite (fun gc => ?_) (fun gc => ?_)
  · refine Fp_ite (fun gc => ?_) (fun gc => ?_)
    · exact Fp_some
    · exact Fp_some
  · exact Fp_some
theorem F_DX10_feed_b77 (k24 : Int → Int → Int → Int → Int → Int → qH → Option (Int × qH)) (a1 : Int) (a2 : Int) (a3 : Int) (a4 : Int) (a5 : Int) (a6 : Int) (b0 : Int) (h : qH) (k24_h : ∀ (x0 : Int) (x1 : Int) (x2 : Int) (x3 : Int) (x4 : Int) (x5 : Int) (hx : qH), Fp (fun (i k : Nat) => (i = 212 ∧ k = 0) ∨ (i = 212 ∧ k = 5) ∨ i = 215) hx (k24 x0 x1 x2 x3 x4 x5 hx)) : Fp (fun (i k : Nat) => (i = 212 ∧ k = 0) ∨ (i = 212 ∧ k = 5) ∨ i = 215) h (DX10_feed_b77 k24 a1 a2 a3 a4 a5 a6 b0 h) := by
  unfold DX10_feed_b77
  refine Fp_ite (fun gc => ?_) (fun gc => ?_)
  · refine Fp_qu (by first | omega | (simp only []; omega)) (fun h1 => ?_)
    refine Fp_qu (by first | omega | (simp only []; omega)) (fun h2 => ?_)
    exact (k24_h a1 a2 a3 a4 a5 (qw (a6 + 1)) h2)
  · exact Fp_none
theorem F_DX10_feed_l24   : ∀ (n : Nat) (a1 : Int) (a2 : Int) (a3 : Int) (a4 : Int) (a5 : Int) (a6 : Int) (h : qH), Fp (fun (i k : Nat) => (i = 212 ∧ k = 0) ∨ (i = 212 ∧ k = 5) ∨ i = 215) h (DX10_feed_l24  n a1 a2 a3 a4 a5 a6 h) := by
  intro n
  induction n with
  | zero =>
    intro a1 a2 a3 a4 a5 a6 h
    exact Fp_none
  | succ n ih =>
    intro a1 a2 a3 a4 a5 a6 h
    rw [DX10_feed_l24.eq_2]
    refine Fp_ite (fun gc => ?_) (fun gc => ?_)
    · exact Fp_some
    · refine Fp_ite (fun gc => ?_) (fun gc => ?_)
      · refine Fp_ite (fun gc => ?_) (fun gc => ?_)
        · refine Fp_ite (fun gc => ?_) (fun gc => ?_)
          · refine Fp_ite (fun gc => ?_) (fun gc => ?_)
            · exact (F_DX10_feed_b77 (DX10_feed_l24 n) a1 a2 a3 a4 a5 a6 a5 h (fun x0 x1 x2 x3 x4 x5 hx => ih x0 x1 x2 x3 x4 x5 hx))
            · exact (F_DX10_feed_b77 (DX10_feed_l24 n) a1 a2 a3 a4 a5 a6 a4 h (fun x0 x1 x2 x3 x4 x5 hx => ih x0 x1 x2 x3 x4 x5 hx))
          · exact (F_DX10_feed_b77 (DX10_feed_l24 n) a1 a2 a3 a4 a5 a6 a3 h (fun x0 x1 x2 x3 x4 x5 hx => ih x0 x1 x2 x3 x4 x5 hx))
        · exact (F_DX10_feed_b77 (DX10_feed_l24 n) a1 a2 a3 a4 a5 a6 a2 h (fun x0 x1 x2 x3 x4 x5 hx => ih x0 x1 x2 x3 x4 x5 hx))
      · exact (F_DX10_feed_b77 (DX10_feed_l24 n) a1 a2 a3 a4 a5 a6 a1 h (fun x0 x1 x2 x3 x4 x5 hx => ih x0 x1 x2 x3 x4 x5 hx))
theorem F_DX10_feed  (a1 : Int) (a2 : Int) (a3 : Int) (a4 : Int) (a5 : Int) (h : qH)  : Fp (fun (i k : Nat) => (i = 212 ∧ k = 0) ∨ (i = 212 ∧ k = 5) ∨ i = 215) h (DX10_feed a1 a2 a3 a4 a5 h) := by
  unfold DX10_feed
  refine Fp_qu (by first | omega | (simp only []; omega)) (fun h3 => ?_)
  refine Fp_ite (fun gc => ?_) (fun gc => ?_)
  · exact (F_DX10_feed_l24 LF a1 a2 a3 a4 a5 0 h3)
  · exact Fp_some
theorem F_DX10_fits_l125   : ∀ (n : Nat) (a1 : Int) (a5 : Int) (a6 : Int) (h : qH), Fp (fun (i k : Nat) => (i = 212 ∧ k = 18) ∨ (217 ≤ i ∧ i ≤ 218)) h (DX10_fits_l125  n a1 a5 a6 h) := by
  intro n
  induction n with
  | zero =>
    intro a1 a5 a6 h
    exact Fp_none
  | succ n ih =>
    intro a1 a5 a6 h
    rw [DX10_fits_l125.eq_2]
    refine Fp_ite (fun gc => ?_) (fun gc => ?_)
    · refine Fp_ite (fun gc => ?_) (fun gc => ?_)
      · exact Fp_some
      · refine Fp_ite (fun gc => ?_) (fun gc => ?_)
        · refine Fp_ite (fun gc => ?_) (fun gc => ?_)
          · exact (ih a1 a5 (qw (a6 + 2)) h)
          · exact Fp_some
        · exact Fp_none
    · exact Fp_none
theorem F_DX10_fits_l34 (k26 : Int → Int → Int → qH → Option (Int × qH)) (k26_h : ∀ (x0 : Int) (x1 : Int) (x2 : Int) (hx : qH), Fp (fun (i k : Nat) => (i = 212 ∧ k = 18) ∨ (217 ≤ i ∧ i ≤ 218)) hx (k26 x0 x1 x2 hx)) : ∀ (n : Nat) (a1 : Int) (a5 : Int) (a6 : Int) (a7 : Int) (h : qH), Fp (fun (i k : Nat) => (i = 212 ∧ k = 18) ∨ (217 ≤ i ∧ i ≤ 218)) h (DX10_fits_l34 k26 n a1 a5 a6 a7 h) := by
  intro n
  induction n with
  | zero =>
    intro a1 a5 a6 a7 h
    exact Fp_none
  | succ n ih =>
    intro a1 a5 a6 a7 h
    rw [DX10_fits_l34.eq_2]
    refine Fp_ite (fun gc => ?_) (fun gc => ?_)
    · refine Fp_ite (fun gc => ?_) (fun gc => ?_)
      · refine Fp_ite (fun gc => ?_) (fun gc => ?_)
        · exact (k26_h a1 a5 (qw (a6 + (-1))) h)
        · refine Fp_bd (F_DX10_goesTide (qw (h.1 213 349 - a6)) 0 h) (fun r9 h10 => ?_)
          exact (k26_h a1 a5 (qw (a6 + (-1))) h10)
      · refine Fp_ite (fun gc => ?_) (fun gc => ?_)
        · refine Fp_ite (fun gc => ?_) (fun gc => ?_)
          · exact (ih a1 a5 a6 (qw (a7 + 2)) h)
          · refine Fp_ite (fun gc => ?_) (fun gc => ?_)
            · refine Fp_bd ((F_DX10_here h).mono (fun i k g => g.elim)) (fun r16 h17 => ?_)
              refine Fp_ite (fun gc => ?_) (fun gc => ?_)
              · exact (ih a1 a5 a6 (qw (a7 + 2)) h17)
              · exact Fp_some
            · exact Fp_none
        · exact Fp_none
    · exact Fp_none
theorem F_DX10_fits_l26   : ∀ (n : Nat) (a1 : Int) (a5 : Int) (a6 : Int) (h : qH), Fp (fun (i k : Nat) => (i = 212 ∧ k = 18) ∨ (217 ≤ i ∧ i ≤ 218)) h (DX10_fits_l26  n a1 a5 a6 h) := by
  intro n
  induction n with
  | zero =>
    intro a1 a5 a6 h
    exact Fp_none
  | succ n ih =>
    intro a1 a5 a6 h
    rw [DX10_fits_l26.eq_2]
    refine Fp_ite (fun gc => ?_) (fun gc => ?_)
    · exact (F_DX10_fits_l125 LF a1 a5 1 h)
    · exact (F_DX10_fits_l34 (DX10_fits_l26 n) (fun x0 x1 x2 hx => ih x0 x1 x2 hx) LF a1 a5 a6 0 h)
theorem F_DX10_fits_b14  (a1 : Int) (a2 : Int) (a5 : Int) (b0 : Int) (b1 : Int) (b2 : Int) (h : qH)  : Fp (fun (i k : Nat) => (i = 212 ∧ k = 18) ∨ (217 ≤ i ∧ i ≤ 218)) h (DX10_fits_b14 a1 a2 a5 b0 b1 b2 h) := by
  unfold DX10_fits_b14
  refine Fp_bd ((F_DX10_throwsTo a2 h).mono (fun i k g => g.elim)) (fun r19 h20 => ?_)
  refine Fp_bd ((F_DX10_isThrown b2 b1 b0 r19 h20).mono (fun i k g => by omega)) (fun r22 h23 => ?_)
  exact (F_DX10_fits_l26 LF a1 a5 a5 h23)
theorem F_DX10_fits  (a1 : Int) (a2 : Int) (a3 : Int) (a4 : Int) (a5 : Int) (h : qH)  : Fp (fun (i k : Nat) => (i = 212 ∧ k = 18) ∨ (217 ≤ i ∧ i ≤ 218)) h (DX10_fits a1 a2 a3 a4 a5 h) := by
  unfold DX10_fits
  refine Fp_ite (fun gc => ?_) (fun gc => ?_)
  · exact (F_DX10_fits_b14 a1 a2 a5 0 a3 a2 h)
  · exact (F_DX10_fits_b14 a1 a2 a5 1 a3 a2 h)
theorem F_DX10_goesIn_b11  (h : qH)  : Fp (fun (i k : Nat) => (i = 212 ∧ 6 ≤ k ∧ k ≤ 7) ∨ (i = 212 ∧ 9 ≤ k ∧ k ≤ 12)) h (DX10_goesIn_b11 h) := by
  unfold DX10_goesIn_b11
  refine Fp_ite (fun gc => ?_) (fun gc => ?_)
  · refine Fp_ite (fun gc => ?_) (fun gc => ?_)
    · exact Fp_some
    · exact Fp_some
  · refine Fp_bd ((F_DX10_next h).mono (fun i k g => by rcases g with g | g <;> omega)) (fun r1 h2 => ?_)
    refine Fp_ite (fun gc => ?_) (fun gc => ?_)
    · exact Fp_some
    · exact Fp_some
