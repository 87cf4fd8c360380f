/-! ===== frames, printed by wip/whole/gen/gen_frames.py ===== -/
theorem F_DX10_goesIn  (a1 : Int) (h : qH)  : Fp (fun (i k : Nat) => (i = 212 ∧ 6 ≤ k ∧ k ≤ 7) ∨ (i = 212 ∧ 9 ≤ k ∧ k ≤ 12)) h (DX10_goesIn a1 h) := by
  unfold DX10_goesIn
  refine Fp_ite (fun gc => ?_) (fun gc => ?_)
  · exact (F_DX10_goesIn_b11 h)
  · refine Fp_bd ((F_DX10_fails 4 h).mono (fun i k g => by omega)) (fun r4 h5 => ?_)
    exact (F_DX10_goesIn_b11 h5)
theorem F_DX10_goesRelay_l81 (f_X10_goesRelay : Int → Int → Int → Int → qH → Option (Int × qH)) (f_X10_goesRelay_h : ∀ (x0 : Int) (x1 : Int) (x2 : Int) (x3 : Int) (hx : qH), Fp (fun (i k : Nat) => (i = 212 ∧ k = 18) ∨ (i = 212 ∧ 23 ≤ k ∧ k ≤ 25) ∨ (i = 212 ∧ 28 ≤ k ∧ k ≤ 29) ∨ (217 ≤ i ∧ i ≤ 218) ∨ (220 ≤ i ∧ i ≤ 221)) hx (f_X10_goesRelay x0 x1 x2 x3 hx)) : ∀ (n : Nat) (a1 : Int) (a2 : Int) (a3 : Int) (a4 : Int) (a5 : Int) (h : qH), Fp (fun (i k : Nat) => (i = 212 ∧ k = 18) ∨ (i = 212 ∧ 23 ≤ k ∧ k ≤ 25) ∨ (i = 212 ∧ 28 ≤ k ∧ k ≤ 29) ∨ (217 ≤ i ∧ i ≤ 218) ∨ (220 ≤ i ∧ i ≤ 221)) h (DX10_goesRelay_l81 f_X10_goesRelay n a1 a2 a3 a4 a5 h) := by
  intro n
  induction n with
  | zero =>
    intro a1 a2 a3 a4 a5 h
    exact Fp_none
  | succ n ih =>
    intro a1 a2 a3 a4 a5 h
    rw [DX10_goesRelay_l81.eq_2]
    refine Fp_ite (fun gc => ?_) (fun gc => ?_)
    · exact Fp_some
    · refine Fp_bd ((F_DX10_isIn a3 a5 h).mono (fun i k g => g.elim)) (fun r3 h4 => ?_)
      refine Fp_ite (fun gc => ?_) (fun gc => ?_)
      · refine Fp_ite (fun gc => ?_) (fun gc => ?_)
        · refine Fp_bd ((F_DX10_bestFrom (h4.1 220 a2.toNat) a5 (qw (h4.1 213 349 + a4)) h4).mono (fun i k g => by rcases g with g | g | g <;> omega)) (fun r10 h11 => ?_)
          refine Fp_ite (fun gc => ?_) (fun gc => ?_)
          · refine Fp_ite (fun gc => ?_) (fun gc => ?_)
            · refine Fp_qu (by first | omega | (simp only []; omega)) (fun h13 => ?_)
              refine Fp_bd (f_X10_goesRelay_h a1 (qw (a2 + 1)) (qor a3 (qshl 1 a5)) (qw (a4 + r10)) h13) (fun r14 h15 => ?_)
              exact (ih a1 a2 a3 a4 (qw (a5 + 1)) h15)
            · exact Fp_none
          · exact (ih a1 a2 a3 a4 (qw (a5 + 1)) h11)
        · exact Fp_none
      · exact (ih a1 a2 a3 a4 (qw (a5 + 1)) h4)
theorem F_DX10_goesRelay_l51 (f_X10_goesRelay : Int → Int → Int → Int → qH → Option (Int × qH)) (f_X10_goesRelay_h : ∀ (x0 : Int) (x1 : Int) (x2 : Int) (x3 : Int) (hx : qH), Fp (fun (i k : Nat) => (i = 212 ∧ k = 18) ∨ (i = 212 ∧ 23 ≤ k ∧ k ≤ 25) ∨ (i = 212 ∧ 28 ≤ k ∧ k ≤ 29) ∨ (217 ≤ i ∧ i ≤ 218) ∨ (220 ≤ i ∧ i ≤ 221)) hx (f_X10_goesRelay x0 x1 x2 x3 hx)) : ∀ (n : Nat) (a2 : Int) (a5 : Int) (h : qH), Fp (fun (i k : Nat) => (i = 212 ∧ k = 18) ∨ (i = 212 ∧ 23 ≤ k ∧ k ≤ 25) ∨ (i = 212 ∧ 28 ≤ k ∧ k ≤ 29) ∨ (217 ≤ i ∧ i ≤ 218) ∨ (220 ≤ i ∧ i ≤ 221)) h (DX10_goesRelay_l51 f_X10_goesRelay n a2 a5 h) := by
  intro n
  induction n with
  | zero =>
    intro a2 a5 h
    exact Fp_none
  | succ n ih =>
    intro a2 a5 h
    rw [DX10_goesRelay_l51.eq_2]
    refine Fp_ite (fun gc => ?_) (fun gc => ?_)
    · exact Fp_some
    · refine Fp_ite (fun gc => ?_) (fun gc => ?_)
      · refine Fp_ite (fun gc => ?_) (fun gc => ?_)
        · refine Fp_qu (by first | omega | (simp only []; omega)) (fun h19 => ?_)
          exact (ih a2 (qw (a5 + 1)) h19)
        · exact Fp_none
      · exact Fp_none
theorem F_DX10_goesRelay (f_X10_goesRelay : Int → Int → Int → Int → qH → Option (Int × qH)) (a1 : Int) (a2 : Int) (a3 : Int) (a4 : Int) (h : qH) (f_X10_goesRelay_h : ∀ (x0 : Int) (x1 : Int) (x2 : Int) (x3 : Int) (hx : qH), Fp (fun (i k : Nat) => (i = 212 ∧ k = 18) ∨ (i = 212 ∧ 23 ≤ k ∧ k ≤ 25) ∨ (i = 212 ∧ 28 ≤ k ∧ k ≤ 29) ∨ (217 ≤ i ∧ i ≤ 218) ∨ (220 ≤ i ∧ i ≤ 221)) hx (f_X10_goesRelay x0 x1 x2 x3 hx)) : Fp (fun (i k : Nat) => (i = 212 ∧ k = 18) ∨ (i = 212 ∧ 23 ≤ k ∧ k ≤ 25) ∨ (i = 212 ∧ 28 ≤ k ∧ k ≤ 29) ∨ (217 ≤ i ∧ i ≤ 218) ∨ (220 ≤ i ∧ i ≤ 221)) h (DX10_goesRelay f_X10_goesRelay a1 a2 a3 a4 h) := by
  unfold DX10_goesRelay
  refine Fp_ite (fun gc => ?_) (fun gc => ?_)
  · refine Fp_ite (fun gc => ?_) (fun gc => ?_)
    · exact (F_DX10_goesRelay_l81 f_X10_goesRelay f_X10_goesRelay_h LF a1 a2 a3 a4 0 h)
    · refine Fp_ite (fun gc => ?_) (fun gc => ?_)
      · exact Fp_some
      · refine Fp_ite (fun gc => ?_) (fun gc => ?_)
        · refine Fp_qu (by first | omega | (simp only []; omega)) (fun h22 => ?_)
          refine Fp_qu (by first | omega | (simp only []; omega)) (fun h23 => ?_)
          exact (F_DX10_goesRelay_l51 f_X10_goesRelay f_X10_goesRelay_h LF a2 0 h23)
        · refine Fp_ite (fun gc => ?_) (fun gc => ?_)
          · refine Fp_qu (by first | omega | (simp only []; omega)) (fun h24 => ?_)
            refine Fp_qu (by first | omega | (simp only []; omega)) (fun h25 => ?_)
            exact (F_DX10_goesRelay_l51 f_X10_goesRelay f_X10_goesRelay_h LF a2 0 h25)
          · exact Fp_some
  · exact Fp_none
theorem F_RX10_goesRelayg : ∀ (n : Nat) (k : Nat) (x0 : Int) (x1 : Int) (x2 : Int) (x3 : Int) (h : qH), Fp (fun (i k : Nat) => (i = 212 ∧ k = 18) ∨ (i = 212 ∧ 23 ≤ k ∧ k ≤ 25) ∨ (i = 212 ∧ 28 ≤ k ∧ k ≤ 29) ∨ (217 ≤ i ∧ i ≤ 218) ∨ (220 ≤ i ∧ i ≤ 221)) h (RX10_goesRelayg n k x0 x1 x2 x3 h) := by
  intro n
  induction n with
  | zero =>
    intro k x0 x1 x2 x3 h
    exact Fp_none
  | succ n ih =>
    intro k x0 x1 x2 x3 h
    rw [RX10_goesRelayg.eq_2]
    exact F_DX10_goesRelay (fun a b c e h => RX10_goesRelayg n 0 a b c e h) x0 x1 x2 x3 h (fun a b c e h => ih 0 a b c e h)
theorem F_RX10_goesRelay (a1 : Int) (a2 : Int) (a3 : Int) (a4 : Int) (h : qH) : Fp (fun (i k : Nat) => (i = 212 ∧ k = 18) ∨ (i = 212 ∧ 23 ≤ k ∧ k ≤ 25) ∨ (i = 212 ∧ 28 ≤ k ∧ k ≤ 29) ∨ (217 ≤ i ∧ i ≤ 218) ∨ (220 ≤ i ∧ i ≤ 221)) h (RX10_goesRelay a1 a2 a3 a4 h) := by
  unfold RX10_goesRelay
  exact F_RX10_goesRelayg 100 0 a1 a2 a3 a4 h
theorem F_DX10_image_l20   : ∀ (n : Nat) (a1 : Int) (a2 : Int) (h : qH), Fp (fun (i k : Nat) => (i = 212 ∧ k = 0) ∨ (213 ≤ i ∧ i ≤ 214)) h (DX10_image_l20  n a1 a2 h) := by
  intro n
  induction n with
  | zero =>
    intro a1 a2 h
    exact Fp_none
  | succ n ih =>
    intro a1 a2 h
    rw [DX10_image_l20.eq_2]
    refine Fp_ite (fun gc => ?_) (fun gc => ?_)
    · refine Fp_ite (fun gc => ?_) (fun gc => ?_)
      · refine Fp_qu (by first | omega | (simp only []; omega)) (fun h1 => ?_)
        exact Fp_some
      · exact Fp_none
    · refine Fp_ite (fun gc => ?_) (fun gc => ?_)
      · refine Fp_ite (fun gc => ?_) (fun gc => ?_)
        · refine Fp_qu (by first | omega | (simp only []; omega)) (fun h4 => ?_)
          exact (ih a1 (qw (a2 + 1)) h4)
        · exact Fp_none
      · exact Fp_none
theorem F_DX10_image  (a1 : Int) (h : qH)  : Fp (fun (i k : Nat) => (i = 212 ∧ k = 0) ∨ (213 ≤ i ∧ i ≤ 214)) h (DX10_image a1 h) := by
  unfold DX10_image
  refine Fp_qu (by first | omega | (simp only []; omega)) (fun h5 => ?_)
  refine Fp_bd ((F_DX10_within a1 0 1 h5).mono (fun i k g => g.elim)) (fun r6 h7 => ?_)
  refine Fp_ite (fun gc => ?_) (fun gc => ?_)
  · exact (F_DX10_image_l20 LF a1 0 h7)
  · exact Fp_some
theorem F_DX10_isAgain_l2   : ∀ (n : Nat) (a1 : Int) (h : qH), Fp (fun (i k : Nat) => i = 213) h (DX10_isAgain_l2  n a1 h) := by
  intro n
  induction n with
  | zero =>
    intro a1 h
    exact Fp_none
  | succ n ih =>
    intro a1 h
    rw [DX10_isAgain_l2.eq_2]
    refine Fp_ite (fun gc => ?_) (fun gc => ?_)
    · exact Fp_some
    · refine Fp_ite (fun gc => ?_) (fun gc => ?_)
      · refine Fp_ite (fun gc => ?_) (fun gc => ?_)
        · refine Fp_qu (by first | omega | (simp only []; omega)) (fun h3 => ?_)
          exact (ih (qw (a1 + 1)) h3)
        · exact Fp_none
      · exact Fp_none
theorem F_DX10_isAgain  (h : qH)  : Fp (fun (i k : Nat) => i = 213) h (DX10_isAgain h) := by
  unfold DX10_isAgain
  exact (F_DX10_isAgain_l2 LF 0 h)
theorem F_DX10_isFit_b30  (a1 : Int) (h : qH)  : Fp (fun (i k : Nat) => (i = 212 ∧ 30 ≤ k ∧ k ≤ 35)) h (DX10_isFit_b30 a1 h) := by
  unfold DX10_isFit_b30
  refine Fp_qu (by first | omega | (simp only []; omega)) (fun h1 => ?_)
  refine Fp_qu (by first | omega | (simp only []; omega)) (fun h2 => ?_)
  exact Fp_some
theorem F_DX10_isFit  (a1 : Int) (a2 : Int) (a3 : Int) (a4 : Int) (a5 : Int) (h : qH)  : Fp (fun (i k : Nat) => (i = 212 ∧ 30 ≤ k ∧ k ≤ 35)) h (DX10_isFit a1 a2 a3 a4 a5 h) := by
  unfold DX10_isFit
  refine Fp_ite (fun gc => ?_) (fun gc => ?_)
  · exact (F_DX10_isFit_b30 a1 h)
  · refine Fp_qu (by first | omega | (simp only []; omega)) (fun h3 => ?_)
    refine Fp_qu (by first | omega | (simp only []; omega)) (fun h4 => ?_)
    refine Fp_qu (by first | omega | (simp only []; omega)) (fun h5 => ?_)
    refine Fp_qu (by first | omega | (simp only []; omega)) (fun h6 => ?_)
    exact (F_DX10_isFit_b30 a1 h6)
theorem F_DX10_keepsAll_l2   : ∀ (n : Nat) (a1 : Int) (h : qH), Fp (fun (i k : Nat) => i = 219) h (DX10_keepsAll_l2  n a1 h) := by
  intro n
  induction n with
  | zero =>
    intro a1 h
    exact Fp_none
  | succ n ih =>
    intro a1 h
    rw [DX10_keepsAll_l2.eq_2]
    refine Fp_ite (fun gc => ?_) (fun gc => ?_)
    · exact Fp_some
    · refine Fp_ite (fun gc => ?_) (fun gc => ?_)
      · refine Fp_ite (fun gc => ?_) (fun gc => ?_)
        · refine Fp_qu (by first | omega | (simp only []; omega)) (fun h3 => ?_)
          exact (ih (qw (a1 + 1)) h3)
        · exact Fp_none
      · exact Fp_none
theorem F_DX10_keepsAll  (h : qH)  : Fp (fun (i k : Nat) => i = 219) h (DX10_keepsAll h) := by
  unfold DX10_keepsAll
  exact (F_DX10_keepsAll_l2 LF 0 h)
theorem F_DX10_noTray  (a1 : Int) (h : qH)  : Fp (fun _ _ => False) h (DX10_noTray a1 h) := by
  unfold DX10_noTray
  refine Fp_bd ((F_DX10_within a1 0 3 h).mono (fun i k g => g.elim)) (fun r1 h2 => ?_)
  refine Fp_ite (fun gc => ?_) (fun gc => ?_)
  · refine Fp_ite (fun gc => ?_) (fun gc => ?_)
    · refine Fp_ite (fun gc => ?_) (fun gc => ?_)
      · exact Fp_some
      · exact Fp_some
    · exact Fp_none
  · exact Fp_some
theorem F_DX10_whyLift  (a1 : Int) (h : qH)  : Fp (fun _ _ => False) h (DX10_whyLift a1 h) := by
  unfold DX10_whyLift
  refine Fp_bd ((F_DX10_isBottle a1 h).mono (fun i k g => g.elim)) (fun r1 h2 => ?_)
  refine Fp_ite (fun gc => ?_) (fun gc => ?_)
  · refine Fp_ite (fun gc => ?_) (fun gc => ?_)
    · refine Fp_ite (fun gc => ?_) (fun gc => ?_)
      · exact Fp_some
      · exact Fp_some
    · exact Fp_none
  · exact Fp_some
theorem F_DX10_whyThrow_b24  (a1 : Int) (a3 : Int) (h : qH)  : Fp (fun _ _ => False) h (DX10_whyThrow_b24 a1 a3 h) := by
  unfold DX10_whyThrow_b24
  refine Fp_ite (fun gc => ?_) (fun gc => ?_)
  · refine Fp_bd ((F_DX10_throwsTo (qw a1) h).mono (fun i k g => g.elim)) (fun r1 h2 => ?_)
    refine Fp_ite (fun gc => ?_) (fun gc => ?_)
    · refine Fp_ite (fun gc => ?_) (fun gc => ?_)
      · exact Fp_some
      · exact Fp_some
    · exact Fp_some
  · exact Fp_some
theorem F_DX10_whyThrow  (a1 : Int) (a3 : Int) (h : qH)  : Fp (fun _ _ => False) h (DX10_whyThrow a1 a3 h) := by
  unfold DX10_whyThrow
  refine Fp_bd ((F_DX10_isShore a1 h).mono (fun i k g => g.elim)) (fun r6 h7 => ?_)
  refine Fp_ite (fun gc => ?_) (fun gc => ?_)
  · exact Fp_some
  · refine Fp_ite (fun gc => ?_) (fun gc => ?_)
    · exact (F_DX10_whyThrow_b24 a1 a3 h7)
    · refine Fp_bd ((F_DX10_isShore a3 h7).mono (fun i k g => g.elim)) (fun r9 h10 => ?_)
      refine Fp_ite (fun gc => ?_) (fun gc => ?_)
      · exact Fp_some
      · exact (F_DX10_whyThrow_b24 a1 a3 h10)
theorem F_DX10_whyNot  (a1 : Int) (h : qH)  : Fp (fun _ _ => False) h (DX10_whyNot a1 h) := by
  unfold DX10_whyNot
  refine Fp_ite (fun gc => ?_) (fun gc => ?_)
  · refine Fp_bd ((F_DX10_within a1 1000 1099 h).mono (fun i k g => g.elim)) (fun r1 h2 => ?_)
    refine Fp_ite (fun gc => ?_) (fun gc => ?_)
    · refine Fp_bd ((F_DX10_within a1 0 599 h2).mono (fun i k g => g.elim)) (fun r4 h5 => ?_)
      refine Fp_ite (fun gc => ?_) (fun gc => ?_)
      · exact Fp_some
      · refine Fp_ite (fun gc => ?_) (fun gc => ?_)
        · refine Fp_let (fun v7 => ?_)
          refine Fp_ite (fun gc => ?_) (fun gc => ?_)
          · refine Fp_bd ((F_DX10_isShore v7 h5).mono (fun i k g => g.elim)) (fun r8 h9 => ?_)
            refine Fp_ite (fun gc => ?_) (fun gc => ?_)
            · exact Fp_some
            · refine Fp_bd ((F_DX10_whyThrow (qdivl a1 100) v7 h9).mono (fun i k g => g.elim)) (fun r11 h12 => ?_)
              exact Fp_some
          · refine Fp_bd ((F_DX10_whyThrow (qdivl a1 100) (-1) h5).mono (fun i k g => g.elim)) (fun r14 h15 => ?_)
            exact Fp_some
        · exact Fp_some
    · refine Fp_bd ((F_DX10_whyLift (qwl (a1 - 1000)) h2).mono (fun i k g => g.elim)) (fun r17 h18 => ?_)
      exact Fp_some
  · exact Fp_some
theorem F_DX10_tells_l7   : ∀ (n : Nat) (a1 : Int) (a2 : Int) (h : qH), Fp (fun (i k : Nat) => (i = 212 ∧ k = 18) ∨ (i = 212 ∧ k = 21) ∨ i = 213 ∨ (217 ≤ i ∧ i ≤ 218)) h (DX10_tells_l7  n a1 a2 h) := by
  intro n
  induction n with
  | zero =>
    intro a1 a2 h
    exact Fp_none
  | succ n ih =>
    intro a1 a2 h
    rw [DX10_tells_l7.eq_2]
    refine Fp_ite (fun gc => ?_) (fun gc => ?_)
    · refine Fp_ite (fun gc => ?_) (fun gc => ?_)
      · refine Fp_ite (fun gc => ?_) (fun gc => ?_)
        · exact Fp_some
        · exact Fp_none
      · refine Fp_ite (fun gc => ?_) (fun gc => ?_)
        · refine Fp_bd ((F_DX10_whyNot (h.1 224 (qw (qw (40 * a1) + a2)).toNat) h).mono (fun i k g => g.elim)) (fun r7 h8 => ?_)
          refine Fp_qu (by first | omega | (simp only []; omega)) (fun h10 => ?_)
          refine Fp_ite (fun gc => ?_) (fun gc => ?_)
          · refine Fp_ite (fun gc => ?_) (fun gc => ?_)
            · refine Fp_bd ((F_DX10_does (qw (h10.1 224 (qw (qw (40 * a1) + a2)).toNat)) h10).mono (fun i k g => by rcases g with g | g | g <;> omega)) (fun r13 h14 => ?_)
              exact (ih a1 (qw (a2 + 1)) h14)
            · exact Fp_none
          · exact Fp_some
        · exact Fp_none
    · exact Fp_none
theorem F_DX10_tells  (a1 : Int) (h : qH)  : Fp (fun (i k : Nat) => (i = 212 ∧ k = 18) ∨ (i = 212 ∧ k = 21) ∨ i = 213 ∨ (217 ≤ i ∧ i ≤ 218)) h (DX10_tells a1 h) := by
  unfold DX10_tells
  refine Fp_qu (by first | omega | (simp only []; omega)) (fun h16 => ?_)
  exact (F_DX10_tells_l7 LF a1 0 h16)
theorem F_DX10_judge  (a1 : Int) (a2 : Int) (h : qH)  : Fp (fun (i k : Nat) => (i = 212 ∧ k = 0) ∨ (i = 212 ∧ k = 18) ∨ (i = 212 ∧ k = 21) ∨ i = 213 ∨ (217 ≤ i ∧ i ≤ 219)) h (DX10_judge a1 a2 h) := by
  unfold DX10_judge
  refine Fp_qu (by first | omega | (simp only []; omega)) (fun h1 => ?_)
  refine Fp_bd ((F_DX10_within a2 0 3 h1).mono (fun i k g => g.elim)) (fun r2 h3 => ?_)
  refine Fp_ite (fun gc => ?_) (fun gc => ?_)
  · refine Fp_bd ((F_DX10_noTray a1 h3).mono (fun i k g => g.elim)) (fun r5 h6 => ?_)
    refine Fp_ite (fun gc => ?_) (fun gc => ?_)
    · refine Fp_bd ((F_DX10_keepsAll h6).mono (fun i k g => by omega)) (fun r8 h9 => ?_)
      refine Fp_bd ((F_DX10_tells a1 h9).mono (fun i k g => by rcases g with g | g | g | g <;> omega)) (fun r11 h12 => ?_)
      refine Fp_let (fun v16 => ?_)
      refine Fp_bd ((F_DX10_manyOf 2 h12).mono (fun i k g => g.elim)) (fun r17 h18 => ?_)
      refine Fp_bd ((F_DX10_isAgain h18).mono (fun i k g => by omega)) (fun r20 h21 => ?_)
      refine Fp_ite (fun gc => ?_) (fun gc => ?_)
      · refine Fp_ite (fun gc => ?_) (fun gc => ?_)
        · refine Fp_ite (fun gc => ?_) (fun gc => ?_)
          · exact Fp_some
          · exact Fp_some
        · exact Fp_some
      · refine Fp_ite (fun gc => ?_) (fun gc => ?_)
        · exact Fp_some
        · exact Fp_some
    · exact Fp_some
  · exact Fp_some
theorem F_DX10_keeper  (a1 : Int) (a2 : Int) (a3 : Int) (a4 : Int) (h : qH)  : Fp (fun (i k : Nat) => (i = 212 ∧ k = 0) ∨ (i = 212 ∧ k = 18) ∨ (i = 212 ∧ k = 23) ∨ (217 ≤ i ∧ i ≤ 218)) h (DX10_keeper a1 a2 a3 a4 h) := by
  unfold DX10_keeper
  refine Fp_qu (by first | omega | (simp only []; omega)) (fun h1 => ?_)
  refine Fp_bd ((F_DX10_noThrow a1 a2 h1).mono (fun i k g => g.elim)) (fun r2 h3 => ?_)
  refine Fp_ite (fun gc => ?_) (fun gc => ?_)
  · refine Fp_bd ((F_DX10_within a4 0 30 h3).mono (fun i k g => g.elim)) (fun r5 h6 => ?_)
    refine Fp_ite (fun gc => ?_) (fun gc => ?_)
    · refine Fp_bd ((F_DX10_throwsTo a1 h6).mono (fun i k g => g.elim)) (fun r8 h9 => ?_)
      refine Fp_ite (fun gc => ?_) (fun gc => ?_)
      · refine Fp_bd ((F_DX10_keptBy a1 a2 a3 (qw (h9.1 213 349 + a4)) h9).mono (fun i k g => by rcases g with g | g | g <;> omega)) (fun r13 h14 => ?_)
        exact Fp_some
      · exact Fp_some
    · exact Fp_some
  · exact Fp_some
theorem F_DX10_keepers_b64 (k24 : Int → Int → Int → qH → Option (Int × qH)) (a1 : Int) (a2 : Int) (a3 : Int) (b0 : Int) (h : qH) (k24_h : ∀ (x0 : Int) (x1 : Int) (x2 : Int) (hx : qH), Fp (fun (i k : Nat) => (i = 212 ∧ k = 0) ∨ (i = 212 ∧ k = 18) ∨ (i = 212 ∧ k = 23) ∨ (217 ≤ i ∧ i ≤ 218)) hx (k24 x0 x1 x2 hx)) : Fp (fun (i k : Nat) => (i = 212 ∧ k = 0) ∨ (i = 212 ∧ k = 18) ∨ (i = 212 ∧ k = 23) ∨ (217 ≤ i ∧ i ≤ 218)) h (DX10_keepers_b64 k24 a1 a2 a3 b0 h) := by
  unfold DX10_keepers_b64
  refine Fp_ite (fun gc => ?_) (fun gc => ?_)
  · exact (k24_h a1 a2 (qw (a3 + 1)) h)
  · refine Fp_let (fun v1 => ?_)
    exact (k24_h a1 v1 (qw (a3 + 1)) h)
theorem F_DX10_keepers_l24   : ∀ (n : Nat) (a1 : Int) (a2 : Int) (a3 : Int) (h : qH), Fp (fun (i k : Nat) => (i = 212 ∧ k = 0) ∨ (i = 212 ∧ k = 18) ∨ (i = 212 ∧ k = 23) ∨ (217 ≤ i ∧ i ≤ 218)) h (DX10_keepers_l24  n a1 a2 a3 h) := by
  intro n
  induction n with
  | zero =>
    intro a1 a2 a3 h
    exact Fp_none
  | succ n ih =>
    intro a1 a2 a3 h
    rw [DX10_keepers_l24.eq_2]
    refine Fp_ite (fun gc => ?_) (fun gc => ?_)
    · exact Fp_some
    · refine Fp_bd ((F_DX10_throwsTo a3 h).mono (fun i k g => g.elim)) (fun r4 h5 => ?_)
      refine Fp_ite (fun gc => ?_) (fun gc => ?_)
      · refine Fp_bd ((F_DX10_keptBy a3 (-1) 0 (qw (h5.1 213 349 + a1)) h5).mono (fun i k g => by rcases g with g | g | g <;> omega)) (fun r9 h10 => ?_)
        exact (F_DX10_keepers_b64 (DX10_keepers_l24 n) a1 a2 a3 r9 h10 (fun x0 x1 x2 hx => ih x0 x1 x2 hx))
      · exact (F_DX10_keepers_b64 (DX10_keepers_l24 n) a1 a2 a3 (-1) h5 (fun x0 x1 x2 hx => ih x0 x1 x2 hx))
theorem F_DX10_keepers  (a1 : Int) (h : qH)  : Fp (fun (i k : Nat) => (i = 212 ∧ k = 0) ∨ (i = 212 ∧ k = 18) ∨ (i = 212 ∧ k = 23) ∨ (217 ≤ i ∧ i ≤ 218)) h (DX10_keepers a1 h) := by
  unfold DX10_keepers
  refine Fp_qu (by first | omega | (simp only []; omega)) (fun h12 => ?_)
  refine Fp_bd ((F_DX10_within a1 0 30 h12).mono (fun i k g => g.elim)) (fun r13 h14 => ?_)
  refine Fp_ite (fun gc => ?_) (fun gc => ?_)
  · exact (F_DX10_keepers_l24 LF a1 0 0 h14)
  · exact Fp_some
theorem F_DX10_laysFits_l66 (k12 : Int → Int → Int → qH → Option (Int × qH)) (k37 : Int → Int → Int → Int → qH → Option (Int × qH)) (k51 : Int → Int → Int → Int → Int → qH → Option (Int × qH)) (k12_h : ∀ (x0 : Int) (x1 : Int) (x2 : Int) (hx : qH), Fp (fun (i k : Nat) => (i = 212 ∧ k = 18) ∨ (i = 212 ∧ 30 ≤ k ∧ k ≤ 35) ∨ (217 ≤ i ∧ i ≤ 218)) hx (k12 x0 x1 x2 hx)) (k37_h : ∀ (x0 : Int) (x1 : Int) (x2 : Int) (x3 : Int) (hx : qH), Fp (fun (i k : Nat) => (i = 212 ∧ k = 18) ∨ (i = 212 ∧ 30 ≤ k ∧ k ≤ 35) ∨ (217 ≤ i ∧ i ≤ 218)) hx (k37 x0 x1 x2 x3 hx)) (k51_h : ∀ (x0 : Int) (x1 : Int) (x2 : Int) (x3 : Int) (x4 : Int) (hx : qH), Fp (fun (i k : Nat) => (i = 212 ∧ k = 18) ∨ (i = 212 ∧ 30 ≤ k ∧ k ≤ 35) ∨ (217 ≤ i ∧ i ≤ 218)) hx (k51 x0 x1 x2 x3 x4 hx)) : ∀ (n : Nat) (a1 : Int) (a2 : Int) (a3 : Int) (a4 : Int) (a5 : Int) (a6 : Int) (h : qH), Fp (fun (i k : Nat) => (i = 212 ∧ k = 18) ∨ (i = 212 ∧ 30 ≤ k ∧ k ≤ 35) ∨ (217 ≤ i ∧ i ≤ 218)) h (DX10_laysFits_l66 k12 k37 k51 n a1 a2 a3 a4 a5 a6 h) := by
  intro n
  induction n with
  | zero =>
    intro a1 a2 a3 a4 a5 a6 h
    exact Fp_none
  | succ n ih =>
    intro a1 a2 a3 a4 a5 a6 h
    rw [DX10_laysFits_l66.eq_2]
    refine Fp_ite (fun gc => ?_) (fun gc => ?_)
    · exact (k51_h a1 a2 a3 a4 (qw (a5 + 1)) h)
    · refine Fp_ite (fun gc => ?_) (fun gc => ?_)
      · exact (k51_h a1 a2 a3 a4 (qw (a5 + 1)) h)
      · refine Fp_bd ((F_DX10_fits a1 a3 a4 a5 a6 h).mono (fun i k g => by rcases g with g | g <;> omega)) (fun r3 h4 => ?_)
        refine Fp_ite (fun gc => ?_) (fun gc => ?_)
        · exact (ih a1 a2 a3 a4 a5 (qw (a6 + 1)) h4)
        · refine Fp_bd ((F_DX10_isFit a3 a4 a5 a6 a2 h4).mono (fun i k g => by omega)) (fun r6 h7 => ?_)
          exact (ih a1 a2 a3 a4 a5 (qw (a6 + 1)) h7)
theorem F_DX10_laysFits_l51 (k12 : Int → Int → Int → qH → Option (Int × qH)) (k37 : Int → Int → Int → Int → qH → Option (Int × qH)) (k12_h : ∀ (x0 : Int) (x1 : Int) (x2 : Int) (hx : qH), Fp (fun (i k : Nat) => (i = 212 ∧ k = 18) ∨ (i = 212 ∧ 30 ≤ k ∧ k ≤ 35) ∨ (217 ≤ i ∧ i ≤ 218)) hx (k12 x0 x1 x2 hx)) (k37_h : ∀ (x0 : Int) (x1 : Int) (x2 : Int) (x3 : Int) (hx : qH), Fp (fun (i k : Nat) => (i = 212 ∧ k = 18) ∨ (i = 212 ∧ 30 ≤ k ∧ k ≤ 35) ∨ (217 ≤ i ∧ i ≤ 218)) hx (k37 x0 x1 x2 x3 hx)) : ∀ (n : Nat) (a1 : Int) (a2 : Int) (a3 : Int) (a4 : Int) (a5 : Int) (h : qH), Fp (fun (i k : Nat) => (i = 212 ∧ k = 18) ∨ (i = 212 ∧ 30 ≤ k ∧ k ≤ 35) ∨ (217 ≤ i ∧ i ≤ 218)) h (DX10_laysFits_l51 k12 k37 n a1 a2 a3 a4 a5 h) := by
  intro n
  induction n with
  | zero =>
    intro a1 a2 a3 a4 a5 h
    exact Fp_none
  | succ n ih =>
    intro a1 a2 a3 a4 a5 h
    rw [DX10_laysFits_l51.eq_2]
    refine Fp_ite (fun gc => ?_) (fun gc => ?_)
    · exact (k37_h a1 a2 a3 (qw (a4 + 1)) h)
    · refine Fp_ite (fun gc => ?_) (fun gc => ?_)
      · exact (k37_h a1 a2 a3 (qw (a4 + 1)) h)
      · exact (F_DX10_laysFits_l66 k12 k37 (DX10_laysFits_l51 k12 k37 n) k12_h k37_h (fun x0 x1 x2 x3 x4 hx => ih x0 x1 x2 x3 x4 hx) LF a1 a2 a3 a4 a5 0 h)
theorem F_DX10_laysFits_l37 (k12 : Int → Int → Int → qH → Option (Int × qH)) (k12_h : ∀ (x0 : Int) (x1 : Int) (x2 : Int) (hx : qH), Fp (fun (i k : Nat) => (i = 212 ∧ k = 18) ∨ (i = 212 ∧ 30 ≤ k ∧ k ≤ 35) ∨ (217 ≤ i ∧ i ≤ 218)) hx (k12 x0 x1 x2 hx)) : ∀ (n : Nat) (a1 : Int) (a2 : Int) (a3 : Int) (a4 : Int) (h : qH), Fp (fun (i k : Nat) => (i = 212 ∧ k = 18) ∨ (i = 212 ∧ 30 ≤ k ∧ k ≤ 35) ∨ (217 ≤ i ∧ i ≤ 218)) h (DX10_laysFits_l37 k12 n a1 a2 a3 a4 h) := by
  intro n
  induction n with
  | zero =>
    intro a1 a2 a3 a4 h
    exact Fp_none
  | succ n ih =>
    intro a1 a2 a3 a4 h
    rw [DX10_laysFits_l37.eq_2]
    refine Fp_ite (fun gc => ?_) (fun gc => ?_)
    · exact (k12_h a1 a2 (qw (a3 + 1)) h)
    · exact (F_DX10_laysFits_l51 k12 (DX10_laysFits_l37 k12 n) k12_h (fun x0 x1 x2 x3 hx => ih x0 x1 x2 x3 hx) LF a1 a2 a3 a4 0 h)
theorem F_DX10_laysFits_l12   : ∀ (n : Nat) (a1 : Int) (a2 : Int) (a3 : Int) (h : qH), Fp (fun (i k : Nat) => (i = 212 ∧ k = 18) ∨ (i = 212 ∧ 30 ≤ k ∧ k ≤ 35) ∨ (217 ≤ i ∧ i ≤ 218)) h (DX10_laysFits_l12  n a1 a2 a3 h) := by
  intro n
  induction n with
  | zero =>
    intro a1 a2 a3 h
    exact Fp_none
  | succ n ih =>
    intro a1 a2 a3 h
    rw [DX10_laysFits_l12.eq_2]
    refine Fp_ite (fun gc => ?_) (fun gc => ?_)
    · exact Fp_some
    · refine Fp_bd ((F_DX10_throwsTo a3 h).mono (fun i k g => g.elim)) (fun r13 h14 => ?_)
      refine Fp_ite (fun gc => ?_) (fun gc => ?_)
      · exact (F_DX10_laysFits_l37 (DX10_laysFits_l12 n) (fun x0 x1 x2 hx => ih x0 x1 x2 hx) LF a1 a2 a3 (-1) h14)
      · exact (ih a1 a2 (qw (a3 + 1)) h14)
theorem F_DX10_laysFits  (a1 : Int) (a2 : Int) (h : qH)  : Fp (fun (i k : Nat) => (i = 212 ∧ k = 18) ∨ (i = 212 ∧ 30 ≤ k ∧ k ≤ 35) ∨ (217 ≤ i ∧ i ≤ 218)) h (DX10_laysFits a1 a2 h) := by
  unfold DX10_laysFits
  refine Fp_qu (by first | omega | (simp only []; omega)) (fun h16 => ?_)
  refine Fp_qu (by first | omega | (simp only []; omega)) (fun h17 => ?_)
  exact (F_DX10_laysFits_l12 LF a1 a2 0 h17)
theorem F_DX10_notes_l62   : ∀ (n : Nat) (a1 : Int) (h : qH), Fp (fun (i k : Nat) => i = 213) h (DX10_notes_l62  n a1 h) := by
  intro n
  induction n with
  | zero =>
    intro a1 h
    exact Fp_none
  | succ n ih =>
    intro a1 h
    rw [DX10_notes_l62.eq_2]
    refine Fp_ite (fun gc => ?_) (fun gc => ?_)
    · refine Fp_qu (by first | omega | (simp only []; omega)) (fun h3 => ?_)
      exact Fp_some
    · refine Fp_ite (fun gc => ?_) (fun gc => ?_)
      · refine Fp_ite (fun gc => ?_) (fun gc => ?_)
        · refine Fp_qu (by first | omega | (simp only []; omega)) (fun h8 => ?_)
          exact (ih (qw (a1 + 1)) h8)
        · exact Fp_none
      · exact Fp_none
theorem F_DX10_notes_l15   : ∀ (n : Nat) (a1 : Int) (h : qH), Fp (fun (i k : Nat) => i = 213) h (DX10_notes_l15  n a1 h) := by
  intro n
  induction n with
  | zero =>
    intro a1 h
    exact Fp_none
  | succ n ih =>
    intro a1 h
    rw [DX10_notes_l15.eq_2]
    refine Fp_ite (fun gc => ?_) (fun gc => ?_)
    · refine Fp_qu (by first | omega | (simp only []; omega)) (fun h11 => ?_)
      exact (F_DX10_notes_l62 LF 0 h11)
    · refine Fp_ite (fun gc => ?_) (fun gc => ?_)
      · refine Fp_ite (fun gc => ?_) (fun gc => ?_)
        · refine Fp_qu (by first | omega | (simp only []; omega)) (fun h14 => ?_)
          exact (ih (qw (a1 + 1)) h14)
        · exact Fp_none
      · exact Fp_none
theorem F_DX10_notes  (h : qH)  : Fp (fun (i k : Nat) => i = 213) h (DX10_notes h) := by
  unfold DX10_notes
  refine Fp_ite (fun gc => ?_) (fun gc => ?_)
  · exact (F_DX10_notes_l62 LF 0 h)
  · exact (F_DX10_notes_l15 LF 0 h)
theorem F_DX10_lift  (a1 : Int) (h : qH)  : Fp (fun (i k : Nat) => (i = 212 ∧ k = 0) ∨ i = 213 ∨ i = 219) h (DX10_lift a1 h) := by
  unfold DX10_lift
  refine Fp_qu (by first | omega | (simp only []; omega)) (fun h1 => ?_)
  refine Fp_bd ((F_DX10_whyLift a1 h1).mono (fun i k g => g.elim)) (fun r2 h3 => ?_)
  refine Fp_ite (fun gc => ?_) (fun gc => ?_)
  · refine Fp_bd ((F_DX10_keepsAll h3).mono (fun i k g => by omega)) (fun r5 h6 => ?_)
    refine Fp_ite (fun gc => ?_) (fun gc => ?_)
    · refine Fp_qu (by first | omega | (simp only []; omega)) (fun h8 => ?_)
      refine Fp_bd ((F_DX10_notes h8).mono (fun i k g => by omega)) (fun r9 h10 => ?_)
      refine Fp_ite (fun gc => ?_) (fun gc => ?_)
      · exact Fp_some
      · exact Fp_none
    · exact Fp_none
  · exact Fp_some
theorem F_DX10_lists_l49   : ∀ (n : Nat) (a1 : Int) (a4 : Int) (h : qH), Fp (fun (i k : Nat) => (i = 212 ∧ k = 0) ∨ (i = 212 ∧ k = 18) ∨ (217 ≤ i ∧ i ≤ 218) ∨ i = 224) h (DX10_lists_l49  n a1 a4 h) := by
  intro n
  induction n with
  | zero =>
    intro a1 a4 h
    exact Fp_none
  | succ n ih =>
    intro a1 a4 h
    rw [DX10_lists_l49.eq_2]
    refine Fp_ite (fun gc => ?_) (fun gc => ?_)
    · refine Fp_ite (fun gc => ?_) (fun gc => ?_)
      · refine Fp_ite (fun gc => ?_) (fun gc => ?_)
        · exact Fp_some
        · exact Fp_none
      · refine Fp_bd ((F_DX10_here h).mono (fun i k g => g.elim)) (fun r5 h6 => ?_)
        refine Fp_ite (fun gc => ?_) (fun gc => ?_)
        · refine Fp_qu (by first | omega | (simp only []; omega)) (fun h8 => ?_)
          refine Fp_bd ((F_DX10_goesTide (qw (h8.1 213 349 + a4)) 0 h8).mono (fun i k g => by rcases g with g | g <;> omega)) (fun r11 h12 => ?_)
          exact (ih a1 (qw (a4 + 1)) h12)
        · exact Fp_none
    · exact Fp_none
theorem F_DX10_lists  (a1 : Int) (a2 : Int) (h : qH)  : Fp (fun (i k : Nat) => (i = 212 ∧ k = 0) ∨ (i = 212 ∧ k = 18) ∨ (217 ≤ i ∧ i ≤ 218) ∨ i = 224) h (DX10_lists a1 a2 h) := by
  unfold DX10_lists
  refine Fp_qu (by first | omega | (simp only []; omega)) (fun h14 => ?_)
  refine Fp_bd ((F_DX10_within a1 0 3 h14).mono (fun i k g => g.elim)) (fun r15 h16 => ?_)
  refine Fp_ite (fun gc => ?_) (fun gc => ?_)
  · exact Fp_some
  · refine Fp_bd ((F_DX10_isBottle a2 h16).mono (fun i k g => g.elim)) (fun r18 h19 => ?_)
    refine Fp_ite (fun gc => ?_) (fun gc => ?_)
    · refine Fp_bd ((F_DX10_noTray a1 h19).mono (fun i k g => g.elim)) (fun r21 h22 => ?_)
      refine Fp_ite (fun gc => ?_) (fun gc => ?_)
      · refine Fp_bd ((F_DX10_loads a2 h22).mono (fun i k g => by omega)) (fun r24 h25 => ?_)
        exact (F_DX10_lists_l49 LF a1 0 h25)
      · exact Fp_some
    · exact Fp_some
theorem F_DX10_net_b73 (k41 : Int → Int → Int → Int → Int → qH → Option (Int × qH)) (a1 : Int) (a2 : Int) (a3 : Int) (a4 : Int) (a5 : Int) (b0 : Int) (h : qH) (k41_h : ∀ (x0 : Int) (x1 : Int) (x2 : Int) (x3 : Int) (x4 : Int) (hx : qH), Fp (fun (i k : Nat) => (i = 212 ∧ k = 0) ∨ (i = 212 ∧ k = 18) ∨ (217 ≤ i ∧ i ≤ 218)) hx (k41 x0 x1 x2 x3 x4 hx)) : Fp (fun (i k : Nat) => (i = 212 ∧ k = 0) ∨ (i = 212 ∧ k = 18) ∨ (217 ≤ i ∧ i ≤ 218)) h (DX10_net_b73 k41 a1 a2 a3 a4 a5 b0 h) := by
  unfold DX10_net_b73
  refine Fp_ite (fun gc => ?_) (fun gc => ?_)
  · exact (k41_h a1 a2 a5 b0 (qw (a5 + 1)) h)
  · exact (k41_h a1 a2 a3 a4 (qw (a5 + 1)) h)
theorem F_DX10_net_l41   : ∀ (n : Nat) (a1 : Int) (a2 : Int) (a3 : Int) (a4 : Int) (a5 : Int) (h : qH), Fp (fun (i k : Nat) => (i = 212 ∧ k = 0) ∨ (i = 212 ∧ k = 18) ∨ (217 ≤ i ∧ i ≤ 218)) h (DX10_net_l41  n a1 a2 a3 a4 a5 h) := by
  intro n
  induction n with
  | zero =>
    intro a1 a2 a3 a4 a5 h
    exact Fp_none
  | succ n ih =>
    intro a1 a2 a3 a4 a5 h
    rw [DX10_net_l41.eq_2]
    refine Fp_bd ((F_DX10_cells h).mono (fun i k g => g.elim)) (fun r1 h2 => ?_)
    refine Fp_ite (fun gc => ?_) (fun gc => ?_)
    · refine Fp_ite (fun gc => ?_) (fun gc => ?_)
      · exact Fp_some
      · exact Fp_some
    · refine Fp_bd ((F_DX10_isOpen a5 h2).mono (fun i k g => g.elim)) (fun r4 h5 => ?_)
      refine Fp_ite (fun gc => ?_) (fun gc => ?_)
      · exact (F_DX10_net_b73 (DX10_net_l41 n) a1 a2 a3 a4 a5 (-1) h5 (fun x0 x1 x2 x3 x4 hx => ih x0 x1 x2 x3 x4 hx))
      · refine Fp_bd ((F_DX10_catchOf a5 a1 h5).mono (fun i k g => by rcases g with g | g <;> omega)) (fun r7 h8 => ?_)
        refine Fp_bd ((F_DX10_bitsOf r7 h8).mono (fun i k g => g.elim)) (fun r10 h11 => ?_)
        exact (F_DX10_net_b73 (DX10_net_l41 n) a1 a2 a3 a4 a5 r10 h11 (fun x0 x1 x2 x3 x4 hx => ih x0 x1 x2 x3 x4 hx))
theorem F_DX10_net  (a1 : Int) (a2 : Int) (h : qH)  : Fp (fun (i k : Nat) => (i = 212 ∧ k = 0) ∨ (i = 212 ∧ k = 18) ∨ (217 ≤ i ∧ i ≤ 218)) h (DX10_net a1 a2 h) := by
  unfold DX10_net
  refine Fp_qu (by first | omega | (simp only []; omega)) (fun h13 => ?_)
  refine Fp_bd ((F_DX10_within a2 0 1 h13).mono (fun i k g => g.elim)) (fun r14 h15 => ?_)
  refine Fp_ite (fun gc => ?_) (fun gc => ?_)
  · refine Fp_bd ((F_DX10_within a1 1 60 h15).mono (fun i k g => g.elim)) (fun r17 h18 => ?_)
    refine Fp_ite (fun gc => ?_) (fun gc => ?_)
    · exact (F_DX10_net_l41 LF a1 a2 (-1) (-1) 0 h18)
    · exact Fp_some
  · exact Fp_some
theorem F_DX10_noSeen_l48   : ∀ (n : Nat) (a1 : Int) (a3 : Int) (h : qH), Fp (fun _ _ => False) h (DX10_noSeen_l48  n a1 a3 h) := by
  intro n
  induction n with
  | zero =>
    intro a1 a3 h
    exact Fp_none
  | succ n ih =>
    intro a1 a3 h
    rw [DX10_noSeen_l48.eq_2]
    refine Fp_ite (fun gc => ?_) (fun gc => ?_)
    · refine Fp_ite (fun gc => ?_) (fun gc => ?_)
      · exact Fp_some
      · refine Fp_ite (fun gc => ?_) (fun gc => ?_)
        · refine Fp_ite (fun gc => ?_) (fun gc => ?_)
          · refine Fp_bd ((F_DX10_within (h.1 224 (qw (qw (40 * a1) + a3)).toNat) 0 30 h).mono (fun i k g => g.elim)) (fun r5 h6 => ?_)
            refine Fp_ite (fun gc => ?_) (fun gc => ?_)
            · exact (ih a1 (qw (a3 + 1)) h6)
            · exact Fp_some
          · exact Fp_none
        · refine Fp_ite (fun gc => ?_) (fun gc => ?_)
          · refine Fp_bd ((F_DX10_isCell (h.1 224 (qw (qw (40 * a1) + a3)).toNat) h).mono (fun i k g => g.elim)) (fun r10 h11 => ?_)
            refine Fp_ite (fun gc => ?_) (fun gc => ?_)
            · exact (ih a1 (qw (a3 + 1)) h11)
            · exact Fp_some
          · exact Fp_none
    · exact Fp_none
theorem F_DX10_noSeen  (a1 : Int) (h : qH)  : Fp (fun _ _ => False) h (DX10_noSeen a1 h) := by
  unfold DX10_noSeen
  refine Fp_bd ((F_DX10_noTray a1 h).mono (fun i k g => g.elim)) (fun r13 h14 => ?_)
  refine Fp_ite (fun gc => ?_) (fun gc => ?_)
  · refine Fp_ite (fun gc => ?_) (fun gc => ?_)
    · refine Fp_ite (fun gc => ?_) (fun gc => ?_)
      · exact Fp_some
      · refine Fp_ite (fun gc => ?_) (fun gc => ?_)
        · refine Fp_bd ((F_DX10_within (h14.1 223 a1.toNat) 2 8 h14).mono (fun i k g => g.elim)) (fun r20 h21 => ?_)
          refine Fp_ite (fun gc => ?_) (fun gc => ?_)
          · exact (F_DX10_noSeen_l48 LF a1 0 h21)
          · exact Fp_some
        · exact Fp_none
    · exact Fp_none
  · exact Fp_some
theorem F_DX10_numbers_l64   : ∀ (n : Nat) (a1 : Int) (a3 : Int) (a4 : Int) (h : qH), Fp (fun (i k : Nat) => (i = 212 ∧ k = 0) ∨ (222 ≤ i ∧ i ≤ 224)) h (DX10_numbers_l64  n a1 a3 a4 h) := by
  intro n
  induction n with
  | zero =>
    intro a1 a3 a4 h
    exact Fp_none
  | succ n ih =>
    intro a1 a3 a4 h
    rw [DX10_numbers_l64.eq_2]
    refine Fp_ite (fun gc => ?_) (fun gc => ?_)
    · exact Fp_some
    · refine Fp_ite (fun gc => ?_) (fun gc => ?_)
      · refine Fp_qu (by first | omega | (simp only []; omega)) (fun h1 => ?_)
        exact (ih a1 a3 (qw (a4 + 1)) h1)
      · exact Fp_none
theorem F_DX10_numbers  (a1 : Int) (a2 : Int) (a3 : Int) (h : qH)  : Fp (fun (i k : Nat) => (i = 212 ∧ k = 0) ∨ (222 ≤ i ∧ i ≤ 224)) h (DX10_numbers a1 a2 a3 h) := by
  unfold DX10_numbers
  refine Fp_qu (by first | omega | (simp only []; omega)) (fun h2 => ?_)
  refine Fp_bd ((F_DX10_within a1 0 3 h2).mono (fun i k g => g.elim)) (fun r3 h4 => ?_)
  refine Fp_ite (fun gc => ?_) (fun gc => ?_)
  · exact Fp_some
  · refine Fp_bd ((F_DX10_within a2 0 3 h4).mono (fun i k g => g.elim)) (fun r6 h7 => ?_)
    refine Fp_ite (fun gc => ?_) (fun gc => ?_)
    · refine Fp_bd ((F_DX10_within a3 0 40 h7).mono (fun i k g => g.elim)) (fun r9 h10 => ?_)
      refine Fp_ite (fun gc => ?_) (fun gc => ?_)
      · refine Fp_ite (fun gc => ?_) (fun gc => ?_)
        · refine Fp_qu (by first | omega | (simp only []; omega)) (fun h12 => ?_)
          refine Fp_ite (fun gc => ?_) (fun gc => ?_)
          · refine Fp_qu (by first | omega | (simp only []; omega)) (fun h13 => ?_)
            exact (F_DX10_numbers_l64 LF a1 a3 0 h13)
          · exact Fp_none
        · exact Fp_none
      · exact Fp_some
    · exact Fp_some
theorem F_DX10_perform  (a1 : Int) (h : qH)  : Fp (fun (i k : Nat) => (i = 212 ∧ k = 0) ∨ (i = 212 ∧ k = 18) ∨ (i = 212 ∧ k = 21) ∨ i = 213 ∨ (217 ≤ i ∧ i ≤ 219)) h (DX10_perform a1 h) := by
  unfold DX10_perform
  refine Fp_qu (by first | omega | (simp only []; omega)) (fun h1 => ?_)
  refine Fp_bd ((F_DX10_noTray a1 h1).mono (fun i k g => g.elim)) (fun r2 h3 => ?_)
  refine Fp_ite (fun gc => ?_) (fun gc => ?_)
  · refine Fp_bd ((F_DX10_keepsAll h3).mono (fun i k g => by omega)) (fun r5 h6 => ?_)
    refine Fp_bd ((F_DX10_tells a1 h6).mono (fun i k g => by rcases g with g | g | g | g <;> omega)) (fun r8 h9 => ?_)
    refine Fp_ite (fun gc => ?_) (fun gc => ?_)
    · exact Fp_some
    · refine Fp_bd ((F_DX10_notes h9).mono (fun i k g => by omega)) (fun r11 h12 => ?_)
      exact Fp_some
  · exact Fp_some
theorem F_DX10_plain_l2   : ∀ (n : Nat) (i0 : Nat) (n0 : Nat) (a1 : Int) (h : qH), Fp (fun (i k : Nat) => i = i0) h (DX10_plain_l2  n i0 n0 a1 h) := by
  intro n
  induction n with
  | zero =>
    intro i0 n0 a1 h
    exact Fp_none
  | succ n ih =>
    intro i0 n0 a1 h
    rw [DX10_plain_l2.eq_2]
    refine Fp_ite (fun gc => ?_) (fun gc => ?_)
    · refine Fp_ite (fun gc => ?_) (fun gc => ?_)
      · refine Fp_qu (by first | omega | (simp only []; omega)) (fun h1 => ?_)
        exact Fp_some
      · exact Fp_none
    · refine Fp_ite (fun gc => ?_) (fun gc => ?_)
      · refine Fp_qu (by first | omega | (simp only []; omega)) (fun h2 => ?_)
        exact (ih i0 n0 (qw (a1 + 1)) h2)
      · exact Fp_none
theorem F_DX10_plain  (i0 : Nat) (n0 : Nat) (h : qH)  : Fp (fun (i k : Nat) => i = i0) h (DX10_plain i0 n0 h) := by
  unfold DX10_plain
  exact (F_DX10_plain_l2 LF i0 n0 0 h)
theorem F_DX10_reachers_l21   : ∀ (n : Nat) (a1 : Int) (a2 : Int) (a3 : Int) (h : qH), Fp (fun (i k : Nat) => (i = 212 ∧ k = 0) ∨ (i = 212 ∧ k = 18) ∨ (i = 212 ∧ 23 ≤ k ∧ k ≤ 25) ∨ (217 ≤ i ∧ i ≤ 218)) h (DX10_reachers_l21  n a1 a2 a3 h) := by
  intro n
  induction n with
  | zero =>
    intro a1 a2 a3 h
    exact Fp_none
  | succ n ih =>
    intro a1 a2 a3 h
    rw [DX10_reachers_l21.eq_2]
    refine Fp_ite (fun gc => ?_) (fun gc => ?_)
    · exact Fp_some
    · refine Fp_ite (fun gc => ?_) (fun gc => ?_)
      · exact (ih a1 a2 (qw (a3 + 1)) h)
      · refine Fp_bd ((F_DX10_bestFrom a3 a1 (h.1 213 349) h).mono (fun i k g => by rcases g with g | g | g <;> omega)) (fun r5 h6 => ?_)
        refine Fp_ite (fun gc => ?_) (fun gc => ?_)
        · exact (ih a1 a2 (qw (a3 + 1)) h6)
        · refine Fp_let (fun v8 => ?_)
          exact (ih a1 v8 (qw (a3 + 1)) h6)
theorem F_DX10_reachers  (a1 : Int) (h : qH)  : Fp (fun (i k : Nat) => (i = 212 ∧ k = 0) ∨ (i = 212 ∧ k = 18) ∨ (i = 212 ∧ 23 ≤ k ∧ k ≤ 25) ∨ (217 ≤ i ∧ i ≤ 218)) h (DX10_reachers a1 h) := by
  unfold DX10_reachers
  refine Fp_qu (by first | omega | (simp only []; omega)) (fun h9 => ?_)
  refine Fp_bd ((F_DX10_isShore a1 h9).mono (fun i k g => g.elim)) (fun r10 h11 => ?_)
  refine Fp_ite (fun gc => ?_) (fun gc => ?_)
  · exact (F_DX10_reachers_l21 LF a1 0 0 h11)
  · exact Fp_some
theorem F_DX10_reaches  (a1 : Int) (a2 : Int) (a3 : Int) (a4 : Int) (h : qH)  : Fp (fun (i k : Nat) => (i = 212 ∧ k = 0) ∨ (i = 212 ∧ k = 18) ∨ (i = 212 ∧ k = 23) ∨ (217 ≤ i ∧ i ≤ 218)) h (DX10_reaches a1 a2 a3 a4 h) := by
  unfold DX10_reaches
  refine Fp_qu (by first | omega | (simp only []; omega)) (fun h1 => ?_)
  refine Fp_bd ((F_DX10_noThrow a1 a2 h1).mono (fun i k g => g.elim)) (fun r2 h3 => ?_)
  refine Fp_ite (fun gc => ?_) (fun gc => ?_)
  · exact Fp_some
  · refine Fp_ite (fun gc => ?_) (fun gc => ?_)
    · refine Fp_bd ((F_DX10_within a4 0 30 h3).mono (fun i k g => g.elim)) (fun r5 h6 => ?_)
      refine Fp_ite (fun gc => ?_) (fun gc => ?_)
      · refine Fp_bd ((F_DX10_throwsTo a1 h6).mono (fun i k g => g.elim)) (fun r8 h9 => ?_)
        refine Fp_ite (fun gc => ?_) (fun gc => ?_)
        · refine Fp_bd ((F_DX10_keptBy a1 a2 a3 (qw (h9.1 213 349 + a4)) h9).mono (fun i k g => by rcases g with g | g | g <;> omega)) (fun r13 h14 => ?_)
          refine Fp_ite (fun gc => ?_) (fun gc => ?_)
          · exact Fp_some
          · exact Fp_some
        · exact Fp_some
      · exact Fp_some
    · exact Fp_some
theorem F_DX10_readTerm_l5 (f_X10_readAtom : Int → qH → Option (Int × qH)) (f_X10_readTerm : Int → qH → Option (Int × qH)) (f_X10_readSum : Int → qH → Option (Int × qH)) (f_X10_readUnit : Int → qH → Option (Int × qH)) (f_X10_readBoth : Int → qH → Option (Int × qH)) (f_X10_readTruth : Int → qH → Option (Int × qH)) (f_X10_readAtom_h : ∀ (x0 : Int) (hx : qH), Fp (fun (i k : Nat) => (i = 212 ∧ 6 ≤ k ∧ k ≤ 7) ∨ (i = 212 ∧ 9 ≤ k ∧ k ≤ 12) ∨ i = 216) hx (f_X10_readAtom x0 hx)) (f_X10_readTerm_h : ∀ (x0 : Int) (hx : qH), Fp (fun (i k : Nat) => (i = 212 ∧ 6 ≤ k ∧ k ≤ 7) ∨ (i = 212 ∧ 9 ≤ k ∧ k ≤ 12) ∨ i = 216) hx (f_X10_readTerm x0 hx)) (f_X10_readSum_h : ∀ (x0 : Int) (hx : qH), Fp (fun (i k : Nat) => (i = 212 ∧ 6 ≤ k ∧ k ≤ 7) ∨ (i = 212 ∧ 9 ≤ k ∧ k ≤ 12) ∨ i = 216) hx (f_X10_readSum x0 hx)) (f_X10_readUnit_h : ∀ (x0 : Int) (hx : qH), Fp (fun (i k : Nat) => (i = 212 ∧ 6 ≤ k ∧ k ≤ 7) ∨ (i = 212 ∧ 9 ≤ k ∧ k ≤ 12) ∨ i = 216) hx (f_X10_readUnit x0 hx)) (f_X10_readBoth_h : ∀ (x0 : Int) (hx : qH), Fp (fun (i k : Nat) => (i = 212 ∧ 6 ≤ k ∧ k ≤ 7) ∨ (i = 212 ∧ 9 ≤ k ∧ k ≤ 12) ∨ i = 216) hx (f_X10_readBoth x0 hx)) (f_X10_readTruth_h : ∀ (x0 : Int) (hx : qH), Fp (fun (i k : Nat) => (i = 212 ∧ 6 ≤ k ∧ k ≤ 7) ∨ (i = 212 ∧ 9 ≤ k ∧ k ≤ 12) ∨ i = 216) hx (f_X10_readTruth x0 hx)) : ∀ (n : Nat) (a1 : Int) (h : qH), Fp (fun (i k : Nat) => (i = 212 ∧ 6 ≤ k ∧ k ≤ 7) ∨ (i = 212 ∧ 9 ≤ k ∧ k ≤ 12) ∨ i = 216) h (DX10_readTerm_l5 f_X10_readAtom f_X10_readTerm f_X10_readSum f_X10_readUnit f_X10_readBoth f_X10_readTruth n a1 h) := by
  intro n
  induction n with
  | zero =>
    intro a1 h
    exact Fp_none
  | succ n ih =>
    intro a1 h
    rw [DX10_readTerm_l5.eq_2]
    refine Fp_bd ((F_DX10_eats 44 h).mono (fun i k g => by rcases g with g | g <;> omega)) (fun r1 h2 => ?_)
    refine Fp_ite (fun gc => ?_) (fun gc => ?_)
    · exact Fp_some
    · refine Fp_bd (f_X10_readAtom_h a1 h2) (fun r4 h5 => ?_)
      refine Fp_bd ((F_DX10_codes 3002 h5).mono (fun i k g => by omega)) (fun r7 h8 => ?_)
      exact (ih a1 h8)
theorem F_DX10_readTerm (f_X10_readAtom : Int → qH → Option (Int × qH)) (f_X10_readTerm : Int → qH → Option (Int × qH)) (f_X10_readSum : Int → qH → Option (Int × qH)) (f_X10_readUnit : Int → qH → Option (Int × qH)) (f_X10_readBoth : Int → qH → Option (Int × qH)) (f_X10_readTruth : Int → qH → Option (Int × qH)) (a1 : Int) (h : qH) (f_X10_readAtom_h : ∀ (x0 : Int) (hx : qH), Fp (fun (i k : Nat) => (i = 212 ∧ 6 ≤ k ∧ k ≤ 7) ∨ (i = 212 ∧ 9 ≤ k ∧ k ≤ 12) ∨ i = 216) hx (f_X10_readAtom x0 hx)) (f_X10_readTerm_h : ∀ (x0 : Int) (hx : qH), Fp (fun (i k : Nat) => (i = 212 ∧ 6 ≤ k ∧ k ≤ 7) ∨ (i = 212 ∧ 9 ≤ k ∧ k ≤ 12) ∨ i = 216) hx (f_X10_readTerm x0 hx)) (f_X10_readSum_h : ∀ (x0 : Int) (hx : qH), Fp (fun (i k : Nat) => (i = 212 ∧ 6 ≤ k ∧ k ≤ 7) ∨ (i = 212 ∧ 9 ≤ k ∧ k ≤ 12) ∨ i = 216) hx (f_X10_readSum x0 hx)) (f_X10_readUnit_h : ∀ (x0 : Int) (hx : qH), Fp (fun (i k : Nat) => (i = 212 ∧ 6 ≤ k ∧ k ≤ 7) ∨ (i = 212 ∧ 9 ≤ k ∧ k ≤ 12) ∨ i = 216) hx (f_X10_readUnit x0 hx)) (f_X10_readBoth_h : ∀ (x0 : Int) (hx : qH), Fp (fun (i k : Nat) => (i = 212 ∧ 6 ≤ k ∧ k ≤ 7) ∨ (i = 212 ∧ 9 ≤ k ∧ k ≤ 12) ∨ i = 216) hx (f_X10_readBoth x0 hx)) (f_X10_readTruth_h : ∀ (x0 : Int) (hx : qH), Fp (fun (i k : Nat) => (i = 212 ∧ 6 ≤ k ∧ k ≤ 7) ∨ (i = 212 ∧ 9 ≤ k ∧ k ≤ 12) ∨ i = 216) hx (f_X10_readTruth x0 hx)) : Fp (fun (i k : Nat) => (i = 212 ∧ 6 ≤ k ∧ k ≤ 7) ∨ (i = 212 ∧ 9 ≤ k ∧ k ≤ 12) ∨ i = 216) h (DX10_readTerm f_X10_readAtom f_X10_readTerm f_X10_readSum f_X10_readUnit f_X10_readBoth f_X10_readTruth a1 h) := by
  unfold DX10_readTerm
  refine Fp_bd (f_X10_readAtom_h a1 h) (fun r10 h11 => ?_)
  exact (F_DX10_readTerm_l5 f_X10_readAtom f_X10_readTerm f_X10_readSum f_X10_readUnit f_X10_readBoth f_X10_readTruth f_X10_readAtom_h f_X10_readTerm_h f_X10_readSum_h f_X10_readUnit_h f_X10_readBoth_h f_X10_readTruth_h LF a1 h11)
theorem F_DX10_readSum_b41 (f_X10_readAtom : Int → qH → Option (Int × qH)) (f_X10_readTerm : Int → qH → Option (Int × qH)) (f_X10_readSum : Int → qH → Option (Int × qH)) (f_X10_readUnit : Int → qH → Option (Int × qH)) (f_X10_readBoth : Int → qH → Option (Int × qH)) (f_X10_readTruth : Int → qH → Option (Int × qH)) (k5 : Int → qH → Option (Int × qH)) (a1 : Int) (b0 : Int) (h : qH) (f_X10_readAtom_h : ∀ (x0 : Int) (hx : qH), Fp (fun (i k : Nat) => (i = 212 ∧ 6 ≤ k ∧ k ≤ 7) ∨ (i = 212 ∧ 9 ≤ k ∧ k ≤ 12) ∨ i = 216) hx (f_X10_readAtom x0 hx)) (f_X10_readTerm_h : ∀ (x0 : Int) (hx : qH), Fp (fun (i k : Nat) => (i = 212 ∧ 6 ≤ k ∧ k ≤ 7) ∨ (i = 212 ∧ 9 ≤ k ∧ k ≤ 12) ∨ i = 216) hx (f_X10_readTerm x0 hx)) (f_X10_readSum_h : ∀ (x0 : Int) (hx : qH), Fp (fun (i k : Nat) => (i = 212 ∧ 6 ≤ k ∧ k ≤ 7) ∨ (i = 212 ∧ 9 ≤ k ∧ k ≤ 12) ∨ i = 216) hx (f_X10_readSum x0 hx)) (f_X10_readUnit_h : ∀ (x0 : Int) (hx : qH), Fp (fun (i k : Nat) => (i = 212 ∧ 6 ≤ k ∧ k ≤ 7) ∨ (i = 212 ∧ 9 ≤ k ∧ k ≤ 12) ∨ i = 216) hx (f_X10_readUnit x0 hx)) (f_X10_readBoth_h : ∀ (x0 : Int) (hx : qH), Fp (fun (i k : Nat) => (i = 212 ∧ 6 ≤ k ∧ k ≤ 7) ∨ (i = 212 ∧ 9 ≤ k ∧ k ≤ 12) ∨ i = 216) hx (f_X10_readBoth x0 hx)) (f_X10_readTruth_h : ∀ (x0 : Int) (hx : qH), Fp (fun (i k : Nat) => (i = 212 ∧ 6 ≤ k ∧ k ≤ 7) ∨ (i = 212 ∧ 9 ≤ k ∧ k ≤ 12) ∨ i = 216) hx (f_X10_readTruth x0 hx)) (k5_h : ∀ (x0 : Int) (hx : qH), Fp (fun (i k : Nat) => (i = 212 ∧ 6 ≤ k ∧ k ≤ 7) ∨ (i = 212 ∧ 9 ≤ k ∧ k ≤ 12) ∨ i = 216) hx (k5 x0 hx)) : Fp (fun (i k : Nat) => (i = 212 ∧ 6 ≤ k ∧ k ≤ 7) ∨ (i = 212 ∧ 9 ≤ k ∧ k ≤ 12) ∨ i = 216) h (DX10_readSum_b41 f_X10_readAtom f_X10_readTerm f_X10_readSum f_X10_readUnit f_X10_readBoth f_X10_readTruth k5 a1 b0 h) := by
  unfold DX10_readSum_b41
  refine Fp_bd ((F_DX10_next h).mono (fun i k g => by rcases g with g | g <;> omega)) (fun r1 h2 => ?_)
  refine Fp_bd (f_X10_readTerm_h a1 h2) (fun r4 h5 => ?_)
  refine Fp_bd ((F_DX10_codes b0 h5).mono (fun i k g => by omega)) (fun r7 h8 => ?_)
  exact (k5_h a1 h8)
theorem F_DX10_readSum_l5 (f_X10_readAtom : Int → qH → Option (Int × qH)) (f_X10_readTerm : Int → qH → Option (Int × qH)) (f_X10_readSum : Int → qH → Option (Int × qH)) (f_X10_readUnit : Int → qH → Option (Int × qH)) (f_X10_readBoth : Int → qH → Option (Int × qH)) (f_X10_readTruth : Int → qH → Option (Int × qH)) (f_X10_readAtom_h : ∀ (x0 : Int) (hx : qH), Fp (fun (i k : Nat) => (i = 212 ∧ 6 ≤ k ∧ k ≤ 7) ∨ (i = 212 ∧ 9 ≤ k ∧ k ≤ 12) ∨ i = 216) hx (f_X10_readAtom x0 hx)) (f_X10_readTerm_h : ∀ (x0 : Int) (hx : qH), Fp (fun (i k : Nat) => (i = 212 ∧ 6 ≤ k ∧ k ≤ 7) ∨ (i = 212 ∧ 9 ≤ k ∧ k ≤ 12) ∨ i = 216) hx (f_X10_readTerm x0 hx)) (f_X10_readSum_h : ∀ (x0 : Int) (hx : qH), Fp (fun (i k : Nat) => (i = 212 ∧ 6 ≤ k ∧ k ≤ 7) ∨ (i = 212 ∧ 9 ≤ k ∧ k ≤ 12) ∨ i = 216) hx (f_X10_readSum x0 hx)) (f_X10_readUnit_h : ∀ (x0 : Int) (hx : qH), Fp (fun (i k : Nat) => (i = 212 ∧ 6 ≤ k ∧ k ≤ 7) ∨ (i = 212 ∧ 9 ≤ k ∧ k ≤ 12) ∨ i = 216) hx (f_X10_readUnit x0 hx)) (f_X10_readBoth_h : ∀ (x0 : Int) (hx : qH), Fp (fun (i k : Nat) => (i = 212 ∧ 6 ≤ k ∧ k ≤ 7) ∨ (i = 212 ∧ 9 ≤ k ∧ k ≤ 12) ∨ i = 216) hx (f_X10_readBoth x0 hx)) (f_X10_readTruth_h : ∀ (x0 : Int) (hx : qH), Fp (fun (i k : Nat) => (i = 212 ∧ 6 ≤ k ∧ k ≤ 7) ∨ (i = 212 ∧ 9 ≤ k ∧ k ≤ 12) ∨ i = 216) hx (f_X10_readTruth x0 hx)) : ∀ (n : Nat) (a1 : Int) (h : qH), Fp (fun (i k : Nat) => (i = 212 ∧ 6 ≤ k ∧ k ≤ 7) ∨ (i = 212 ∧ 9 ≤ k ∧ k ≤ 12) ∨ i = 216) h (DX10_readSum_l5 f_X10_readAtom f_X10_readTerm f_X10_readSum f_X10_readUnit f_X10_readBoth f_X10_readTruth n a1 h) := by
  intro n
  induction n with
  | zero =>
    intro a1 h
    exact Fp_none
  | succ n ih =>
    intro a1 h
    rw [DX10_readSum_l5.eq_2]
    refine Fp_bd ((F_DX10_is 42 h).mono (fun i k g => g.elim)) (fun r10 h11 => ?_)
    refine Fp_ite (fun gc => ?_) (fun gc => ?_)
    · refine Fp_ite (fun gc => ?_) (fun gc => ?_)
      · exact (F_DX10_readSum_b41 f_X10_readAtom f_X10_readTerm f_X10_readSum f_X10_readUnit f_X10_readBoth f_X10_readTruth (DX10_readSum_l5 f_X10_readAtom f_X10_readTerm f_X10_readSum f_X10_readUnit f_X10_readBoth f_X10_readTruth n) a1 3001 h11 f_X10_readAtom_h f_X10_readTerm_h f_X10_readSum_h f_X10_readUnit_h f_X10_readBoth_h f_X10_readTruth_h (fun x0 hx => ih x0 hx))
      · exact (F_DX10_readSum_b41 f_X10_readAtom f_X10_readTerm f_X10_readSum f_X10_readUnit f_X10_readBoth f_X10_readTruth (DX10_readSum_l5 f_X10_readAtom f_X10_readTerm f_X10_readSum f_X10_readUnit f_X10_readBoth f_X10_readTruth n) a1 3000 h11 f_X10_readAtom_h f_X10_readTerm_h f_X10_readSum_h f_X10_readUnit_h f_X10_readBoth_h f_X10_readTruth_h (fun x0 hx => ih x0 hx))
    · refine Fp_bd ((F_DX10_is 43 h11).mono (fun i k g => g.elim)) (fun r13 h14 => ?_)
      refine Fp_ite (fun gc => ?_) (fun gc => ?_)
      · exact Fp_some
      · refine Fp_ite (fun gc => ?_) (fun gc => ?_)
        · exact (F_DX10_readSum_b41 f_X10_readAtom f_X10_readTerm f_X10_readSum f_X10_readUnit f_X10_readBoth f_X10_readTruth (DX10_readSum_l5 f_X10_readAtom f_X10_readTerm f_X10_readSum f_X10_readUnit f_X10_readBoth f_X10_readTruth n) a1 3001 h14 f_X10_readAtom_h f_X10_readTerm_h f_X10_readSum_h f_X10_readUnit_h f_X10_readBoth_h f_X10_readTruth_h (fun x0 hx => ih x0 hx))
        · exact (F_DX10_readSum_b41 f_X10_readAtom f_X10_readTerm f_X10_readSum f_X10_readUnit f_X10_readBoth f_X10_readTruth (DX10_readSum_l5 f_X10_readAtom f_X10_readTerm f_X10_readSum f_X10_readUnit f_X10_readBoth f_X10_readTruth n) a1 3000 h14 f_X10_readAtom_h f_X10_readTerm_h f_X10_readSum_h f_X10_readUnit_h f_X10_readBoth_h f_X10_readTruth_h (fun x0 hx => ih x0 hx))
theorem F_DX10_readSum (f_X10_readAtom : Int → qH → Option (Int × qH)) (f_X10_readTerm : Int → qH → Option (Int × qH)) (f_X10_readSum : Int → qH → Option (Int × qH)) (f_X10_readUnit : Int → qH → Option (Int × qH)) (f_X10_readBoth : Int → qH → Option (Int × qH)) (f_X10_readTruth : Int → qH → Option (Int × qH)) (a1 : Int) (h : qH) (f_X10_readAtom_h : ∀ (x0 : Int) (hx : qH), Fp (fun (i k : Nat) => (i = 212 ∧ 6 ≤ k ∧ k ≤ 7) ∨ (i = 212 ∧ 9 ≤ k ∧ k ≤ 12) ∨ i = 216) hx (f_X10_readAtom x0 hx)) (f_X10_readTerm_h : ∀ (x0 : Int) (hx : qH), Fp (fun (i k : Nat) => (i = 212 ∧ 6 ≤ k ∧ k ≤ 7) ∨ (i = 212 ∧ 9 ≤ k ∧ k ≤ 12) ∨ i = 216) hx (f_X10_readTerm x0 hx)) (f_X10_readSum_h : ∀ (x0 : Int) (hx : qH), Fp (fun (i k : Nat) => (i = 212 ∧ 6 ≤ k ∧ k ≤ 7) ∨ (i = 212 ∧ 9 ≤ k ∧ k ≤ 12) ∨ i = 216) hx (f_X10_readSum x0 hx)) (f_X10_readUnit_h : ∀ (x0 : Int) (hx : qH), Fp (fun (i k : Nat) => (i = 212 ∧ 6 ≤ k ∧ k ≤ 7) ∨ (i = 212 ∧ 9 ≤ k ∧ k ≤ 12) ∨ i = 216) hx (f_X10_readUnit x0 hx)) (f_X10_readBoth_h : ∀ (x0 : Int) (hx : qH), Fp (fun (i k : Nat) => (i = 212 ∧ 6 ≤ k ∧ k ≤ 7) ∨ (i = 212 ∧ 9 ≤ k ∧ k ≤ 12) ∨ i = 216) hx (f_X10_readBoth x0 hx)) (f_X10_readTruth_h : ∀ (x0 : Int) (hx : qH), Fp (fun (i k : Nat) => (i = 212 ∧ 6 ≤ k ∧ k ≤ 7) ∨ (i = 212 ∧ 9 ≤ k ∧ k ≤ 12) ∨ i = 216) hx (f_X10_readTruth x0 hx)) : Fp (fun (i k : Nat) => (i = 212 ∧ 6 ≤ k ∧ k ≤ 7) ∨ (i = 212 ∧ 9 ≤ k ∧ k ≤ 12) ∨ i = 216) h (DX10_readSum f_X10_readAtom f_X10_readTerm f_X10_readSum f_X10_readUnit f_X10_readBoth f_X10_readTruth a1 h) := by
  unfold DX10_readSum
  refine Fp_bd (f_X10_readTerm_h a1 h) (fun r16 h17 => ?_)
  exact (F_DX10_readSum_l5 f_X10_readAtom f_X10_readTerm f_X10_readSum f_X10_readUnit f_X10_readBoth f_X10_readTruth f_X10_readAtom_h f_X10_readTerm_h f_X10_readSum_h f_X10_readUnit_h f_X10_readBoth_h f_X10_readTruth_h LF a1 h17)
theorem F_DX10_wordOf  (a1 : Int) (h : qH)  : Fp (fun _ _ => False) h (DX10_wordOf a1 h) := by
  unfold DX10_wordOf
  refine Fp_ite (fun gc => ?_) (fun gc => ?_)
  · refine Fp_ite (fun gc => ?_) (fun gc => ?_)
    · refine Fp_bd ((F_DX10_within a1 22 27 h).mono (fun i k g => g.elim)) (fun r1 h2 => ?_)
      refine Fp_ite (fun gc => ?_) (fun gc => ?_)
      · exact Fp_some
      · exact Fp_some
    · exact Fp_some
  · refine Fp_ite (fun gc => ?_) (fun gc => ?_)
    · refine Fp_ite (fun gc => ?_) (fun gc => ?_)
      · refine Fp_ite (fun gc => ?_) (fun gc => ?_)
        · refine Fp_ite (fun gc => ?_) (fun gc => ?_)
          · exact Fp_some
          · exact Fp_some
        · exact Fp_some
      · exact Fp_some
    · exact Fp_some
theorem F_DX10_readAtom_b66 (f_X10_readAtom : Int → qH → Option (Int × qH)) (f_X10_readTerm : Int → qH → Option (Int × qH)) (f_X10_readSum : Int → qH → Option (Int × qH)) (f_X10_readUnit : Int → qH → Option (Int × qH)) (f_X10_readBoth : Int → qH → Option (Int × qH)) (f_X10_readTruth : Int → qH → Option (Int × qH)) (a1 : Int) (h : qH) (f_X10_readAtom_h : ∀ (x0 : Int) (hx : qH), Fp (fun (i k : Nat) => (i = 212 ∧ 6 ≤ k ∧ k ≤ 7) ∨ (i = 212 ∧ 9 ≤ k ∧ k ≤ 12) ∨ i = 216) hx (f_X10_readAtom x0 hx)) (f_X10_readTerm_h : ∀ (x0 : Int) (hx : qH), Fp (fun (i k : Nat) => (i = 212 ∧ 6 ≤ k ∧ k ≤ 7) ∨ (i = 212 ∧ 9 ≤ k ∧ k ≤ 12) ∨ i = 216) hx (f_X10_readTerm x0 hx)) (f_X10_readSum_h : ∀ (x0 : Int) (hx : qH), Fp (fun (i k : Nat) => (i = 212 ∧ 6 ≤ k ∧ k ≤ 7) ∨ (i = 212 ∧ 9 ≤ k ∧ k ≤ 12) ∨ i = 216) hx (f_X10_readSum x0 hx)) (f_X10_readUnit_h : ∀ (x0 : Int) (hx : qH), Fp (fun (i k : Nat) => (i = 212 ∧ 6 ≤ k ∧ k ≤ 7) ∨ (i = 212 ∧ 9 ≤ k ∧ k ≤ 12) ∨ i = 216) hx (f_X10_readUnit x0 hx)) (f_X10_readBoth_h : ∀ (x0 : Int) (hx : qH), Fp (fun (i k : Nat) => (i = 212 ∧ 6 ≤ k ∧ k ≤ 7) ∨ (i = 212 ∧ 9 ≤ k ∧ k ≤ 12) ∨ i = 216) hx (f_X10_readBoth x0 hx)) (f_X10_readTruth_h : ∀ (x0 : Int) (hx : qH), Fp (fun (i k : Nat) => (i = 212 ∧ 6 ≤ k ∧ k ≤ 7) ∨ (i = 212 ∧ 9 ≤ k ∧ k ≤ 12) ∨ i = 216) hx (f_X10_readTruth x0 hx)) : Fp (fun (i k : Nat) => (i = 212 ∧ 6 ≤ k ∧ k ≤ 7) ∨ (i = 212 ∧ 9 ≤ k ∧ k ≤ 12) ∨ i = 216) h (DX10_readAtom_b66 f_X10_readAtom f_X10_readTerm f_X10_readSum f_X10_readUnit f_X10_readBoth f_X10_readTruth a1 h) := by
  unfold DX10_readAtom_b66
  refine Fp_bd ((F_DX10_is 45 h).mono (fun i k g => g.elim)) (fun r1 h2 => ?_)
  refine Fp_ite (fun gc => ?_) (fun gc => ?_)
  · refine Fp_bd ((F_DX10_fails 2 h2).mono (fun i k g => by omega)) (fun r4 h5 => ?_)
    exact Fp_some
  · refine Fp_bd ((F_DX10_goesIn a1 h2).mono (fun i k g => by rcases g with g | g <;> omega)) (fun r7 h8 => ?_)
    refine Fp_ite (fun gc => ?_) (fun gc => ?_)
    · refine Fp_bd (f_X10_readSum_h (qw (a1 + 1)) h8) (fun r10 h11 => ?_)
      refine Fp_bd ((F_DX10_eats 46 h11).mono (fun i k g => by rcases g with g | g <;> omega)) (fun r13 h14 => ?_)
      refine Fp_ite (fun gc => ?_) (fun gc => ?_)
      · exact Fp_some
      · refine Fp_bd ((F_DX10_fails 2 h14).mono (fun i k g => by omega)) (fun r16 h17 => ?_)
        exact Fp_some
    · exact Fp_some
theorem F_DX10_readAtom (f_X10_readAtom : Int → qH → Option (Int × qH)) (f_X10_readTerm : Int → qH → Option (Int × qH)) (f_X10_readSum : Int → qH → Option (Int × qH)) (f_X10_readUnit : Int → qH → Option (Int × qH)) (f_X10_readBoth : Int → qH → Option (Int × qH)) (f_X10_readTruth : Int → qH → Option (Int × qH)) (a1 : Int) (h : qH) (f_X10_readAtom_h : ∀ (x0 : Int) (hx : qH), Fp (fun (i k : Nat) => (i = 212 ∧ 6 ≤ k ∧ k ≤ 7) ∨ (i = 212 ∧ 9 ≤ k ∧ k ≤ 12) ∨ i = 216) hx (f_X10_readAtom x0 hx)) (f_X10_readTerm_h : ∀ (x0 : Int) (hx : qH), Fp (fun (i k : Nat) => (i = 212 ∧ 6 ≤ k ∧ k ≤ 7) ∨ (i = 212 ∧ 9 ≤ k ∧ k ≤ 12) ∨ i = 216) hx (f_X10_readTerm x0 hx)) (f_X10_readSum_h : ∀ (x0 : Int) (hx : qH), Fp (fun (i k : Nat) => (i = 212 ∧ 6 ≤ k ∧ k ≤ 7) ∨ (i = 212 ∧ 9 ≤ k ∧ k ≤ 12) ∨ i = 216) hx (f_X10_readSum x0 hx)) (f_X10_readUnit_h : ∀ (x0 : Int) (hx : qH), Fp (fun (i k : Nat) => (i = 212 ∧ 6 ≤ k ∧ k ≤ 7) ∨ (i = 212 ∧ 9 ≤ k ∧ k ≤ 12) ∨ i = 216) hx (f_X10_readUnit x0 hx)) (f_X10_readBoth_h : ∀ (x0 : Int) (hx : qH), Fp (fun (i k : Nat) => (i = 212 ∧ 6 ≤ k ∧ k ≤ 7) ∨ (i = 212 ∧ 9 ≤ k ∧ k ≤ 12) ∨ i = 216) hx (f_X10_readBoth x0 hx)) (f_X10_readTruth_h : ∀ (x0 : Int) (hx : qH), Fp (fun (i k : Nat) => (i = 212 ∧ 6 ≤ k ∧ k ≤ 7) ∨ (i = 212 ∧ 9 ≤ k ∧ k ≤ 12) ∨ i = 216) hx (f_X10_readTruth x0 hx)) : Fp (fun (i k : Nat) => (i = 212 ∧ 6 ≤ k ∧ k ≤ 7) ∨ (i = 212 ∧ 9 ≤ k ∧ k ≤ 12) ∨ i = 216) h (DX10_readAtom f_X10_readAtom f_X10_readTerm f_X10_readSum f_X10_readUnit f_X10_readBoth f_X10_readTruth a1 h) := by
  unfold DX10_readAtom
  refine Fp_bd ((F_DX10_is 31 h).mono (fun i k g => g.elim)) (fun r19 h20 => ?_)
  refine Fp_ite (fun gc => ?_) (fun gc => ?_)
  · refine Fp_ite (fun gc => ?_) (fun gc => ?_)
    · exact (F_DX10_readAtom_b66 f_X10_readAtom f_X10_readTerm f_X10_readSum f_X10_readUnit f_X10_readBoth f_X10_readTruth a1 h20 f_X10_readAtom_h f_X10_readTerm_h f_X10_readSum_h f_X10_readUnit_h f_X10_readBoth_h f_X10_readTruth_h)
    · refine Fp_bd ((F_DX10_wordOf (h20.1 212 9) h20).mono (fun i k g => g.elim)) (fun r22 h23 => ?_)
      refine Fp_ite (fun gc => ?_) (fun gc => ?_)
      · exact (F_DX10_readAtom_b66 f_X10_readAtom f_X10_readTerm f_X10_readSum f_X10_readUnit f_X10_readBoth f_X10_readTruth a1 h23 f_X10_readAtom_h f_X10_readTerm_h f_X10_readSum_h f_X10_readUnit_h f_X10_readBoth_h f_X10_readTruth_h)
      · refine Fp_bd ((F_DX10_wordOf (h23.1 212 9) h23).mono (fun i k g => g.elim)) (fun r25 h26 => ?_)
        refine Fp_bd ((F_DX10_codes (qw (1000 + r25)) h26).mono (fun i k g => by omega)) (fun r28 h29 => ?_)
        refine Fp_bd ((F_DX10_next h29).mono (fun i k g => by rcases g with g | g <;> omega)) (fun r31 h32 => ?_)
        exact Fp_some
  · refine Fp_bd ((F_DX10_codes (h20.1 212 10) h20).mono (fun i k g => by omega)) (fun r34 h35 => ?_)
    refine Fp_bd ((F_DX10_next h35).mono (fun i k g => by rcases g with g | g <;> omega)) (fun r37 h38 => ?_)
    exact Fp_some
theorem F_DX10_readTruth_l5 (f_X10_readAtom : Int → qH → Option (Int × qH)) (f_X10_readTerm : Int → qH → Option (Int × qH)) (f_X10_readSum : Int → qH → Option (Int × qH)) (f_X10_readUnit : Int → qH → Option (Int × qH)) (f_X10_readBoth : Int → qH → Option (Int × qH)) (f_X10_readTruth : Int → qH → Option (Int × qH)) (f_X10_readAtom_h : ∀ (x0 : Int) (hx : qH), Fp (fun (i k : Nat) => (i = 212 ∧ 6 ≤ k ∧ k ≤ 7) ∨ (i = 212 ∧ 9 ≤ k ∧ k ≤ 12) ∨ i = 216) hx (f_X10_readAtom x0 hx)) (f_X10_readTerm_h : ∀ (x0 : Int) (hx : qH), Fp (fun (i k : Nat) => (i = 212 ∧ 6 ≤ k ∧ k ≤ 7) ∨ (i = 212 ∧ 9 ≤ k ∧ k ≤ 12) ∨ i = 216) hx (f_X10_readTerm x0 hx)) (f_X10_readSum_h : ∀ (x0 : Int) (hx : qH), Fp (fun (i k : Nat) => (i = 212 ∧ 6 ≤ k ∧ k ≤ 7) ∨ (i = 212 ∧ 9 ≤ k ∧ k ≤ 12) ∨ i = 216) hx (f_X10_readSum x0 hx)) (f_X10_readUnit_h : ∀ (x0 : Int) (hx : qH), Fp (fun (i k : Nat) => (i = 212 ∧ 6 ≤ k ∧ k ≤ 7) ∨ (i = 212 ∧ 9 ≤ k ∧ k ≤ 12) ∨ i = 216) hx (f_X10_readUnit x0 hx)) (f_X10_readBoth_h : ∀ (x0 : Int) (hx : qH), Fp (fun (i k : Nat) => (i = 212 ∧ 6 ≤ k ∧ k ≤ 7) ∨ (i = 212 ∧ 9 ≤ k ∧ k ≤ 12) ∨ i = 216) hx (f_X10_readBoth x0 hx)) (f_X10_readTruth_h : ∀ (x0 : Int) (hx : qH), Fp (fun (i k : Nat) => (i = 212 ∧ 6 ≤ k ∧ k ≤ 7) ∨ (i = 212 ∧ 9 ≤ k ∧ k ≤ 12) ∨ i = 216) hx (f_X10_readTruth x0 hx)) : ∀ (n : Nat) (a1 : Int) (h : qH), Fp (fun (i k : Nat) => (i = 212 ∧ 6 ≤ k ∧ k ≤ 7) ∨ (i = 212 ∧ 9 ≤ k ∧ k ≤ 12) ∨ i = 216) h (DX10_readTruth_l5 f_X10_readAtom f_X10_readTerm f_X10_readSum f_X10_readUnit f_X10_readBoth f_X10_readTruth n a1 h) := by
  intro n
  induction n with
  | zero =>
    intro a1 h
    exact Fp_none
  | succ n ih =>
    intro a1 h
    rw [DX10_readTruth_l5.eq_2]
    refine Fp_bd ((F_DX10_eats 16 h).mono (fun i k g => by rcases g with g | g <;> omega)) (fun r1 h2 => ?_)
    refine Fp_ite (fun gc => ?_) (fun gc => ?_)
    · exact Fp_some
    · refine Fp_bd (f_X10_readBoth_h a1 h2) (fun r4 h5 => ?_)
      refine Fp_bd ((F_DX10_codes 3007 h5).mono (fun i k g => by omega)) (fun r7 h8 => ?_)
      exact (ih a1 h8)
theorem F_DX10_readTruth (f_X10_readAtom : Int → qH → Option (Int × qH)) (f_X10_readTerm : Int → qH → Option (Int × qH)) (f_X10_readSum : Int → qH → Option (Int × qH)) (f_X10_readUnit : Int → qH → Option (Int × qH)) (f_X10_readBoth : Int → qH → Option (Int × qH)) (f_X10_readTruth : Int → qH → Option (Int × qH)) (a1 : Int) (h : qH) (f_X10_readAtom_h : ∀ (x0 : Int) (hx : qH), Fp (fun (i k : Nat) => (i = 212 ∧ 6 ≤ k ∧ k ≤ 7) ∨ (i = 212 ∧ 9 ≤ k ∧ k ≤ 12) ∨ i = 216) hx (f_X10_readAtom x0 hx)) (f_X10_readTerm_h : ∀ (x0 : Int) (hx : qH), Fp (fun (i k : Nat) => (i = 212 ∧ 6 ≤ k ∧ k ≤ 7) ∨ (i = 212 ∧ 9 ≤ k ∧ k ≤ 12) ∨ i = 216) hx (f_X10_readTerm x0 hx)) (f_X10_readSum_h : ∀ (x0 : Int) (hx : qH), Fp (fun (i k : Nat) => (i = 212 ∧ 6 ≤ k ∧ k ≤ 7) ∨ (i = 212 ∧ 9 ≤ k ∧ k ≤ 12) ∨ i = 216) hx (f_X10_readSum x0 hx)) (f_X10_readUnit_h : ∀ (x0 : Int) (hx : qH), Fp (fun (i k : Nat) => (i = 212 ∧ 6 ≤ k ∧ k ≤ 7) ∨ (i = 212 ∧ 9 ≤ k ∧ k ≤ 12) ∨ i = 216) hx (f_X10_readUnit x0 hx)) (f_X10_readBoth_h : ∀ (x0 : Int) (hx : qH), Fp (fun (i k : Nat) => (i = 212 ∧ 6 ≤ k ∧ k ≤ 7) ∨ (i = 212 ∧ 9 ≤ k ∧ k ≤ 12) ∨ i = 216) hx (f_X10_readBoth x0 hx)) (f_X10_readTruth_h : ∀ (x0 : Int) (hx : qH), Fp (fun (i k : Nat) => (i = 212 ∧ 6 ≤ k ∧ k ≤ 7) ∨ (i = 212 ∧ 9 ≤ k ∧ k ≤ 12) ∨ i = 216) hx (f_X10_readTruth x0 hx)) : Fp (fun (i k : Nat) => (i = 212 ∧ 6 ≤ k ∧ k ≤ 7) ∨ (i = 212 ∧ 9 ≤ k ∧ k ≤ 12) ∨ i = 216) h (DX10_readTruth f_X10_readAtom f_X10_readTerm f_X10_readSum f_X10_readUnit f_X10_readBoth f_X10_readTruth a1 h) := by
  unfold DX10_readTruth
  refine Fp_bd (f_X10_readBoth_h a1 h) (fun r10 h11 => ?_)
  exact (F_DX10_readTruth_l5 f_X10_readAtom f_X10_readTerm f_X10_readSum f_X10_readUnit f_X10_readBoth f_X10_readTruth f_X10_readAtom_h f_X10_readTerm_h f_X10_readSum_h f_X10_readUnit_h f_X10_readBoth_h f_X10_readTruth_h LF a1 h11)
theorem F_DX10_readUnit_b151 (f_X10_readAtom : Int → qH → Option (Int × qH)) (f_X10_readTerm : Int → qH → Option (Int × qH)) (f_X10_readSum : Int → qH → Option (Int × qH)) (f_X10_readUnit : Int → qH → Option (Int × qH)) (f_X10_readBoth : Int → qH → Option (Int × qH)) (f_X10_readTruth : Int → qH → Option (Int × qH)) (a1 : Int) (a2 : Int) (h : qH) (f_X10_readAtom_h : ∀ (x0 : Int) (hx : qH), Fp (fun (i k : Nat) => (i = 212 ∧ 6 ≤ k ∧ k ≤ 7) ∨ (i = 212 ∧ 9 ≤ k ∧ k ≤ 12) ∨ i = 216) hx (f_X10_readAtom x0 hx)) (f_X10_readTerm_h : ∀ (x0 : Int) (hx : qH), Fp (fun (i k : Nat) => (i = 212 ∧ 6 ≤ k ∧ k ≤ 7) ∨ (i = 212 ∧ 9 ≤ k ∧ k ≤ 12) ∨ i = 216) hx (f_X10_readTerm x0 hx)) (f_X10_readSum_h : ∀ (x0 : Int) (hx : qH), Fp (fun (i k : Nat) => (i = 212 ∧ 6 ≤ k ∧ k ≤ 7) ∨ (i = 212 ∧ 9 ≤ k ∧ k ≤ 12) ∨ i = 216) hx (f_X10_readSum x0 hx)) (f_X10_readUnit_h : ∀ (x0 : Int) (hx : qH), Fp (fun (i k : Nat) => (i = 212 ∧ 6 ≤ k ∧ k ≤ 7) ∨ (i = 212 ∧ 9 ≤ k ∧ k ≤ 12) ∨ i = 216) hx (f_X10_readUnit x0 hx)) (f_X10_readBoth_h : ∀ (x0 : Int) (hx : qH), Fp (fun (i k : Nat) => (i = 212 ∧ 6 ≤ k ∧ k ≤ 7) ∨ (i = 212 ∧ 9 ≤ k ∧ k ≤ 12) ∨ i = 216) hx (f_X10_readBoth x0 hx)) (f_X10_readTruth_h : ∀ (x0 : Int) (hx : qH), Fp (fun (i k : Nat) => (i = 212 ∧ 6 ≤ k ∧ k ≤ 7) ∨ (i = 212 ∧ 9 ≤ k ∧ k ≤ 12) ∨ i = 216) hx (f_X10_readTruth x0 hx)) : Fp (fun (i k : Nat) => (i = 212 ∧ 6 ≤ k ∧ k ≤ 7) ∨ (i = 212 ∧ 9 ≤ k ∧ k ≤ 12) ∨ i = 216) h (DX10_readUnit_b151 f_X10_readAtom f_X10_readTerm f_X10_readSum f_X10_readUnit f_X10_readBoth f_X10_readTruth a1 a2 h) := by
  unfold DX10_readUnit_b151
  refine Fp_bd (f_X10_readSum_h a1 h) (fun r1 h2 => ?_)
  refine Fp_bd ((F_DX10_codes a2 h2).mono (fun i k g => by omega)) (fun r4 h5 => ?_)
  exact Fp_some
theorem F_DX10_readUnit_b111 (f_X10_readAtom : Int → qH → Option (Int × qH)) (f_X10_readTerm : Int → qH → Option (Int × qH)) (f_X10_readSum : Int → qH → Option (Int × qH)) (f_X10_readUnit : Int → qH → Option (Int × qH)) (f_X10_readBoth : Int → qH → Option (Int × qH)) (f_X10_readTruth : Int → qH → Option (Int × qH)) (a1 : Int) (b0 : Int) (h : qH) (f_X10_readAtom_h : ∀ (x0 : Int) (hx : qH), Fp (fun (i k : Nat) => (i = 212 ∧ 6 ≤ k ∧ k ≤ 7) ∨ (i = 212 ∧ 9 ≤ k ∧ k ≤ 12) ∨ i = 216) hx (f_X10_readAtom x0 hx)) (f_X10_readTerm_h : ∀ (x0 : Int) (hx : qH), Fp (fun (i k : Nat) => (i = 212 ∧ 6 ≤ k ∧ k ≤ 7) ∨ (i = 212 ∧ 9 ≤ k ∧ k ≤ 12) ∨ i = 216) hx (f_X10_readTerm x0 hx)) (f_X10_readSum_h : ∀ (x0 : Int) (hx : qH), Fp (fun (i k : Nat) => (i = 212 ∧ 6 ≤ k ∧ k ≤ 7) ∨ (i = 212 ∧ 9 ≤ k ∧ k ≤ 12) ∨ i = 216) hx (f_X10_readSum x0 hx)) (f_X10_readUnit_h : ∀ (x0 : Int) (hx : qH), Fp (fun (i k : Nat) => (i = 212 ∧ 6 ≤ k ∧ k ≤ 7) ∨ (i = 212 ∧ 9 ≤ k ∧ k ≤ 12) ∨ i = 216) hx (f_X10_readUnit x0 hx)) (f_X10_readBoth_h : ∀ (x0 : Int) (hx : qH), Fp (fun (i k : Nat) => (i = 212 ∧ 6 ≤ k ∧ k ≤ 7) ∨ (i = 212 ∧ 9 ≤ k ∧ k ≤ 12) ∨ i = 216) hx (f_X10_readBoth x0 hx)) (f_X10_readTruth_h : ∀ (x0 : Int) (hx : qH), Fp (fun (i k : Nat) => (i = 212 ∧ 6 ≤ k ∧ k ≤ 7) ∨ (i = 212 ∧ 9 ≤ k ∧ k ≤ 12) ∨ i = 216) hx (f_X10_readTruth x0 hx)) : Fp (fun (i k : Nat) => (i = 212 ∧ 6 ≤ k ∧ k ≤ 7) ∨ (i = 212 ∧ 9 ≤ k ∧ k ≤ 12) ∨ i = 216) h (DX10_readUnit_b111 f_X10_readAtom f_X10_readTerm f_X10_readSum f_X10_readUnit f_X10_readBoth f_X10_readTruth a1 b0 h) := by
  unfold DX10_readUnit_b111
  refine Fp_bd ((F_DX10_is 49 h).mono (fun i k g => g.elim)) (fun r7 h8 => ?_)
  refine Fp_ite (fun gc => ?_) (fun gc => ?_)
  · refine Fp_bd ((F_DX10_next h8).mono (fun i k g => by rcases g with g | g <;> omega)) (fun r10 h11 => ?_)
    exact (F_DX10_readUnit_b151 f_X10_readAtom f_X10_readTerm f_X10_readSum f_X10_readUnit f_X10_readBoth f_X10_readTruth a1 b0 h11 f_X10_readAtom_h f_X10_readTerm_h f_X10_readSum_h f_X10_readUnit_h f_X10_readBoth_h f_X10_readTruth_h)
  · refine Fp_bd ((F_DX10_is 50 h8).mono (fun i k g => g.elim)) (fun r13 h14 => ?_)
    refine Fp_ite (fun gc => ?_) (fun gc => ?_)
    · refine Fp_bd ((F_DX10_next h14).mono (fun i k g => by rcases g with g | g <;> omega)) (fun r16 h17 => ?_)
      exact (F_DX10_readUnit_b151 f_X10_readAtom f_X10_readTerm f_X10_readSum f_X10_readUnit f_X10_readBoth f_X10_readTruth a1 b0 h17 f_X10_readAtom_h f_X10_readTerm_h f_X10_readSum_h f_X10_readUnit_h f_X10_readBoth_h f_X10_readTruth_h)
    · refine Fp_bd ((F_DX10_is 51 h14).mono (fun i k g => g.elim)) (fun r19 h20 => ?_)
      refine Fp_ite (fun gc => ?_) (fun gc => ?_)
      · refine Fp_bd ((F_DX10_fails 2 h20).mono (fun i k g => by omega)) (fun r22 h23 => ?_)
        exact (F_DX10_readUnit_b151 f_X10_readAtom f_X10_readTerm f_X10_readSum f_X10_readUnit f_X10_readBoth f_X10_readTruth a1 b0 h23 f_X10_readAtom_h f_X10_readTerm_h f_X10_readSum_h f_X10_readUnit_h f_X10_readBoth_h f_X10_readTruth_h)
      · refine Fp_bd ((F_DX10_next h20).mono (fun i k g => by rcases g with g | g <;> omega)) (fun r25 h26 => ?_)
        exact (F_DX10_readUnit_b151 f_X10_readAtom f_X10_readTerm f_X10_readSum f_X10_readUnit f_X10_readBoth f_X10_readTruth a1 b0 h26 f_X10_readAtom_h f_X10_readTerm_h f_X10_readSum_h f_X10_readUnit_h f_X10_readBoth_h f_X10_readTruth_h)
theorem F_DX10_readUnit (f_X10_readAtom : Int → qH → Option (Int × qH)) (f_X10_readTerm : Int → qH → Option (Int × qH)) (f_X10_readSum : Int → qH → Option (Int × qH)) (f_X10_readUnit : Int → qH → Option (Int × qH)) (f_X10_readBoth : Int → qH → Option (Int × qH)) (f_X10_readTruth : Int → qH → Option (Int × qH)) (a1 : Int) (h : qH) (f_X10_readAtom_h : ∀ (x0 : Int) (hx : qH), Fp (fun (i k : Nat) => (i = 212 ∧ 6 ≤ k ∧ k ≤ 7) ∨ (i = 212 ∧ 9 ≤ k ∧ k ≤ 12) ∨ i = 216) hx (f_X10_readAtom x0 hx)) (f_X10_readTerm_h : ∀ (x0 : Int) (hx : qH), Fp (fun (i k : Nat) => (i = 212 ∧ 6 ≤ k ∧ k ≤ 7) ∨ (i = 212 ∧ 9 ≤ k ∧ k ≤ 12) ∨ i = 216) hx (f_X10_readTerm x0 hx)) (f_X10_readSum_h : ∀ (x0 : Int) (hx : qH), Fp (fun (i k : Nat) => (i = 212 ∧ 6 ≤ k ∧ k ≤ 7) ∨ (i = 212 ∧ 9 ≤ k ∧ k ≤ 12) ∨ i = 216) hx (f_X10_readSum x0 hx)) (f_X10_readUnit_h : ∀ (x0 : Int) (hx : qH), Fp (fun (i k : Nat) => (i = 212 ∧ 6 ≤ k ∧ k ≤ 7) ∨ (i = 212 ∧ 9 ≤ k ∧ k ≤ 12) ∨ i = 216) hx (f_X10_readUnit x0 hx)) (f_X10_readBoth_h : ∀ (x0 : Int) (hx : qH), Fp (fun (i k : Nat) => (i = 212 ∧ 6 ≤ k ∧ k ≤ 7) ∨ (i = 212 ∧ 9 ≤ k ∧ k ≤ 12) ∨ i = 216) hx (f_X10_readBoth x0 hx)) (f_X10_readTruth_h : ∀ (x0 : Int) (hx : qH), Fp (fun (i k : Nat) => (i = 212 ∧ 6 ≤ k ∧ k ≤ 7) ∨ (i = 212 ∧ 9 ≤ k ∧ k ≤ 12) ∨ i = 216) hx (f_X10_readTruth x0 hx)) : Fp (fun (i k : Nat) => (i = 212 ∧ 6 ≤ k ∧ k ≤ 7) ∨ (i = 212 ∧ 9 ≤ k ∧ k ≤ 12) ∨ i = 216) h (DX10_readUnit f_X10_readAtom f_X10_readTerm f_X10_readSum f_X10_readUnit f_X10_readBoth f_X10_readTruth a1 h) := by
  unfold DX10_readUnit
  refine Fp_bd ((F_DX10_is 18 h).mono (fun i k g => g.elim)) (fun r28 h29 => ?_)
  refine Fp_ite (fun gc => ?_) (fun gc => ?_)
  · refine Fp_bd ((F_DX10_is 47 h29).mono (fun i k g => g.elim)) (fun r31 h32 => ?_)
    refine Fp_ite (fun gc => ?_) (fun gc => ?_)
    · refine Fp_bd (f_X10_readSum_h a1 h32) (fun r34 h35 => ?_)
      refine Fp_bd ((F_DX10_is 49 h35).mono (fun i k g => g.elim)) (fun r37 h38 => ?_)
      refine Fp_ite (fun gc => ?_) (fun gc => ?_)
      · refine Fp_bd ((F_DX10_is 50 h38).mono (fun i k g => g.elim)) (fun r40 h41 => ?_)
        refine Fp_ite (fun gc => ?_) (fun gc => ?_)
        · exact (F_DX10_readUnit_b111 f_X10_readAtom f_X10_readTerm f_X10_readSum f_X10_readUnit f_X10_readBoth f_X10_readTruth a1 3005 h41 f_X10_readAtom_h f_X10_readTerm_h f_X10_readSum_h f_X10_readUnit_h f_X10_readBoth_h f_X10_readTruth_h)
        · exact (F_DX10_readUnit_b111 f_X10_readAtom f_X10_readTerm f_X10_readSum f_X10_readUnit f_X10_readBoth f_X10_readTruth a1 3004 h41 f_X10_readAtom_h f_X10_readTerm_h f_X10_readSum_h f_X10_readUnit_h f_X10_readBoth_h f_X10_readTruth_h)
      · exact (F_DX10_readUnit_b111 f_X10_readAtom f_X10_readTerm f_X10_readSum f_X10_readUnit f_X10_readBoth f_X10_readTruth a1 3003 h38 f_X10_readAtom_h f_X10_readTerm_h f_X10_readSum_h f_X10_readUnit_h f_X10_readBoth_h f_X10_readTruth_h)
    · refine Fp_bd ((F_DX10_goesIn a1 h32).mono (fun i k g => by rcases g with g | g <;> omega)) (fun r43 h44 => ?_)
      refine Fp_ite (fun gc => ?_) (fun gc => ?_)
      · refine Fp_bd (f_X10_readTruth_h (qw (a1 + 1)) h44) (fun r46 h47 => ?_)
        refine Fp_bd ((F_DX10_eats 48 h47).mono (fun i k g => by rcases g with g | g <;> omega)) (fun r49 h50 => ?_)
        refine Fp_ite (fun gc => ?_) (fun gc => ?_)
        · exact Fp_some
        · refine Fp_bd ((F_DX10_fails 2 h50).mono (fun i k g => by omega)) (fun r52 h53 => ?_)
          exact Fp_some
      · exact Fp_some
  · refine Fp_bd ((F_DX10_goesIn a1 h29).mono (fun i k g => by rcases g with g | g <;> omega)) (fun r55 h56 => ?_)
    refine Fp_ite (fun gc => ?_) (fun gc => ?_)
    · refine Fp_bd (f_X10_readUnit_h (qw (a1 + 1)) h56) (fun r58 h59 => ?_)
      refine Fp_bd ((F_DX10_codes 3008 h59).mono (fun i k g => by omega)) (fun r61 h62 => ?_)
      exact Fp_some
    · exact Fp_some
theorem F_DX10_readBoth_l5 (f_X10_readAtom : Int → qH → Option (Int × qH)) (f_X10_readTerm : Int → qH → Option (Int × qH)) (f_X10_readSum : Int → qH → Option (Int × qH)) (f_X10_readUnit : Int → qH → Option (Int × qH)) (f_X10_readBoth : Int → qH → Option (Int × qH)) (f_X10_readTruth : Int → qH → Option (Int × qH)) (f_X10_readAtom_h : ∀ (x0 : Int) (hx : qH), Fp (fun (i k : Nat) => (i = 212 ∧ 6 ≤ k ∧ k ≤ 7) ∨ (i = 212 ∧ 9 ≤ k ∧ k ≤ 12) ∨ i = 216) hx (f_X10_readAtom x0 hx)) (f_X10_readTerm_h : ∀ (x0 : Int) (hx : qH), Fp (fun (i k : Nat) => (i = 212 ∧ 6 ≤ k ∧ k ≤ 7) ∨ (i = 212 ∧ 9 ≤ k ∧ k ≤ 12) ∨ i = 216) hx (f_X10_readTerm x0 hx)) (f_X10_readSum_h : ∀ (x0 : Int) (hx : qH), Fp (fun (i k : Nat) => (i = 212 ∧ 6 ≤ k ∧ k ≤ 7) ∨ (i = 212 ∧ 9 ≤ k ∧ k ≤ 12) ∨ i = 216) hx (f_X10_readSum x0 hx)) (f_X10_readUnit_h : ∀ (x0 : Int) (hx : qH), Fp (fun (i k : Nat) => (i = 212 ∧ 6 ≤ k ∧ k ≤ 7) ∨ (i = 212 ∧ 9 ≤ k ∧ k ≤ 12) ∨ i = 216) hx (f_X10_readUnit x0 hx)) (f_X10_readBoth_h : ∀ (x0 : Int) (hx : qH), Fp (fun (i k : Nat) => (i = 212 ∧ 6 ≤ k ∧ k ≤ 7) ∨ (i = 212 ∧ 9 ≤ k ∧ k ≤ 12) ∨ i = 216) hx (f_X10_readBoth x0 hx)) (f_X10_readTruth_h : ∀ (x0 : Int) (hx : qH), Fp (fun (i k : Nat) => (i = 212 ∧ 6 ≤ k ∧ k ≤ 7) ∨ (i = 212 ∧ 9 ≤ k ∧ k ≤ 12) ∨ i = 216) hx (f_X10_readTruth x0 hx)) : ∀ (n : Nat) (a1 : Int) (h : qH), Fp (fun (i k : Nat) => (i = 212 ∧ 6 ≤ k ∧ k ≤ 7) ∨ (i = 212 ∧ 9 ≤ k ∧ k ≤ 12) ∨ i = 216) h (DX10_readBoth_l5 f_X10_readAtom f_X10_readTerm f_X10_readSum f_X10_readUnit f_X10_readBoth f_X10_readTruth n a1 h) := by
  intro n
  induction n with
  | zero =>
    intro a1 h
    exact Fp_none
  | succ n ih =>
    intro a1 h
    rw [DX10_readBoth_l5.eq_2]
    refine Fp_bd ((F_DX10_eats 17 h).mono (fun i k g => by rcases g with g | g <;> omega)) (fun r1 h2 => ?_)
    refine Fp_ite (fun gc => ?_) (fun gc => ?_)
    · exact Fp_some
    · refine Fp_bd (f_X10_readUnit_h a1 h2) (fun r4 h5 => ?_)
      refine Fp_bd ((F_DX10_codes 3006 h5).mono (fun i k g => by omega)) (fun r7 h8 => ?_)
      exact (ih a1 h8)
