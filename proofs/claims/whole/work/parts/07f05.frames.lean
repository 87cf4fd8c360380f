/-! ===== frames, printed by wip/whole/gen/gen_frames.py ===== -/
theorem F_DX10_readBoth (f_X10_readAtom : Int → qH → Option (Int × qH)) (f_X10_readTerm : Int → qH → Option (Int × qH)) (f_X10_readSum : Int → qH → Option (Int × qH)) (f_X10_readUnit : Int → qH → Option (Int × qH)) (f_X10_readBoth : Int → qH → Option (Int × qH)) (f_X10_readTruth : Int → qH → Option (Int × qH)) (a1 : Int) (h : qH) (f_X10_readAtom_h : ∀ (x0 : Int) (hx : qH), Fp (fun (i k : Nat) => (i = 212 ∧ 6 ≤ k ∧ k ≤ 7) ∨ (i = 212 ∧ 9 ≤ k ∧ k ≤ 12) ∨ i = 216) hx (f_X10_readAtom x0 hx)) (f_X10_readTerm_h : ∀ (x0 : Int) (hx : qH), Fp (fun (i k : Nat) => (i = 212 ∧ 6 ≤ k ∧ k ≤ 7) ∨ (i = 212 ∧ 9 ≤ k ∧ k ≤ 12) ∨ i = 216) hx (f_X10_readTerm x0 hx)) (f_X10_readSum_h : ∀ (x0 : Int) (hx : qH), Fp (fun (i k : Nat) => (i = 212 ∧ 6 ≤ k ∧ k ≤ 7) ∨ (i = 212 ∧ 9 ≤ k ∧ k ≤ 12) ∨ i = 216) hx (f_X10_readSum x0 hx)) (f_X10_readUnit_h : ∀ (x0 : Int) (hx : qH), Fp (fun (i k : Nat) => (i = 212 ∧ 6 ≤ k ∧ k ≤ 7) ∨ (i = 212 ∧ 9 ≤ k ∧ k ≤ 12) ∨ i = 216) hx (f_X10_readUnit x0 hx)) (f_X10_readBoth_h : ∀ (x0 : Int) (hx : qH), Fp (fun (i k : Nat) => (i = 212 ∧ 6 ≤ k ∧ k ≤ 7) ∨ (i = 212 ∧ 9 ≤ k ∧ k ≤ 12) ∨ i = 216) hx (f_X10_readBoth x0 hx)) (f_X10_readTruth_h : ∀ (x0 : Int) (hx : qH), Fp (fun (i k : Nat) => (i = 212 ∧ 6 ≤ k ∧ k ≤ 7) ∨ (i = 212 ∧ 9 ≤ k ∧ k ≤ 12) ∨ i = 216) hx (f_X10_readTruth x0 hx)) : Fp (fun (i k : Nat) => (i = 212 ∧ 6 ≤ k ∧ k ≤ 7) ∨ (i = 212 ∧ 9 ≤ k ∧ k ≤ 12) ∨ i = 216) h (DX10_readBoth f_X10_readAtom f_X10_readTerm f_X10_readSum f_X10_readUnit f_X10_readBoth f_X10_readTruth a1 h) := by
  unfold DX10_readBoth
  refine Fp_bd (f_X10_readUnit_h a1 h) (fun r10 h11 => ?_)
  exact (F_DX10_readBoth_l5 f_X10_readAtom f_X10_readTerm f_X10_readSum f_X10_readUnit f_X10_readBoth f_X10_readTruth f_X10_readAtom_h f_X10_readTerm_h f_X10_readSum_h f_X10_readUnit_h f_X10_readBoth_h f_X10_readTruth_h LF a1 h11)
theorem F_RX10g : ∀ (n : Nat) (k : Nat) (x0 : Int) (h : qH), Fp (fun (i k : Nat) => (i = 212 ∧ 6 ≤ k ∧ k ≤ 7) ∨ (i = 212 ∧ 9 ≤ k ∧ k ≤ 12) ∨ i = 216) h (RX10g n k x0 h) := by
  intro n
  induction n with
  | zero =>
    intro k x0 h
    exact Fp_none
  | succ n ih =>
    intro k x0 h
    rw [RX10g.eq_2]
    refine Fp_ite (fun _ => ?_) (fun _ => ?_)
    · exact F_DX10_readAtom (fun a h => RX10g n 0 a h) (fun a h => RX10g n 1 a h) (fun a h => RX10g n 2 a h) (fun a h => RX10g n 3 a h) (fun a h => RX10g n 4 a h) (fun a h => RX10g n 5 a h) x0 h (fun a h => ih 0 a h) (fun a h => ih 1 a h) (fun a h => ih 2 a h) (fun a h => ih 3 a h) (fun a h => ih 4 a h) (fun a h => ih 5 a h)
    refine Fp_ite (fun _ => ?_) (fun _ => ?_)
    · exact F_DX10_readTerm (fun a h => RX10g n 0 a h) (fun a h => RX10g n 1 a h) (fun a h => RX10g n 2 a h) (fun a h => RX10g n 3 a h) (fun a h => RX10g n 4 a h) (fun a h => RX10g n 5 a h) x0 h (fun a h => ih 0 a h) (fun a h => ih 1 a h) (fun a h => ih 2 a h) (fun a h => ih 3 a h) (fun a h => ih 4 a h) (fun a h => ih 5 a h)
    refine Fp_ite (fun _ => ?_) (fun _ => ?_)
    · exact F_DX10_readSum (fun a h => RX10g n 0 a h) (fun a h => RX10g n 1 a h) (fun a h => RX10g n 2 a h) (fun a h => RX10g n 3 a h) (fun a h => RX10g n 4 a h) (fun a h => RX10g n 5 a h) x0 h (fun a h => ih 0 a h) (fun a h => ih 1 a h) (fun a h => ih 2 a h) (fun a h => ih 3 a h) (fun a h => ih 4 a h) (fun a h => ih 5 a h)
    refine Fp_ite (fun _ => ?_) (fun _ => ?_)
    · exact F_DX10_readUnit (fun a h => RX10g n 0 a h) (fun a h => RX10g n 1 a h) (fun a h => RX10g n 2 a h) (fun a h => RX10g n 3 a h) (fun a h => RX10g n 4 a h) (fun a h => RX10g n 5 a h) x0 h (fun a h => ih 0 a h) (fun a h => ih 1 a h) (fun a h => ih 2 a h) (fun a h => ih 3 a h) (fun a h => ih 4 a h) (fun a h => ih 5 a h)
    refine Fp_ite (fun _ => ?_) (fun _ => ?_)
    · exact F_DX10_readBoth (fun a h => RX10g n 0 a h) (fun a h => RX10g n 1 a h) (fun a h => RX10g n 2 a h) (fun a h => RX10g n 3 a h) (fun a h => RX10g n 4 a h) (fun a h => RX10g n 5 a h) x0 h (fun a h => ih 0 a h) (fun a h => ih 1 a h) (fun a h => ih 2 a h) (fun a h => ih 3 a h) (fun a h => ih 4 a h) (fun a h => ih 5 a h)
    exact F_DX10_readTruth (fun a h => RX10g n 0 a h) (fun a h => RX10g n 1 a h) (fun a h => RX10g n 2 a h) (fun a h => RX10g n 3 a h) (fun a h => RX10g n 4 a h) (fun a h => RX10g n 5 a h) x0 h (fun a h => ih 0 a h) (fun a h => ih 1 a h) (fun a h => ih 2 a h) (fun a h => ih 3 a h) (fun a h => ih 4 a h) (fun a h => ih 5 a h)
theorem F_RX10_readAtom (a1 : Int) (h : qH) : Fp (fun (i k : Nat) => (i = 212 ∧ 6 ≤ k ∧ k ≤ 7) ∨ (i = 212 ∧ 9 ≤ k ∧ k ≤ 12) ∨ i = 216) h (RX10_readAtom a1 h) := by
  unfold RX10_readAtom
  exact F_RX10g 100 0 a1 h
theorem F_RX10_readTerm (a1 : Int) (h : qH) : Fp (fun (i k : Nat) => (i = 212 ∧ 6 ≤ k ∧ k ≤ 7) ∨ (i = 212 ∧ 9 ≤ k ∧ k ≤ 12) ∨ i = 216) h (RX10_readTerm a1 h) := by
  unfold RX10_readTerm
  exact F_RX10g 100 1 a1 h
theorem F_RX10_readSum (a1 : Int) (h : qH) : Fp (fun (i k : Nat) => (i = 212 ∧ 6 ≤ k ∧ k ≤ 7) ∨ (i = 212 ∧ 9 ≤ k ∧ k ≤ 12) ∨ i = 216) h (RX10_readSum a1 h) := by
  unfold RX10_readSum
  exact F_RX10g 100 2 a1 h
theorem F_RX10_readUnit (a1 : Int) (h : qH) : Fp (fun (i k : Nat) => (i = 212 ∧ 6 ≤ k ∧ k ≤ 7) ∨ (i = 212 ∧ 9 ≤ k ∧ k ≤ 12) ∨ i = 216) h (RX10_readUnit a1 h) := by
  unfold RX10_readUnit
  exact F_RX10g 100 3 a1 h
theorem F_RX10_readBoth (a1 : Int) (h : qH) : Fp (fun (i k : Nat) => (i = 212 ∧ 6 ≤ k ∧ k ≤ 7) ∨ (i = 212 ∧ 9 ≤ k ∧ k ≤ 12) ∨ i = 216) h (RX10_readBoth a1 h) := by
  unfold RX10_readBoth
  exact F_RX10g 100 4 a1 h
theorem F_RX10_readTruth (a1 : Int) (h : qH) : Fp (fun (i k : Nat) => (i = 212 ∧ 6 ≤ k ∧ k ≤ 7) ∨ (i = 212 ∧ 9 ≤ k ∧ k ≤ 12) ∨ i = 216) h (RX10_readTruth a1 h) := by
  unfold RX10_readTruth
  exact F_RX10g 100 5 a1 h
theorem F_DX10_takes_b37  (h : qH)  : Fp (fun (i k : Nat) => (i = 212 ∧ 6 ≤ k ∧ k ≤ 7) ∨ (i = 212 ∧ 9 ≤ k ∧ k ≤ 12)) h (DX10_takes_b37 h) := by
  unfold DX10_takes_b37
  refine Fp_let (fun v1 => ?_)
  refine Fp_ite (fun gc => ?_) (fun gc => ?_)
  · exact Fp_some
  · refine Fp_bd ((F_DX10_next h).mono (fun i k g => by rcases g with g | g <;> omega)) (fun r2 h3 => ?_)
    exact Fp_some
theorem F_DX10_takes  (a1 : Int) (a2 : Int) (h : qH)  : Fp (fun (i k : Nat) => (i = 212 ∧ 6 ≤ k ∧ k ≤ 7) ∨ (i = 212 ∧ 9 ≤ k ∧ k ≤ 12)) h (DX10_takes a1 a2 h) := by
  unfold DX10_takes
  refine Fp_bd ((F_DX10_is 31 h).mono (fun i k g => g.elim)) (fun r5 h6 => ?_)
  refine Fp_ite (fun gc => ?_) (fun gc => ?_)
  · refine Fp_bd ((F_DX10_within (h6.1 212 10) a1 a2 h6).mono (fun i k g => g.elim)) (fun r8 h9 => ?_)
    refine Fp_ite (fun gc => ?_) (fun gc => ?_)
    · exact (F_DX10_takes_b37 h9)
    · refine Fp_bd ((F_DX10_fails 3 h9).mono (fun i k g => by omega)) (fun r11 h12 => ?_)
      exact (F_DX10_takes_b37 h12)
  · refine Fp_bd ((F_DX10_fails 2 h6).mono (fun i k g => by omega)) (fun r14 h15 => ?_)
    exact (F_DX10_takes_b37 h15)
theorem F_DX10_takesCell_b84  (a2 : Int) (h : qH)  : Fp (fun (i k : Nat) => (i = 212 ∧ 6 ≤ k ∧ k ≤ 7) ∨ (i = 212 ∧ 9 ≤ k ∧ k ≤ 12)) h (DX10_takesCell_b84 a2 h) := by
  unfold DX10_takesCell_b84
  refine Fp_bd (F_DX10_takes 0 (qw (h.1 216 2 - 1)) h) (fun r3 h4 => ?_)
  refine Fp_ite (fun gc => ?_) (fun gc => ?_)
  · exact Fp_some
  · exact Fp_some
theorem F_DX10_takesCell  (a1 : Int) (h : qH)  : Fp (fun (i k : Nat) => (i = 212 ∧ 6 ≤ k ∧ k ≤ 7) ∨ (i = 212 ∧ 9 ≤ k ∧ k ≤ 12)) h (DX10_takesCell a1 h) := by
  unfold DX10_takesCell
  refine Fp_bd (F_DX10_takes 0 (qw (h.1 216 1 - 1)) h) (fun r10 h11 => ?_)
  refine Fp_ite (fun gc => ?_) (fun gc => ?_)
  · exact (F_DX10_takesCell_b84 r10 h11)
  · refine Fp_ite (fun gc => ?_) (fun gc => ?_)
    · exact (F_DX10_takesCell_b84 r10 h11)
    · refine Fp_bd ((F_DX10_is 31 h11).mono (fun i k g => g.elim)) (fun r13 h14 => ?_)
      refine Fp_ite (fun gc => ?_) (fun gc => ?_)
      · exact (F_DX10_takesCell_b84 r10 h14)
      · refine Fp_bd ((F_DX10_within (h14.1 212 10) 0 (qw (h14.1 216 2 - 1)) h14).mono (fun i k g => g.elim)) (fun r18 h19 => ?_)
        refine Fp_ite (fun gc => ?_) (fun gc => ?_)
        · exact (F_DX10_takesCell_b84 r10 h19)
        · refine Fp_ite (fun gc => ?_) (fun gc => ?_)
          · refine Fp_ite (fun gc => ?_) (fun gc => ?_)
            · exact (F_DX10_takesCell_b84 r10 h19)
            · refine Fp_bd ((F_DX10_fails 3 h19).mono (fun i k g => by omega)) (fun r25 h26 => ?_)
              exact (F_DX10_takesCell_b84 r10 h26)
          · exact Fp_none
theorem F_DX10_readCurrent_l12   : ∀ (n : Nat) (a1 : Int) (a2 : Int) (h : qH), Fp (fun (i k : Nat) => (i = 212 ∧ 6 ≤ k ∧ k ≤ 7) ∨ (i = 212 ∧ 9 ≤ k ∧ k ≤ 12) ∨ i = 216) h (DX10_readCurrent_l12  n a1 a2 h) := by
  intro n
  induction n with
  | zero =>
    intro a1 a2 h
    exact Fp_none
  | succ n ih =>
    intro a1 a2 h
    rw [DX10_readCurrent_l12.eq_2]
    refine Fp_ite (fun gc => ?_) (fun gc => ?_)
    · exact Fp_some
    · refine Fp_bd ((F_DX10_takes 0 4 h).mono (fun i k g => by rcases g with g | g <;> omega)) (fun r3 h4 => ?_)
      refine Fp_ite (fun gc => ?_) (fun gc => ?_)
      · exact (ih a1 (qw (a2 + 1)) h4)
      · refine Fp_ite (fun gc => ?_) (fun gc => ?_)
        · refine Fp_qu (by first | omega | (simp only []; omega)) (fun h6 => ?_)
          exact (ih a1 (qw (a2 + 1)) h6)
        · exact Fp_none
theorem F_DX10_readCurrent  (h : qH)  : Fp (fun (i k : Nat) => (i = 212 ∧ 6 ≤ k ∧ k ≤ 7) ∨ (i = 212 ∧ 9 ≤ k ∧ k ≤ 12) ∨ i = 216) h (DX10_readCurrent h) := by
  unfold DX10_readCurrent
  refine Fp_bd ((F_DX10_next h).mono (fun i k g => by rcases g with g | g <;> omega)) (fun r7 h8 => ?_)
  refine Fp_bd ((F_DX10_takesCell 0 h8).mono (fun i k g => by rcases g with g | g <;> omega)) (fun r10 h11 => ?_)
  exact (F_DX10_readCurrent_l12 LF r10 0 h11)
theorem F_DX10_readLaw_b49  (a1 : Int) (a2 : Int) (h : qH)  : Fp (fun (i k : Nat) => (i = 212 ∧ 6 ≤ k ∧ k ≤ 7) ∨ (i = 212 ∧ 9 ≤ k ∧ k ≤ 12) ∨ (i = 212 ∧ k = 15) ∨ i = 216) h (DX10_readLaw_b49 a1 a2 h) := by
  unfold DX10_readLaw_b49
  refine Fp_ite (fun gc => ?_) (fun gc => ?_)
  · refine Fp_ite (fun gc => ?_) (fun gc => ?_)
    · refine Fp_qu (by first | omega | (simp only []; omega)) (fun h1 => ?_)
      refine Fp_ite (fun gc => ?_) (fun gc => ?_)
      · refine Fp_qu (by first | omega | (simp only []; omega)) (fun h2 => ?_)
        refine Fp_ite (fun gc => ?_) (fun gc => ?_)
        · refine Fp_qu (by first | omega | (simp only []; omega)) (fun h5 => ?_)
          exact Fp_some
        · exact Fp_none
      · exact Fp_none
    · exact Fp_none
  · exact Fp_some
theorem F_DX10_readLaw_b18  (a1 : Int) (h : qH)  : Fp (fun (i k : Nat) => (i = 212 ∧ 6 ≤ k ∧ k ≤ 7) ∨ (i = 212 ∧ 9 ≤ k ∧ k ≤ 12) ∨ (i = 212 ∧ k = 15) ∨ i = 216) h (DX10_readLaw_b18 a1 h) := by
  unfold DX10_readLaw_b18
  refine Fp_let (fun v8 => ?_)
  refine Fp_qu (by first | omega | (simp only []; omega)) (fun h9 => ?_)
  refine Fp_ite (fun gc => ?_) (fun gc => ?_)
  · refine Fp_bd ((F_RX10_readTruth 0 h9).mono (fun i k g => by rcases g with g | g | g <;> omega)) (fun r10 h11 => ?_)
    exact (F_DX10_readLaw_b49 a1 v8 h11)
  · refine Fp_bd ((F_RX10_readSum 0 h9).mono (fun i k g => by rcases g with g | g | g <;> omega)) (fun r13 h14 => ?_)
    exact (F_DX10_readLaw_b49 a1 v8 h14)
theorem F_DX10_readLaw  (a1 : Int) (h : qH)  : Fp (fun (i k : Nat) => (i = 212 ∧ 6 ≤ k ∧ k ≤ 7) ∨ (i = 212 ∧ 9 ≤ k ∧ k ≤ 12) ∨ (i = 212 ∧ k = 15) ∨ i = 216) h (DX10_readLaw a1 h) := by
  unfold DX10_readLaw
  refine Fp_bd ((F_DX10_next h).mono (fun i k g => by rcases g with g | g <;> omega)) (fun r16 h17 => ?_)
  refine Fp_bd ((F_DX10_eats 41 h17).mono (fun i k g => by rcases g with g | g <;> omega)) (fun r19 h20 => ?_)
  refine Fp_ite (fun gc => ?_) (fun gc => ?_)
  · exact (F_DX10_readLaw_b18 a1 h20)
  · refine Fp_bd ((F_DX10_fails 2 h20).mono (fun i k g => by omega)) (fun r22 h23 => ?_)
    exact (F_DX10_readLaw_b18 a1 h23)
theorem F_DX10_readMoon_b26  (a1 : Int) (h : qH)  : Fp (fun (i k : Nat) => (i = 212 ∧ 6 ≤ k ∧ k ≤ 7) ∨ (i = 212 ∧ 9 ≤ k ∧ k ≤ 12) ∨ (i = 216 ∧ 5 ≤ k ∧ k ≤ 6)) h (DX10_readMoon_b26 a1 h) := by
  unfold DX10_readMoon_b26
  refine Fp_bd ((F_DX10_takes 0 a1 h).mono (fun i k g => by rcases g with g | g <;> omega)) (fun r1 h2 => ?_)
  refine Fp_ite (fun gc => ?_) (fun gc => ?_)
  · refine Fp_qu (by first | omega | (simp only []; omega)) (fun h4 => ?_)
    refine Fp_qu (by first | omega | (simp only []; omega)) (fun h5 => ?_)
    exact Fp_some
  · exact Fp_some
theorem F_DX10_readMoon  (h : qH)  : Fp (fun (i k : Nat) => (i = 212 ∧ 6 ≤ k ∧ k ≤ 7) ∨ (i = 212 ∧ 9 ≤ k ∧ k ≤ 12) ∨ (i = 216 ∧ 5 ≤ k ∧ k ≤ 6)) h (DX10_readMoon h) := by
  unfold DX10_readMoon
  refine Fp_bd ((F_DX10_next h).mono (fun i k g => by rcases g with g | g <;> omega)) (fun r6 h7 => ?_)
  refine Fp_bd ((F_DX10_takes 2 30 h7).mono (fun i k g => by rcases g with g | g <;> omega)) (fun r9 h10 => ?_)
  refine Fp_bd ((F_DX10_eats 10 h10).mono (fun i k g => by rcases g with g | g <;> omega)) (fun r12 h13 => ?_)
  refine Fp_ite (fun gc => ?_) (fun gc => ?_)
  · exact (F_DX10_readMoon_b26 r9 h13)
  · refine Fp_bd ((F_DX10_fails 2 h13).mono (fun i k g => by omega)) (fun r15 h16 => ?_)
    exact (F_DX10_readMoon_b26 r9 h16)
theorem F_DX10_readShore_b176  (a1 : Int) (a2 : Int) (a3 : Int) (a4 : Int) (h : qH)  : Fp (fun (i k : Nat) => (i = 212 ∧ 6 ≤ k ∧ k ≤ 7) ∨ (i = 212 ∧ 9 ≤ k ∧ k ≤ 12) ∨ i = 216) h (DX10_readShore_b176 a1 a2 a3 a4 h) := by
  unfold DX10_readShore_b176
  refine Fp_ite (fun gc => ?_) (fun gc => ?_)
  · refine Fp_ite (fun gc => ?_) (fun gc => ?_)
    · refine Fp_qu (by first | omega | (simp only []; omega)) (fun h1 => ?_)
      refine Fp_ite (fun gc => ?_) (fun gc => ?_)
      · refine Fp_qu (by first | omega | (simp only []; omega)) (fun h2 => ?_)
        refine Fp_ite (fun gc => ?_) (fun gc => ?_)
        · refine Fp_qu (by first | omega | (simp only []; omega)) (fun h3 => ?_)
          refine Fp_ite (fun gc => ?_) (fun gc => ?_)
          · refine Fp_qu (by first | omega | (simp only []; omega)) (fun h4 => ?_)
            refine Fp_qu (by first | omega | (simp only []; omega)) (fun h7 => ?_)
            exact Fp_some
          · exact Fp_none
        · exact Fp_none
      · exact Fp_none
    · exact Fp_none
  · exact Fp_some
theorem F_DX10_readShore_b139 (k118 : Int → Int → Int → Int → Int → qH → Option (Int × qH)) (a1 : Int) (a2 : Int) (a3 : Int) (a4 : Int) (h : qH) (k118_h : ∀ (x0 : Int) (x1 : Int) (x2 : Int) (x3 : Int) (x4 : Int) (hx : qH), Fp (fun (i k : Nat) => (i = 212 ∧ 6 ≤ k ∧ k ≤ 7) ∨ (i = 212 ∧ 9 ≤ k ∧ k ≤ 12) ∨ i = 216) hx (k118 x0 x1 x2 x3 x4 hx)) : Fp (fun (i k : Nat) => (i = 212 ∧ 6 ≤ k ∧ k ≤ 7) ∨ (i = 212 ∧ 9 ≤ k ∧ k ≤ 12) ∨ i = 216) h (DX10_readShore_b139 k118 a1 a2 a3 a4 h) := by
  unfold DX10_readShore_b139
  refine Fp_bd ((F_DX10_takes 0 (qw (h.1 216 3 - 1)) h).mono (fun i k g => by rcases g with g | g <;> omega)) (fun r10 h11 => ?_)
  refine Fp_ite (fun gc => ?_) (fun gc => ?_)
  · exact (k118_h a1 a2 a3 a4 1 h11)
  · refine Fp_let (fun v13 => ?_)
    exact (k118_h a1 a2 a3 v13 1 h11)
theorem F_DX10_readShore_l118   : ∀ (n : Nat) (a1 : Int) (a2 : Int) (a3 : Int) (a4 : Int) (a5 : Int) (h : qH), Fp (fun (i k : Nat) => (i = 212 ∧ 6 ≤ k ∧ k ≤ 7) ∨ (i = 212 ∧ 9 ≤ k ∧ k ≤ 12) ∨ i = 216) h (DX10_readShore_l118  n a1 a2 a3 a4 a5 h) := by
  intro n
  induction n with
  | zero =>
    intro a1 a2 a3 a4 a5 h
    exact Fp_none
  | succ n ih =>
    intro a1 a2 a3 a4 a5 h
    rw [DX10_readShore_l118.eq_2]
    refine Fp_ite (fun gc => ?_) (fun gc => ?_)
    · exact (F_DX10_readShore_b176 a1 a2 a3 a4 h)
    · refine Fp_ite (fun gc => ?_) (fun gc => ?_)
      · exact (F_DX10_readShore_b139 (DX10_readShore_l118 n) a1 a2 a3 a4 h (fun x0 x1 x2 x3 x4 hx => ih x0 x1 x2 x3 x4 hx))
      · refine Fp_bd ((F_DX10_is 31 h).mono (fun i k g => g.elim)) (fun r14 h15 => ?_)
        refine Fp_ite (fun gc => ?_) (fun gc => ?_)
        · exact (F_DX10_readShore_b176 a1 a2 a3 a4 h15)
        · exact (F_DX10_readShore_b139 (DX10_readShore_l118 n) a1 a2 a3 a4 h15 (fun x0 x1 x2 x3 x4 hx => ih x0 x1 x2 x3 x4 hx))
theorem F_DX10_readShore_b99  (a1 : Int) (a2 : Int) (a3 : Int) (h : qH)  : Fp (fun (i k : Nat) => (i = 212 ∧ 6 ≤ k ∧ k ≤ 7) ∨ (i = 212 ∧ 9 ≤ k ∧ k ≤ 12) ∨ i = 216) h (DX10_readShore_b99 a1 a2 a3 h) := by
  unfold DX10_readShore_b99
  refine Fp_bd ((F_DX10_eats 5 h).mono (fun i k g => by rcases g with g | g <;> omega)) (fun r17 h18 => ?_)
  refine Fp_ite (fun gc => ?_) (fun gc => ?_)
  · exact (F_DX10_readShore_l118 LF a1 a2 a3 0 0 h18)
  · refine Fp_bd ((F_DX10_fails 2 h18).mono (fun i k g => by omega)) (fun r20 h21 => ?_)
    exact (F_DX10_readShore_l118 LF a1 a2 a3 0 0 h21)
theorem F_DX10_readShore_b78  (a1 : Int) (a2 : Int) (h : qH)  : Fp (fun (i k : Nat) => (i = 212 ∧ 6 ≤ k ∧ k ≤ 7) ∨ (i = 212 ∧ 9 ≤ k ∧ k ≤ 12) ∨ i = 216) h (DX10_readShore_b78 a1 a2 h) := by
  unfold DX10_readShore_b78
  refine Fp_let (fun v23 => ?_)
  refine Fp_ite (fun gc => ?_) (fun gc => ?_)
  · exact (F_DX10_readShore_b99 a1 a2 v23 h)
  · refine Fp_bd ((F_DX10_next h).mono (fun i k g => by rcases g with g | g <;> omega)) (fun r24 h25 => ?_)
    exact (F_DX10_readShore_b99 a1 a2 v23 h25)
theorem F_DX10_readShore_b49  (a1 : Int) (a2 : Int) (h : qH)  : Fp (fun (i k : Nat) => (i = 212 ∧ 6 ≤ k ∧ k ≤ 7) ∨ (i = 212 ∧ 9 ≤ k ∧ k ≤ 12) ∨ i = 216) h (DX10_readShore_b49 a1 a2 h) := by
  unfold DX10_readShore_b49
  refine Fp_ite (fun gc => ?_) (fun gc => ?_)
  · exact (F_DX10_readShore_b78 a1 a2 h)
  · refine Fp_bd ((F_DX10_within (h.1 212 9) 12 15 h).mono (fun i k g => g.elim)) (fun r27 h28 => ?_)
    refine Fp_ite (fun gc => ?_) (fun gc => ?_)
    · exact (F_DX10_readShore_b78 a1 a2 h28)
    · refine Fp_bd ((F_DX10_fails 2 h28).mono (fun i k g => by omega)) (fun r30 h31 => ?_)
      exact (F_DX10_readShore_b78 a1 a2 h31)
theorem F_DX10_readShore_b18  (a1 : Int) (h : qH)  : Fp (fun (i k : Nat) => (i = 212 ∧ 6 ≤ k ∧ k ≤ 7) ∨ (i = 212 ∧ 9 ≤ k ∧ k ≤ 12) ∨ i = 216) h (DX10_readShore_b18 a1 h) := by
  unfold DX10_readShore_b18
  refine Fp_ite (fun gc => ?_) (fun gc => ?_)
  · refine Fp_bd ((F_DX10_next h).mono (fun i k g => by rcases g with g | g <;> omega)) (fun r33 h34 => ?_)
    refine Fp_bd ((F_DX10_takesCell 1 h34).mono (fun i k g => by rcases g with g | g <;> omega)) (fun r36 h37 => ?_)
    refine Fp_bd ((F_DX10_eats 4 h37).mono (fun i k g => by rcases g with g | g <;> omega)) (fun r39 h40 => ?_)
    refine Fp_ite (fun gc => ?_) (fun gc => ?_)
    · exact (F_DX10_readShore_b49 a1 r36 h40)
    · refine Fp_bd ((F_DX10_fails 2 h40).mono (fun i k g => by omega)) (fun r42 h43 => ?_)
      exact (F_DX10_readShore_b49 a1 r36 h43)
  · exact Fp_some
theorem F_DX10_readShore  (h : qH)  : Fp (fun (i k : Nat) => (i = 212 ∧ 6 ≤ k ∧ k ≤ 7) ∨ (i = 212 ∧ 9 ≤ k ∧ k ≤ 12) ∨ i = 216) h (DX10_readShore h) := by
  unfold DX10_readShore
  refine Fp_let (fun v47 => ?_)
  refine Fp_ite (fun gc => ?_) (fun gc => ?_)
  · exact (F_DX10_readShore_b18 v47 h)
  · refine Fp_bd ((F_DX10_fails 4 h).mono (fun i k g => by omega)) (fun r48 h49 => ?_)
    exact (F_DX10_readShore_b18 v47 h49)
theorem F_DX10_readLine_b83  (h : qH)  : Fp (fun (i k : Nat) => (i = 212 ∧ 6 ≤ k ∧ k ≤ 7) ∨ (i = 212 ∧ 9 ≤ k ∧ k ≤ 12) ∨ (i = 212 ∧ k = 15) ∨ i = 216) h (DX10_readLine_b83 h) := by
  unfold DX10_readLine_b83
  refine Fp_bd (F_DX10_readLaw (qw (h.1 212 9 - 7)) h) (fun r1 h2 => ?_)
  exact Fp_some
theorem F_DX10_readLine  (h : qH)  : Fp (fun (i k : Nat) => (i = 212 ∧ 6 ≤ k ∧ k ≤ 7) ∨ (i = 212 ∧ 9 ≤ k ∧ k ≤ 12) ∨ (i = 212 ∧ k = 15) ∨ i = 216) h (DX10_readLine h) := by
  unfold DX10_readLine
  refine Fp_bd ((F_DX10_eats 2 h).mono (fun i k g => by rcases g with g | g <;> omega)) (fun r4 h5 => ?_)
  refine Fp_ite (fun gc => ?_) (fun gc => ?_)
  · refine Fp_bd ((F_DX10_is 3 h5).mono (fun i k g => g.elim)) (fun r7 h8 => ?_)
    refine Fp_ite (fun gc => ?_) (fun gc => ?_)
    · refine Fp_bd ((F_DX10_is 6 h8).mono (fun i k g => g.elim)) (fun r10 h11 => ?_)
      refine Fp_ite (fun gc => ?_) (fun gc => ?_)
      · refine Fp_bd ((F_DX10_is 7 h11).mono (fun i k g => g.elim)) (fun r13 h14 => ?_)
        refine Fp_ite (fun gc => ?_) (fun gc => ?_)
        · exact (F_DX10_readLine_b83 h14)
        · refine Fp_bd ((F_DX10_is 8 h14).mono (fun i k g => g.elim)) (fun r16 h17 => ?_)
          refine Fp_ite (fun gc => ?_) (fun gc => ?_)
          · refine Fp_bd ((F_DX10_is 9 h17).mono (fun i k g => g.elim)) (fun r19 h20 => ?_)
            refine Fp_ite (fun gc => ?_) (fun gc => ?_)
            · refine Fp_bd ((F_DX10_eats 11 h20).mono (fun i k g => by rcases g with g | g <;> omega)) (fun r22 h23 => ?_)
              refine Fp_ite (fun gc => ?_) (fun gc => ?_)
              · refine Fp_bd ((F_DX10_fails 2 h23).mono (fun i k g => by omega)) (fun r25 h26 => ?_)
                exact Fp_some
              · refine Fp_bd ((F_DX10_takes 1 99 h23).mono (fun i k g => by rcases g with g | g <;> omega)) (fun r28 h29 => ?_)
                refine Fp_ite (fun gc => ?_) (fun gc => ?_)
                · exact Fp_some
                · refine Fp_qu (by first | omega | (simp only []; omega)) (fun h31 => ?_)
                  exact Fp_some
            · refine Fp_bd ((F_DX10_readMoon h20).mono (fun i k g => by rcases g with g | g | g <;> omega)) (fun r32 h33 => ?_)
              exact Fp_some
          · exact (F_DX10_readLine_b83 h17)
      · refine Fp_bd ((F_DX10_readCurrent h11).mono (fun i k g => by rcases g with g | g | g <;> omega)) (fun r35 h36 => ?_)
        exact Fp_some
    · refine Fp_bd ((F_DX10_readShore h8).mono (fun i k g => by rcases g with g | g | g <;> omega)) (fun r38 h39 => ?_)
      exact Fp_some
  · refine Fp_bd ((F_DX10_takesCell 1 h5).mono (fun i k g => by rcases g with g | g <;> omega)) (fun r41 h42 => ?_)
    refine Fp_ite (fun gc => ?_) (fun gc => ?_)
    · exact Fp_some
    · refine Fp_ite (fun gc => ?_) (fun gc => ?_)
      · refine Fp_qu (by first | omega | (simp only []; omega)) (fun h44 => ?_)
        exact Fp_some
      · exact Fp_none
theorem F_DX10_relay_b46  (a1 : Int) (a2 : Int) (a3 : Int) (h : qH)  : Fp (fun (i k : Nat) => (i = 212 ∧ k = 0) ∨ (i = 212 ∧ k = 18) ∨ (i = 212 ∧ 23 ≤ k ∧ k ≤ 25) ∨ (i = 212 ∧ 28 ≤ k ∧ k ≤ 29) ∨ (217 ≤ i ∧ i ≤ 218) ∨ (220 ≤ i ∧ i ≤ 221)) h (DX10_relay_b46 a1 a2 a3 h) := by
  unfold DX10_relay_b46
  refine Fp_qu (by first | omega | (simp only []; omega)) (fun h1 => ?_)
  refine Fp_qu (by first | omega | (simp only []; omega)) (fun h2 => ?_)
  refine Fp_qu (by first | omega | (simp only []; omega)) (fun h3 => ?_)
  refine Fp_bd ((F_RX10_goesRelay a2 0 (qshl 1 a1) 0 h3).mono (fun i k g => by rcases g with g | g | g | g | g <;> omega)) (fun r4 h5 => ?_)
  refine Fp_ite (fun gc => ?_) (fun gc => ?_)
  · refine Fp_ite (fun gc => ?_) (fun gc => ?_)
    · refine Fp_ite (fun gc => ?_) (fun gc => ?_)
      · refine Fp_ite (fun gc => ?_) (fun gc => ?_)
        · exact Fp_some
        · refine Fp_ite (fun gc => ?_) (fun gc => ?_)
          · exact Fp_some
          · exact Fp_none
      · exact Fp_some
    · exact Fp_some
  · exact Fp_some
theorem F_DX10_relay  (a1 : Int) (a2 : Int) (a3 : Int) (h : qH)  : Fp (fun (i k : Nat) => (i = 212 ∧ k = 0) ∨ (i = 212 ∧ k = 18) ∨ (i = 212 ∧ 23 ≤ k ∧ k ≤ 25) ∨ (i = 212 ∧ 28 ≤ k ∧ k ≤ 29) ∨ (217 ≤ i ∧ i ≤ 218) ∨ (220 ≤ i ∧ i ≤ 221)) h (DX10_relay a1 a2 a3 h) := by
  unfold DX10_relay
  refine Fp_qu (by first | omega | (simp only []; omega)) (fun h9 => ?_)
  refine Fp_bd ((F_DX10_noThrow a1 a2 h9).mono (fun i k g => g.elim)) (fun r10 h11 => ?_)
  refine Fp_ite (fun gc => ?_) (fun gc => ?_)
  · exact Fp_some
  · refine Fp_ite (fun gc => ?_) (fun gc => ?_)
    · exact Fp_some
    · refine Fp_bd ((F_DX10_within a3 0 1 h11).mono (fun i k g => g.elim)) (fun r13 h14 => ?_)
      refine Fp_ite (fun gc => ?_) (fun gc => ?_)
      · exact (F_DX10_relay_b46 a1 a2 a3 h14)
      · refine Fp_bd ((F_DX10_within a3 10 15 h14).mono (fun i k g => g.elim)) (fun r16 h17 => ?_)
        refine Fp_ite (fun gc => ?_) (fun gc => ?_)
        · exact (F_DX10_relay_b46 a1 a2 a3 h17)
        · exact Fp_some
theorem F_DX10_restore_l32   : ∀ (n : Nat) (a1 : Int) (a2 : Int) (h : qH), Fp (fun (i k : Nat) => (i = 212 ∧ k = 0) ∨ i = 213) h (DX10_restore_l32  n a1 a2 h) := by
  intro n
  induction n with
  | zero =>
    intro a1 a2 h
    exact Fp_none
  | succ n ih =>
    intro a1 a2 h
    rw [DX10_restore_l32.eq_2]
    refine Fp_ite (fun gc => ?_) (fun gc => ?_)
    · refine Fp_qu (by first | omega | (simp only []; omega)) (fun h1 => ?_)
      exact Fp_some
    · refine Fp_ite (fun gc => ?_) (fun gc => ?_)
      · refine Fp_ite (fun gc => ?_) (fun gc => ?_)
        · refine Fp_qu (by first | omega | (simp only []; omega)) (fun h4 => ?_)
          exact (ih a1 (qw (a2 + 1)) h4)
        · exact Fp_none
      · exact Fp_none
theorem F_DX10_restore  (a1 : Int) (h : qH)  : Fp (fun (i k : Nat) => (i = 212 ∧ k = 0) ∨ i = 213) h (DX10_restore a1 h) := by
  unfold DX10_restore
  refine Fp_qu (by first | omega | (simp only []; omega)) (fun h5 => ?_)
  refine Fp_bd ((F_DX10_within a1 0 1 h5).mono (fun i k g => g.elim)) (fun r6 h7 => ?_)
  refine Fp_ite (fun gc => ?_) (fun gc => ?_)
  · refine Fp_ite (fun gc => ?_) (fun gc => ?_)
    · refine Fp_ite (fun gc => ?_) (fun gc => ?_)
      · exact (F_DX10_restore_l32 LF a1 0 h7)
      · exact Fp_some
    · exact Fp_none
  · exact Fp_some
theorem F_DX10_sea_l193   : ∀ (n : Nat) (a2 : Int) (h : qH), Fp (fun (i k : Nat) => (i = 212 ∧ k = 0) ∨ (i = 212 ∧ 5 ≤ k ∧ k ≤ 15) ∨ i = 213 ∨ i = 216) h (DX10_sea_l193  n a2 h) := by
  intro n
  induction n with
  | zero =>
    intro a2 h
    exact Fp_none
  | succ n ih =>
    intro a2 h
    rw [DX10_sea_l193.eq_2]
    refine Fp_ite (fun gc => ?_) (fun gc => ?_)
    · exact Fp_some
    · refine Fp_ite (fun gc => ?_) (fun gc => ?_)
      · refine Fp_ite (fun gc => ?_) (fun gc => ?_)
        · refine Fp_qu (by first | omega | (simp only []; omega)) (fun h5 => ?_)
          exact (ih (qw (a2 + 1)) h5)
        · exact Fp_none
      · exact Fp_none
theorem F_DX10_sea_b173  (b0 : Int) (h : qH)  : Fp (fun (i k : Nat) => (i = 212 ∧ k = 0) ∨ (i = 212 ∧ 5 ≤ k ∧ k ≤ 15) ∨ i = 213 ∨ i = 216) h (DX10_sea_b173 b0 h) := by
  unfold DX10_sea_b173
  refine Fp_qu (by first | omega | (simp only []; omega)) (fun h6 => ?_)
  refine Fp_ite (fun gc => ?_) (fun gc => ?_)
  · exact (F_DX10_sea_l193 LF 0 h6)
  · exact Fp_some
theorem F_DX10_sea_b149  (h : qH)  : Fp (fun (i k : Nat) => (i = 212 ∧ k = 0) ∨ (i = 212 ∧ 5 ≤ k ∧ k ≤ 15) ∨ i = 213 ∨ i = 216) h (DX10_sea_b149 h) := by
  unfold DX10_sea_b149
  refine Fp_qu (by first | omega | (simp only []; omega)) (fun h7 => ?_)
  refine Fp_ite (fun gc => ?_) (fun gc => ?_)
  · exact (F_DX10_sea_b173 (h7.1 212 12) h7)
  · exact (F_DX10_sea_b173 (-1) h7)
theorem F_DX10_sea_l122   : ∀ (n : Nat)  (h : qH), Fp (fun (i k : Nat) => (i = 212 ∧ k = 0) ∨ (i = 212 ∧ 5 ≤ k ∧ k ≤ 15) ∨ i = 213 ∨ i = 216) h (DX10_sea_l122  n h) := by
  intro n
  induction n with
  | zero =>
    intro h
    exact Fp_none
  | succ n ih =>
    intro h
    rw [DX10_sea_l122.eq_2]
    refine Fp_ite (fun gc => ?_) (fun gc => ?_)
    · exact (F_DX10_sea_b149 h)
    · refine Fp_ite (fun gc => ?_) (fun gc => ?_)
      · exact (F_DX10_sea_b149 h)
      · refine Fp_bd ((F_DX10_readLine h).mono (fun i k g => by rcases g with g | g | g | g <;> omega)) (fun r8 h9 => ?_)
        refine Fp_bd ((F_DX10_ends h9).mono (fun i k g => by rcases g with g | g | g <;> omega)) (fun r11 h12 => ?_)
        exact (ih h12)
theorem F_DX10_sea_b105  (h : qH)  : Fp (fun (i k : Nat) => (i = 212 ∧ k = 0) ∨ (i = 212 ∧ 5 ≤ k ∧ k ≤ 15) ∨ i = 213 ∨ i = 216) h (DX10_sea_b105 h) := by
  unfold DX10_sea_b105
  refine Fp_bd ((F_DX10_takes 1 6 h).mono (fun i k g => by rcases g with g | g <;> omega)) (fun r14 h15 => ?_)
  refine Fp_qu (by first | omega | (simp only []; omega)) (fun h17 => ?_)
  refine Fp_bd ((F_DX10_ends h17).mono (fun i k g => by rcases g with g | g | g <;> omega)) (fun r18 h19 => ?_)
  exact (F_DX10_sea_l122 LF h19)
theorem F_DX10_sea_b66  (h : qH)  : Fp (fun (i k : Nat) => (i = 212 ∧ k = 0) ∨ (i = 212 ∧ 5 ≤ k ∧ k ≤ 15) ∨ i = 213 ∨ i = 216) h (DX10_sea_b66 h) := by
  unfold DX10_sea_b66
  refine Fp_bd ((F_DX10_takes 2 6 h).mono (fun i k g => by rcases g with g | g <;> omega)) (fun r21 h22 => ?_)
  refine Fp_qu (by first | omega | (simp only []; omega)) (fun h24 => ?_)
  refine Fp_bd ((F_DX10_takes 2 6 h24).mono (fun i k g => by rcases g with g | g <;> omega)) (fun r25 h26 => ?_)
  refine Fp_qu (by first | omega | (simp only []; omega)) (fun h28 => ?_)
  refine Fp_bd ((F_DX10_eats 1 h28).mono (fun i k g => by rcases g with g | g <;> omega)) (fun r29 h30 => ?_)
  refine Fp_ite (fun gc => ?_) (fun gc => ?_)
  · exact (F_DX10_sea_b105 h30)
  · refine Fp_bd ((F_DX10_fails 2 h30).mono (fun i k g => by omega)) (fun r32 h33 => ?_)
    exact (F_DX10_sea_b105 h33)
theorem F_DX10_sea  (a1 : Int) (h : qH)  : Fp (fun (i k : Nat) => (i = 212 ∧ k = 0) ∨ (i = 212 ∧ 5 ≤ k ∧ k ≤ 15) ∨ i = 213 ∨ i = 216) h (DX10_sea a1 h) := by
  unfold DX10_sea
  refine Fp_qu (by first | omega | (simp only []; omega)) (fun h35 => ?_)
  refine Fp_bd ((F_DX10_within a1 0 (h35.1 212 5) h35).mono (fun i k g => g.elim)) (fun r36 h37 => ?_)
  refine Fp_ite (fun gc => ?_) (fun gc => ?_)
  · refine Fp_qu (by first | omega | (simp only []; omega)) (fun h39 => ?_)
    refine Fp_qu (by first | omega | (simp only []; omega)) (fun h40 => ?_)
    refine Fp_qu (by first | omega | (simp only []; omega)) (fun h41 => ?_)
    refine Fp_qu (by first | omega | (simp only []; omega)) (fun h42 => ?_)
    refine Fp_bd ((F_DX10_plain 216 1912 h42).mono (fun i k g => by omega)) (fun r43 h44 => ?_)
    refine Fp_bd ((F_DX10_next h44).mono (fun i k g => by rcases g with g | g <;> omega)) (fun r46 h47 => ?_)
    refine Fp_bd ((F_DX10_eats 0 h47).mono (fun i k g => by rcases g with g | g <;> omega)) (fun r49 h50 => ?_)
    refine Fp_ite (fun gc => ?_) (fun gc => ?_)
    · exact (F_DX10_sea_b66 h50)
    · refine Fp_bd ((F_DX10_fails 2 h50).mono (fun i k g => by omega)) (fun r52 h53 => ?_)
      exact (F_DX10_sea_b66 h53)
  · exact Fp_some
theorem F_DX10_season_l46   : ∀ (n : Nat) (a2 : Int) (a3 : Int) (a4 : Int) (h : qH), Fp (fun (i k : Nat) => (i = 212 ∧ k = 0) ∨ (i = 212 ∧ k = 18) ∨ (i = 212 ∧ k = 22) ∨ i = 213 ∨ (217 ≤ i ∧ i ≤ 219)) h (DX10_season_l46  n a2 a3 a4 h) := by
  intro n
  induction n with
  | zero =>
    intro a2 a3 a4 h
    exact Fp_none
  | succ n ih =>
    intro a2 a3 a4 h
    rw [DX10_season_l46.eq_2]
    refine Fp_ite (fun gc => ?_) (fun gc => ?_)
    · refine Fp_ite (fun gc => ?_) (fun gc => ?_)
      · exact Fp_some
      · refine Fp_bd ((F_DX10_notes h).mono (fun i k g => by omega)) (fun r1 h2 => ?_)
        exact Fp_some
    · refine Fp_bd ((F_DX10_drawn h).mono (fun i k g => by omega)) (fun r4 h5 => ?_)
      refine Fp_bd ((F_DX10_whyNot r4 h5).mono (fun i k g => g.elim)) (fun r7 h8 => ?_)
      refine Fp_ite (fun gc => ?_) (fun gc => ?_)
      · refine Fp_bd ((F_DX10_does r4 h8).mono (fun i k g => by rcases g with g | g | g <;> omega)) (fun r10 h11 => ?_)
        refine Fp_let (fun v13 => ?_)
        exact (ih a2 v13 (qw (a4 + 1)) h11)
      · exact (ih a2 a3 (qw (a4 + 1)) h8)
theorem F_DX10_season  (a1 : Int) (a2 : Int) (h : qH)  : Fp (fun (i k : Nat) => (i = 212 ∧ k = 0) ∨ (i = 212 ∧ k = 18) ∨ (i = 212 ∧ k = 22) ∨ i = 213 ∨ (217 ≤ i ∧ i ≤ 219)) h (DX10_season a1 a2 h) := by
  unfold DX10_season
  refine Fp_qu (by first | omega | (simp only []; omega)) (fun h14 => ?_)
  refine Fp_bd ((F_DX10_within a2 1 40 h14).mono (fun i k g => g.elim)) (fun r15 h16 => ?_)
  refine Fp_ite (fun gc => ?_) (fun gc => ?_)
  · refine Fp_ite (fun gc => ?_) (fun gc => ?_)
    · refine Fp_bd ((F_DX10_keepsAll h16).mono (fun i k g => by omega)) (fun r20 h21 => ?_)
      refine Fp_qu (by first | omega | (simp only []; omega)) (fun h23 => ?_)
      exact (F_DX10_season_l46 LF a2 0 0 h23)
    · exact Fp_some
  · exact Fp_some
theorem F_DX10_seen  (a1 : Int) (h : qH)  : Fp (fun (i k : Nat) => (i = 212 ∧ k = 0) ∨ (i = 212 ∧ k = 18) ∨ (i = 212 ∧ 30 ≤ k ∧ k ≤ 35) ∨ (217 ≤ i ∧ i ≤ 218)) h (DX10_seen a1 h) := by
  unfold DX10_seen
  refine Fp_qu (by first | omega | (simp only []; omega)) (fun h1 => ?_)
  refine Fp_bd ((F_DX10_noSeen a1 h1).mono (fun i k g => g.elim)) (fun r2 h3 => ?_)
  refine Fp_ite (fun gc => ?_) (fun gc => ?_)
  · refine Fp_bd ((F_DX10_laysFits a1 (-1) h3).mono (fun i k g => by rcases g with g | g | g <;> omega)) (fun r5 h6 => ?_)
    exact Fp_some
  · exact Fp_some
theorem F_DX10_stateSet_b86 (k5 : Int → Int → Int → Int → qH → Option (Int × qH)) (a1 : Int) (a2 : Int) (a3 : Int) (a4 : Int) (b0 : Int) (h : qH) (k5_h : ∀ (x0 : Int) (x1 : Int) (x2 : Int) (x3 : Int) (hx : qH), Fp (fun _ _ => False) hx (k5 x0 x1 x2 x3 hx)) : Fp (fun _ _ => False) h (DX10_stateSet_b86 k5 a1 a2 a3 a4 b0 h) := by
  unfold DX10_stateSet_b86
  refine Fp_ite (fun gc => ?_) (fun gc => ?_)
  · refine Fp_ite (fun gc => ?_) (fun gc => ?_)
    · exact (k5_h a1 a2 a3 (qw (a4 + 1)) h)
    · refine Fp_ite (fun gc => ?_) (fun gc => ?_)
      · exact (k5_h a1 a2 a3 (qw (a4 + 1)) h)
      · refine Fp_let (fun v3 => ?_)
        exact (k5_h a1 a2 v3 (qw (a4 + 1)) h)
  · exact Fp_none
theorem F_DX10_stateSet_l5   : ∀ (n : Nat) (a1 : Int) (a2 : Int) (a3 : Int) (a4 : Int) (h : qH), Fp (fun _ _ => False) h (DX10_stateSet_l5  n a1 a2 a3 a4 h) := by
  intro n
  induction n with
  | zero =>
    intro a1 a2 a3 a4 h
    exact Fp_none
  | succ n ih =>
    intro a1 a2 a3 a4 h
    rw [DX10_stateSet_l5.eq_2]
    refine Fp_ite (fun gc => ?_) (fun gc => ?_)
    · exact Fp_some
    · refine Fp_ite (fun gc => ?_) (fun gc => ?_)
      · refine Fp_ite (fun gc => ?_) (fun gc => ?_)
        · refine Fp_ite (fun gc => ?_) (fun gc => ?_)
          · exact (F_DX10_stateSet_b86 (DX10_stateSet_l5 n) a1 a2 a3 a4 0 h (fun x0 x1 x2 x3 hx => ih x0 x1 x2 x3 hx))
          · exact (F_DX10_stateSet_b86 (DX10_stateSet_l5 n) a1 a2 a3 a4 1 h (fun x0 x1 x2 x3 hx => ih x0 x1 x2 x3 hx))
        · exact Fp_none
      · refine Fp_ite (fun gc => ?_) (fun gc => ?_)
        · refine Fp_ite (fun gc => ?_) (fun gc => ?_)
          · refine Fp_ite (fun gc => ?_) (fun gc => ?_)
            · exact (F_DX10_stateSet_b86 (DX10_stateSet_l5 n) a1 a2 a3 a4 0 h (fun x0 x1 x2 x3 hx => ih x0 x1 x2 x3 hx))
            · exact (F_DX10_stateSet_b86 (DX10_stateSet_l5 n) a1 a2 a3 a4 1 h (fun x0 x1 x2 x3 hx => ih x0 x1 x2 x3 hx))
          · exact Fp_none
        · exact Fp_none
theorem F_DX10_stateSet  (a1 : Int) (a2 : Int) (h : qH)  : Fp (fun _ _ => False) h (DX10_stateSet a1 a2 h) := by
  unfold DX10_stateSet
  exact (F_DX10_stateSet_l5 LF a1 a2 0 0 h)
theorem F_DX10_shore  (a1 : Int) (a2 : Int) (h : qH)  : Fp (fun (i k : Nat) => (i = 212 ∧ k = 0)) h (DX10_shore a1 a2 h) := by
  unfold DX10_shore
  refine Fp_qu (by first | omega | (simp only []; omega)) (fun h1 => ?_)
  refine Fp_bd ((F_DX10_isShore a1 h1).mono (fun i k g => g.elim)) (fun r2 h3 => ?_)
  refine Fp_ite (fun gc => ?_) (fun gc => ?_)
  · refine Fp_ite (fun gc => ?_) (fun gc => ?_)
    · refine Fp_ite (fun gc => ?_) (fun gc => ?_)
      · exact Fp_some
      · exact Fp_none
    · refine Fp_ite (fun gc => ?_) (fun gc => ?_)
      · refine Fp_ite (fun gc => ?_) (fun gc => ?_)
        · exact Fp_some
        · exact Fp_none
      · refine Fp_ite (fun gc => ?_) (fun gc => ?_)
        · refine Fp_ite (fun gc => ?_) (fun gc => ?_)
          · exact Fp_some
          · exact Fp_none
        · refine Fp_ite (fun gc => ?_) (fun gc => ?_)
          · refine Fp_bd ((F_DX10_throwsTo a1 h3).mono (fun i k g => g.elim)) (fun r15 h16 => ?_)
            exact Fp_some
          · refine Fp_ite (fun gc => ?_) (fun gc => ?_)
            · refine Fp_bd ((F_DX10_stateSet a1 1 h3).mono (fun i k g => g.elim)) (fun r19 h20 => ?_)
              exact Fp_some
            · refine Fp_ite (fun gc => ?_) (fun gc => ?_)
              · refine Fp_bd ((F_DX10_stateSet a1 2 h3).mono (fun i k g => g.elim)) (fun r23 h24 => ?_)
                exact Fp_some
              · exact Fp_some
  · exact Fp_some
theorem F_DX10_storm_b122 (k59 : Int → Int → Int → Int → qH → Option (Int × qH)) (a1 : Int) (a2 : Int) (a3 : Int) (a4 : Int) (a5 : Int) (h : qH) (k59_h : ∀ (x0 : Int) (x1 : Int) (x2 : Int) (x3 : Int) (hx : qH), Fp (fun (i k : Nat) => (i = 212 ∧ k = 0) ∨ i = 213 ∨ i = 219) hx (k59 x0 x1 x2 x3 hx)) : Fp (fun (i k : Nat) => (i = 212 ∧ k = 0) ∨ i = 213 ∨ i = 219) h (DX10_storm_b122 k59 a1 a2 a3 a4 a5 h) := by
  unfold DX10_storm_b122
  refine Fp_ite (fun gc => ?_) (fun gc => ?_)
  · refine Fp_ite (fun gc => ?_) (fun gc => ?_)
    · refine Fp_qu (by first | omega | (simp only []; omega)) (fun h1 => ?_)
      refine Fp_let (fun v2 => ?_)
      exact (k59_h a1 a2 v2 (qw (a4 + 1)) h1)
    · exact Fp_none
  · refine Fp_ite (fun gc => ?_) (fun gc => ?_)
    · refine Fp_qu (by first | omega | (simp only []; omega)) (fun h3 => ?_)
      refine Fp_let (fun v4 => ?_)
      exact (k59_h a1 a2 v4 (qw (a4 + 1)) h3)
    · exact Fp_none
theorem F_DX10_storm_l59   : ∀ (n : Nat) (a1 : Int) (a2 : Int) (a3 : Int) (a4 : Int) (h : qH), Fp (fun (i k : Nat) => (i = 212 ∧ k = 0) ∨ i = 213 ∨ i = 219) h (DX10_storm_l59  n a1 a2 a3 a4 h) := by
  intro n
  induction n with
  | zero =>
    intro a1 a2 a3 a4 h
    exact Fp_none
  | succ n ih =>
    intro a1 a2 a3 a4 h
    rw [DX10_storm_l59.eq_2]
    refine Fp_ite (fun gc => ?_) (fun gc => ?_)
    · refine Fp_ite (fun gc => ?_) (fun gc => ?_)
      · exact Fp_some
      · refine Fp_bd ((F_DX10_notes h).mono (fun i k g => by omega)) (fun r7 h8 => ?_)
        exact Fp_some
    · refine Fp_ite (fun gc => ?_) (fun gc => ?_)
      · refine Fp_let (fun v12 => ?_)
        refine Fp_ite (fun gc => ?_) (fun gc => ?_)
        · refine Fp_ite (fun gc => ?_) (fun gc => ?_)
          · exact (ih a1 a2 a3 (qw (a4 + 1)) h)
          · refine Fp_ite (fun gc => ?_) (fun gc => ?_)
            · exact (F_DX10_storm_b122 (DX10_storm_l59 n) a1 a2 a3 a4 v12 h (fun x0 x1 x2 x3 hx => ih x0 x1 x2 x3 hx))
            · refine Fp_ite (fun gc => ?_) (fun gc => ?_)
              · exact (F_DX10_storm_b122 (DX10_storm_l59 n) a1 a2 a3 a4 v12 h (fun x0 x1 x2 x3 hx => ih x0 x1 x2 x3 hx))
              · exact (ih a1 a2 a3 (qw (a4 + 1)) h)
        · exact Fp_none
      · exact Fp_none
theorem F_DX10_storm  (a1 : Int) (a2 : Int) (h : qH)  : Fp (fun (i k : Nat) => (i = 212 ∧ k = 0) ∨ i = 213 ∨ i = 219) h (DX10_storm a1 a2 h) := by
  unfold DX10_storm
  refine Fp_qu (by first | omega | (simp only []; omega)) (fun h15 => ?_)
  refine Fp_bd ((F_DX10_isCell a1 h15).mono (fun i k g => g.elim)) (fun r16 h17 => ?_)
  refine Fp_ite (fun gc => ?_) (fun gc => ?_)
  · exact Fp_some
  · refine Fp_bd ((F_DX10_isCell a2 h17).mono (fun i k g => g.elim)) (fun r19 h20 => ?_)
    refine Fp_ite (fun gc => ?_) (fun gc => ?_)
    · exact Fp_some
    · refine Fp_ite (fun gc => ?_) (fun gc => ?_)
      · refine Fp_bd ((F_DX10_isOpen a1 h20).mono (fun i k g => g.elim)) (fun r22 h23 => ?_)
        refine Fp_ite (fun gc => ?_) (fun gc => ?_)
        · exact Fp_some
        · refine Fp_bd ((F_DX10_isOpen a2 h23).mono (fun i k g => g.elim)) (fun r25 h26 => ?_)
          refine Fp_ite (fun gc => ?_) (fun gc => ?_)
          · refine Fp_bd ((F_DX10_keepsAll h26).mono (fun i k g => by omega)) (fun r28 h29 => ?_)
            exact (F_DX10_storm_l59 LF a1 a2 0 0 h29)
          · exact Fp_some
      · exact Fp_some
theorem F_DX10_suspects  (a1 : Int) (h : qH)  : Fp (fun (i k : Nat) => (i = 212 ∧ k = 0) ∨ (i = 212 ∧ k = 18) ∨ (i = 212 ∧ 30 ≤ k ∧ k ≤ 35) ∨ (217 ≤ i ∧ i ≤ 218)) h (DX10_suspects a1 h) := by
  unfold DX10_suspects
  refine Fp_qu (by first | omega | (simp only []; omega)) (fun h1 => ?_)
  refine Fp_bd ((F_DX10_noSeen a1 h1).mono (fun i k g => g.elim)) (fun r2 h3 => ?_)
  refine Fp_ite (fun gc => ?_) (fun gc => ?_)
  · refine Fp_bd ((F_DX10_laysFits a1 (-1) h3).mono (fun i k g => by rcases g with g | g | g <;> omega)) (fun r5 h6 => ?_)
    exact Fp_some
  · exact Fp_some
theorem F_DX10_thrower  (a1 : Int) (a2 : Int) (a3 : Int) (h : qH)  : Fp (fun (i k : Nat) => (i = 212 ∧ k = 0) ∨ (i = 212 ∧ k = 18) ∨ (i = 212 ∧ 30 ≤ k ∧ k ≤ 35) ∨ (217 ≤ i ∧ i ≤ 218)) h (DX10_thrower a1 a2 a3 h) := by
  unfold DX10_thrower
  refine Fp_qu (by first | omega | (simp only []; omega)) (fun h1 => ?_)
  refine Fp_bd ((F_DX10_within a3 0 3 h1).mono (fun i k g => g.elim)) (fun r2 h3 => ?_)
  refine Fp_ite (fun gc => ?_) (fun gc => ?_)
  · refine Fp_bd ((F_DX10_noSeen a1 h3).mono (fun i k g => g.elim)) (fun r5 h6 => ?_)
    refine Fp_ite (fun gc => ?_) (fun gc => ?_)
    · refine Fp_ite (fun gc => ?_) (fun gc => ?_)
      · refine Fp_bd ((F_DX10_laysFits a1 a2 h6).mono (fun i k g => by rcases g with g | g | g <;> omega)) (fun r8 h9 => ?_)
        refine Fp_ite (fun gc => ?_) (fun gc => ?_)
        · refine Fp_ite (fun gc => ?_) (fun gc => ?_)
          · refine Fp_ite (fun gc => ?_) (fun gc => ?_)
            · refine Fp_ite (fun gc => ?_) (fun gc => ?_)
              · exact Fp_some
              · exact Fp_some
            · exact Fp_some
          · exact Fp_some
        · refine Fp_ite (fun gc => ?_) (fun gc => ?_)
          · exact Fp_some
          · exact Fp_some
      · exact Fp_some
    · exact Fp_some
  · exact Fp_some
theorem F_DX10_throwsIt  (a1 : Int) (a2 : Int) (a3 : Int) (h : qH)  : Fp (fun (i k : Nat) => (i = 212 ∧ k = 0) ∨ i = 213 ∨ i = 217 ∨ i = 219) h (DX10_throwsIt a1 a2 a3 h) := by
  unfold DX10_throwsIt
  refine Fp_qu (by first | omega | (simp only []; omega)) (fun h1 => ?_)
  refine Fp_bd ((F_DX10_whyThrow a1 a2 h1).mono (fun i k g => g.elim)) (fun r2 h3 => ?_)
  refine Fp_ite (fun gc => ?_) (fun gc => ?_)
  · refine Fp_bd ((F_DX10_keepsAll h3).mono (fun i k g => by omega)) (fun r5 h6 => ?_)
    refine Fp_bd ((F_DX10_throwsOne a1 a2 a3 h6).mono (fun i k g => by rcases g with g | g <;> omega)) (fun r8 h9 => ?_)
    refine Fp_bd ((F_DX10_notes h9).mono (fun i k g => by omega)) (fun r11 h12 => ?_)
    exact Fp_some
  · exact Fp_some
theorem F_DX10_tides_l28   : ∀ (n : Nat) (a1 : Int) (a2 : Int) (a3 : Int) (h : qH), Fp (fun (i k : Nat) => (i = 212 ∧ k = 0) ∨ (i = 212 ∧ k = 18) ∨ i = 213 ∨ (217 ≤ i ∧ i ≤ 219)) h (DX10_tides_l28  n a1 a2 a3 h) := by
  intro n
  induction n with
  | zero =>
    intro a1 a2 a3 h
    exact Fp_none
  | succ n ih =>
    intro a1 a2 a3 h
    rw [DX10_tides_l28.eq_2]
    refine Fp_ite (fun gc => ?_) (fun gc => ?_)
    · refine Fp_bd ((F_DX10_notes h).mono (fun i k g => by omega)) (fun r1 h2 => ?_)
      exact Fp_some
    · refine Fp_bd ((F_DX10_tide h).mono (fun i k g => by rcases g with g | g | g <;> omega)) (fun r4 h5 => ?_)
      refine Fp_let (fun v7 => ?_)
      exact (ih a1 v7 (qw (a3 + 1)) h5)
theorem F_DX10_tides  (a1 : Int) (h : qH)  : Fp (fun (i k : Nat) => (i = 212 ∧ k = 0) ∨ (i = 212 ∧ k = 18) ∨ i = 213 ∨ (217 ≤ i ∧ i ≤ 219)) h (DX10_tides a1 h) := by
  unfold DX10_tides
  refine Fp_qu (by first | omega | (simp only []; omega)) (fun h8 => ?_)
  refine Fp_bd ((F_DX10_within a1 1 99 h8).mono (fun i k g => g.elim)) (fun r9 h10 => ?_)
  refine Fp_ite (fun gc => ?_) (fun gc => ?_)
  · refine Fp_bd ((F_DX10_keepsAll h10).mono (fun i k g => by omega)) (fun r12 h13 => ?_)
    exact (F_DX10_tides_l28 LF a1 0 0 h13)
  · exact Fp_some
theorem F_DX10_undo_l46   : ∀ (n : Nat) (a2 : Int) (h : qH), Fp (fun (i k : Nat) => (i = 212 ∧ k = 0) ∨ i = 213) h (DX10_undo_l46  n a2 h) := by
  intro n
  induction n with
  | zero =>
    intro a2 h
    exact Fp_none
  | succ n ih =>
    intro a2 h
    rw [DX10_undo_l46.eq_2]
    refine Fp_ite (fun gc => ?_) (fun gc => ?_)
    · exact Fp_some
    · refine Fp_ite (fun gc => ?_) (fun gc => ?_)
      · refine Fp_ite (fun gc => ?_) (fun gc => ?_)
        · refine Fp_qu (by first | omega | (simp only []; omega)) (fun h7 => ?_)
          exact (ih (qw (a2 + 1)) h7)
        · exact Fp_none
      · exact Fp_none
theorem F_DX10_undo  (a1 : Int) (h : qH)  : Fp (fun (i k : Nat) => (i = 212 ∧ k = 0) ∨ i = 213) h (DX10_undo a1 h) := by
  unfold DX10_undo
  refine Fp_qu (by first | omega | (simp only []; omega)) (fun h8 => ?_)
  refine Fp_bd ((F_DX10_within a1 1 10 h8).mono (fun i k g => g.elim)) (fun r9 h10 => ?_)
  refine Fp_ite (fun gc => ?_) (fun gc => ?_)
  · exact Fp_some
  · refine Fp_ite (fun gc => ?_) (fun gc => ?_)
    · refine Fp_qu (by first | omega | (simp only []; omega)) (fun h16 => ?_)
      exact (F_DX10_undo_l46 LF 0 h16)
    · exact Fp_some
theorem F_DX10_whereIn_l39   : ∀ (n : Nat) (a2 : Int) (a3 : Int) (h : qH), Fp (fun (i k : Nat) => (i = 212 ∧ k = 0) ∨ (i = 212 ∧ k = 18) ∨ (217 ≤ i ∧ i ≤ 218)) h (DX10_whereIn_l39  n a2 a3 h) := by
  intro n
  induction n with
  | zero =>
    intro a2 a3 h
    exact Fp_none
  | succ n ih =>
    intro a2 a3 h
    rw [DX10_whereIn_l39.eq_2]
    refine Fp_ite (fun gc => ?_) (fun gc => ?_)
    · refine Fp_bd ((F_DX10_here h).mono (fun i k g => g.elim)) (fun r1 h2 => ?_)
      exact Fp_some
    · refine Fp_bd ((F_DX10_goesTide (qw (h.1 213 349 + a3)) 0 h).mono (fun i k g => by rcases g with g | g <;> omega)) (fun r6 h7 => ?_)
      exact (ih a2 (qw (a3 + 1)) h7)
theorem F_DX10_whereIn  (a1 : Int) (a2 : Int) (h : qH)  : Fp (fun (i k : Nat) => (i = 212 ∧ k = 0) ∨ (i = 212 ∧ k = 18) ∨ (217 ≤ i ∧ i ≤ 218)) h (DX10_whereIn a1 a2 h) := by
  unfold DX10_whereIn
  refine Fp_qu (by first | omega | (simp only []; omega)) (fun h9 => ?_)
  refine Fp_bd ((F_DX10_isBottle a1 h9).mono (fun i k g => g.elim)) (fun r10 h11 => ?_)
  refine Fp_ite (fun gc => ?_) (fun gc => ?_)
  · refine Fp_bd ((F_DX10_within a2 0 200 h11).mono (fun i k g => g.elim)) (fun r13 h14 => ?_)
    refine Fp_ite (fun gc => ?_) (fun gc => ?_)
    · refine Fp_bd ((F_DX10_loads a1 h14).mono (fun i k g => by omega)) (fun r16 h17 => ?_)
      exact (F_DX10_whereIn_l39 LF a2 0 h17)
    · exact Fp_some
  · exact Fp_some
theorem F_DX10_wind  (a1 : Int) (a2 : Int) (h : qH)  : Fp (fun (i k : Nat) => (i = 212 ∧ k = 0) ∨ i = 218) h (DX10_wind a1 a2 h) := by
  unfold DX10_wind
  refine Fp_qu (by first | omega | (simp only []; omega)) (fun h1 => ?_)
  refine Fp_bd ((F_DX10_isCell a1 h1).mono (fun i k g => g.elim)) (fun r2 h3 => ?_)
  refine Fp_ite (fun gc => ?_) (fun gc => ?_)
  · refine Fp_bd ((F_DX10_within a2 0 999 h3).mono (fun i k g => g.elim)) (fun r5 h6 => ?_)
    refine Fp_ite (fun gc => ?_) (fun gc => ?_)
    · exact Fp_some
    · refine Fp_bd ((F_DX10_windOf a1 (qw (h6.1 213 349 + a2)) h6).mono (fun i k g => by omega)) (fun r10 h11 => ?_)
      exact Fp_some
  · exact Fp_some
theorem F_DX10_without  (a1 : Int) (a2 : Int) (a3 : Int) (h : qH)  : Fp (fun (i k : Nat) => (i = 212 ∧ k = 0) ∨ (i = 212 ∧ 18 ≤ k ∧ k ≤ 19) ∨ (i = 212 ∧ 23 ≤ k ∧ k ≤ 25) ∨ (217 ≤ i ∧ i ≤ 218)) h (DX10_without a1 a2 a3 h) := by
  unfold DX10_without
  refine Fp_qu (by first | omega | (simp only []; omega)) (fun h1 => ?_)
  refine Fp_bd ((F_DX10_noThrow a1 a2 h1).mono (fun i k g => g.elim)) (fun r2 h3 => ?_)
  refine Fp_ite (fun gc => ?_) (fun gc => ?_)
  · exact Fp_some
  · refine Fp_ite (fun gc => ?_) (fun gc => ?_)
    · exact Fp_some
    · refine Fp_bd ((F_DX10_isShore a3 h3).mono (fun i k g => g.elim)) (fun r5 h6 => ?_)
      refine Fp_ite (fun gc => ?_) (fun gc => ?_)
      · exact Fp_some
      · refine Fp_ite (fun gc => ?_) (fun gc => ?_)
        · exact Fp_some
        · refine Fp_ite (fun gc => ?_) (fun gc => ?_)
          · refine Fp_bd ((F_DX10_throwsTo a1 h6).mono (fun i k g => g.elim)) (fun r8 h9 => ?_)
            refine Fp_ite (fun gc => ?_) (fun gc => ?_)
            · refine Fp_bd ((F_DX10_bestFrom a1 a2 (h9.1 213 349) h9).mono (fun i k g => by rcases g with g | g | g <;> omega)) (fun r13 h14 => ?_)
              refine Fp_qu (by first | omega | (simp only []; omega)) (fun h16 => ?_)
              refine Fp_bd ((F_DX10_bestFrom a1 a2 (h16.1 213 349) h16).mono (fun i k g => by rcases g with g | g | g <;> omega)) (fun r19 h20 => ?_)
              refine Fp_qu (by first | omega | (simp only []; omega)) (fun h22 => ?_)
              refine Fp_ite (fun gc => ?_) (fun gc => ?_)
              · exact Fp_some
              · refine Fp_ite (fun gc => ?_) (fun gc => ?_)
                · exact Fp_some
                · exact Fp_some
            · exact Fp_some
          · exact Fp_some
theorem F_DX10_write  (a1 : Int) (a2 : Int) (a3 : Int) (h : qH)  : Fp (fun (i k : Nat) => (i = 212 ∧ k = 0) ∨ i = 224) h (DX10_write a1 a2 a3 h) := by
  unfold DX10_write
  refine Fp_qu (by first | omega | (simp only []; omega)) (fun h1 => ?_)
  refine Fp_bd ((F_DX10_noTray a1 h1).mono (fun i k g => g.elim)) (fun r2 h3 => ?_)
  refine Fp_ite (fun gc => ?_) (fun gc => ?_)
  · refine Fp_ite (fun gc => ?_) (fun gc => ?_)
    · refine Fp_bd ((F_DX10_within a2 0 (qw (h3.1 223 a1.toNat - 1)) h3).mono (fun i k g => g.elim)) (fun r7 h8 => ?_)
      refine Fp_ite (fun gc => ?_) (fun gc => ?_)
      · refine Fp_ite (fun gc => ?_) (fun gc => ?_)
        · refine Fp_bd ((F_DX10_cut a3 (h8.1 222 a1.toNat) h8).mono (fun i k g => g.elim)) (fun r12 h13 => ?_)
          refine Fp_ite (fun gc => ?_) (fun gc => ?_)
          · refine Fp_qu (by first | omega | (simp only []; omega)) (fun h15 => ?_)
            refine Fp_ite (fun gc => ?_) (fun gc => ?_)
            · exact Fp_some
            · exact Fp_none
          · exact Fp_none
        · exact Fp_none
      · exact Fp_some
    · exact Fp_none
  · exact Fp_some
