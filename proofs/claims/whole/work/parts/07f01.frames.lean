/-! ===== frames, printed by wip/whole/gen/gen_frames.py ===== -/
theorem F_DX7_takeFrom_l18   : ∀ (n : Nat) (i0 : Nat) (i1 : Nat) (a2 : Int) (h : qH), Fp (fun (i k : Nat) => i = i0 ∨ (i0 + 2 ≤ i ∧ i ≤ i0 + 9)) h (DX7_takeFrom_l18  n i0 i1 a2 h) := by
  intro n
  induction n with
  | zero =>
    intro i0 i1 a2 h
    exact Fp_none
  | succ n ih =>
    intro i0 i1 a2 h
    rw [DX7_takeFrom_l18.eq_2]
    refine Fp_ite (fun gc => ?_) (fun gc => ?_)
    · exact Fp_some
    · refine Fp_ite (fun gc => ?_) (fun gc => ?_)
      · exact Fp_some
      · refine Fp_ite (fun gc => ?_) (fun gc => ?_)
        · refine Fp_ite (fun gc => ?_) (fun gc => ?_)
          · refine Fp_bd ((F_DX0_takeFrom (i0 + 2 + a2.toNat) (i1 + 2 + a2.toNat) h).mono (fun i k g => by omega)) (fun r5 h6 => ?_)
            exact (ih i0 i1 (qw (a2 + 1)) h6)
          · exact Fp_none
        · exact Fp_none
theorem F_DX7_takeFrom  (i0 : Nat) (i1 : Nat) (h : qH)  : Fp (fun (i k : Nat) => i = i0 ∨ (i0 + 2 ≤ i ∧ i ≤ i0 + 9)) h (DX7_takeFrom i0 i1 h) := by
  unfold DX7_takeFrom
  refine Fp_qu (by first | omega | (simp only []; omega)) (fun h8 => ?_)
  refine Fp_qu (by first | omega | (simp only []; omega)) (fun h9 => ?_)
  exact (F_DX7_takeFrom_l18 LF i0 i1 0 h9)
theorem F_DX9_image  (a1 : Int) (h : qH)  : Fp (fun (i k : Nat) => i = 167 ∨ (176 ≤ i ∧ i ≤ 211)) h (DX9_image a1 h) := by
  unfold DX9_image
  refine Fp_ite (fun gc => ?_) (fun gc => ?_)
  · exact Fp_some
  · refine Fp_ite (fun gc => ?_) (fun gc => ?_)
    · refine Fp_ite (fun gc => ?_) (fun gc => ?_)
      · refine Fp_bd ((F_DX1_takeFrom (176 + 18 * a1.toNat) 5 h).mono (fun i k g => by omega)) (fun r3 h4 => ?_)
        refine Fp_ite (fun gc => ?_) (fun gc => ?_)
        · refine Fp_bd ((F_DX7_takeFrom (184 + 18 * a1.toNat) 24 h4).mono (fun i k g => by rcases g with g | g <;> omega)) (fun r8 h9 => ?_)
          refine Fp_ite (fun gc => ?_) (fun gc => ?_)
          · refine Fp_qu (by first | omega | (simp only []; omega)) (fun h11 => ?_)
            exact Fp_some
          · exact Fp_none
        · exact Fp_none
      · exact Fp_none
    · exact Fp_some
theorem F_DX9_isTray  (a0 : Int) (h : qH)  : Fp (fun _ _ => False) h (DX9_isTray a0 h) := by
  unfold DX9_isTray
  refine Fp_ite (fun gc => ?_) (fun gc => ?_)
  · exact Fp_some
  · refine Fp_ite (fun gc => ?_) (fun gc => ?_)
    · exact Fp_some
    · exact Fp_some
theorem F_DX6_missing  (i0 : Nat) (h : qH)  : Fp (fun _ _ => False) h (DX6_missing i0 h) := by
  unfold DX6_missing
  refine Fp_ite (fun gc => ?_) (fun gc => ?_)
  · exact Fp_some
  · exact Fp_some
theorem F_DX9_judge_b78  (a1 : Int) (a2 : Int) (a3 : Int) (b0 : Int) (h : qH)  : Fp (fun (i k : Nat) => (14 ≤ i ∧ i ≤ 15) ∨ i = 34 ∨ (36 ≤ i ∧ i ≤ 43) ∨ i = 225) h (DX9_judge_b78 a1 a2 a3 b0 h) := by
  unfold DX9_judge_b78
  refine Fp_ite (fun gc => ?_) (fun gc => ?_)
  · refine Fp_ite (fun gc => ?_) (fun gc => ?_)
    · exact Fp_some
    · exact Fp_some
  · refine Fp_ite (fun gc => ?_) (fun gc => ?_)
    · refine Fp_ite (fun gc => ?_) (fun gc => ?_)
      · refine Fp_ite (fun gc => ?_) (fun gc => ?_)
        · refine Fp_bd ((F_DX6_numberAt (168 + 2 * a1.toNat) a3 h).mono (fun i k g => g.elim)) (fun r5 h6 => ?_)
          refine Fp_bd ((F_DX9_whyNotDone 34 r5 h6).mono (fun i k g => g.elim)) (fun r8 h9 => ?_)
          exact Fp_some
        · exact Fp_none
      · exact Fp_some
    · refine Fp_ite (fun gc => ?_) (fun gc => ?_)
      · exact Fp_some
      · refine Fp_bd ((F_DX7_countOf 34 2 h).mono (fun i k g => g.elim)) (fun r12 h13 => ?_)
        exact Fp_some
theorem F_DX9_judge  (a1 : Int) (a2 : Int) (h : qH)  : Fp (fun (i k : Nat) => (14 ≤ i ∧ i ≤ 15) ∨ i = 34 ∨ (36 ≤ i ∧ i ≤ 43) ∨ i = 225) h (DX9_judge a1 a2 h) := by
  unfold DX9_judge
  refine Fp_bd ((F_DX9_isTray a1 h).mono (fun i k g => g.elim)) (fun r15 h16 => ?_)
  refine Fp_ite (fun gc => ?_) (fun gc => ?_)
  · exact Fp_some
  · refine Fp_ite (fun gc => ?_) (fun gc => ?_)
    · exact Fp_some
    · refine Fp_ite (fun gc => ?_) (fun gc => ?_)
      · refine Fp_ite (fun gc => ?_) (fun gc => ?_)
        · refine Fp_bd ((F_DX6_missing (168 + 2 * a1.toNat) h16).mono (fun i k g => g.elim)) (fun r20 h21 => ?_)
          refine Fp_ite (fun gc => ?_) (fun gc => ?_)
          · refine Fp_bd ((F_DX7_takeFrom 34 24 h21).mono (fun i k g => by rcases g with g | g <;> omega)) (fun r23 h24 => ?_)
            refine Fp_ite (fun gc => ?_) (fun gc => ?_)
            · refine Fp_bd ((F_DX9_doAll 34 (168 + 2 * a1.toNat) h24).mono (fun i k g => by rcases g with g | g | g | g <;> omega)) (fun r28 h29 => ?_)
              refine Fp_ite (fun gc => ?_) (fun gc => ?_)
              · refine Fp_ite (fun gc => ?_) (fun gc => ?_)
                · exact (F_DX9_judge_b78 a1 a2 r28 0 h29)
                · exact (F_DX9_judge_b78 a1 a2 r28 1 h29)
              · exact Fp_none
            · exact Fp_none
          · exact Fp_some
        · exact Fp_none
      · exact Fp_some
theorem F_DX9_keeper_b19  (a1 : Int) (a2 : Int) (a3 : Int) (a4 : Int) (b0 : Int) (h : qH)  : Fp (fun (i k : Nat) => (13 ≤ i ∧ i ≤ 15) ∨ (225 ≤ i ∧ i ≤ 226)) h (DX9_keeper_b19 a1 a2 a3 a4 b0 h) := by
  unfold DX9_keeper_b19
  refine Fp_ite (fun gc => ?_) (fun gc => ?_)
  · refine Fp_ite (fun gc => ?_) (fun gc => ?_)
    · exact Fp_some
    · refine Fp_ite (fun gc => ?_) (fun gc => ?_)
      · refine Fp_ite (fun gc => ?_) (fun gc => ?_)
        · refine Fp_bd (F_DX2_outcome a1 a2 a3 (qw (h.1 24 2 + a4)) h) (fun r1 h2 => ?_)
          refine Fp_bd ((F_DX2_keeperOf r1 h2).mono (fun i k g => g.elim)) (fun r4 h5 => ?_)
          exact Fp_some
        · exact Fp_some
      · exact Fp_some
  · exact Fp_some
theorem F_DX9_keeper  (a1 : Int) (a2 : Int) (a3 : Int) (a4 : Int) (h : qH)  : Fp (fun (i k : Nat) => (13 ≤ i ∧ i ≤ 15) ∨ (225 ≤ i ∧ i ≤ 226)) h (DX9_keeper a1 a2 a3 a4 h) := by
  unfold DX9_keeper
  refine Fp_ite (fun gc => ?_) (fun gc => ?_)
  · refine Fp_bd ((F_DX9_pairCode a1 a2 h).mono (fun i k g => g.elim)) (fun r7 h8 => ?_)
    exact (F_DX9_keeper_b19 a1 a2 a3 a4 r7 h8)
  · refine Fp_bd ((F_DX9_throwerCode a1 h).mono (fun i k g => g.elim)) (fun r10 h11 => ?_)
    exact (F_DX9_keeper_b19 a1 a2 a3 a4 r10 h11)
theorem F_DX9_keepers_l17   : ∀ (n : Nat) (a1 : Int) (a2 : Int) (a3 : Int) (h : qH), Fp (fun (i k : Nat) => (13 ≤ i ∧ i ≤ 15) ∨ (225 ≤ i ∧ i ≤ 226)) h (DX9_keepers_l17  n a1 a2 a3 h) := by
  intro n
  induction n with
  | zero =>
    intro a1 a2 a3 h
    exact Fp_none
  | succ n ih =>
    intro a1 a2 a3 h
    rw [DX9_keepers_l17.eq_2]
    refine Fp_ite (fun gc => ?_) (fun gc => ?_)
    · exact Fp_some
    · refine Fp_bd (F_DX2_outcome a3 (-1) 0 (qw (h.1 24 2 + a1)) h) (fun r1 h2 => ?_)
      refine Fp_bd ((F_DX2_keeperOf r1 h2).mono (fun i k g => g.elim)) (fun r4 h5 => ?_)
      refine Fp_ite (fun gc => ?_) (fun gc => ?_)
      · exact (ih a1 a2 (qw (a3 + 1)) h5)
      · refine Fp_let (fun v7 => ?_)
        exact (ih a1 v7 (qw (a3 + 1)) h5)
theorem F_DX9_keepers  (a1 : Int) (h : qH)  : Fp (fun (i k : Nat) => (13 ≤ i ∧ i ≤ 15) ∨ (225 ≤ i ∧ i ≤ 226)) h (DX9_keepers a1 h) := by
  unfold DX9_keepers
  refine Fp_ite (fun gc => ?_) (fun gc => ?_)
  · exact Fp_some
  · refine Fp_ite (fun gc => ?_) (fun gc => ?_)
    · exact (F_DX9_keepers_l17 LF a1 0 0 h)
    · exact Fp_some
theorem F_DX3_commit  (h : qH)  : Fp (fun (i k : Nat) => (i = 44 ∧ 1 ≤ k ∧ k ≤ 2)) h (DX3_commit h) := by
  unfold DX3_commit
  refine Fp_ite (fun gc => ?_) (fun gc => ?_)
  · refine Fp_bd ((F_DJ9_floorMod_7cf53 (qw (h.1 44 1 + 1)) 11 h).mono (fun i k g => g.elim)) (fun r1 h2 => ?_)
    refine Fp_qu (by first | omega | (simp only []; omega)) (fun h4 => ?_)
    exact Fp_some
  · refine Fp_qu (by first | omega | (simp only []; omega)) (fun h5 => ?_)
    exact Fp_some
theorem F_DX3_slot  (a1 : Int) (h : qH)  : Fp (fun _ _ => False) h (DX3_slot a1 h) := by
  unfold DX3_slot
  refine Fp_bd ((F_DJ9_floorMod_7cf53 (qw (h.1 44 1 + a1)) 11 h).mono (fun i k g => g.elim)) (fun r1 h2 => ?_)
  refine Fp_ite (fun gc => ?_) (fun gc => ?_)
  · exact Fp_some
  · exact Fp_none
theorem Fx_slot {a : Int} {h h2 : qH} {r : Int} (e : DX3_slot a h = some (r, h2)) : 46 ≤ r.toNat ∧ r.toNat ≤ 146 := by
  unfold DX3_slot at e
  cases e2 : DJ9_floorMod_7cf53 (qw (h.1 44 1 + a)) 11 h with
  | none => rw [e2] at e; cases e
  | some q =>
    rw [e2] at e
    simp only [qbd] at e
    split at e
    · next g =>
      injection e with e; injection e with e3 e4
      rw [← e3]
      omega
    · cases e
theorem F_DX3_draft (i1 : Nat) (h : qH) : Fp (fun (i k : Nat) => (46 ≤ i ∧ i ≤ 155)) h (DX3_draft i1 h) := by
  unfold DX3_draft
  refine Fp_bdx ((F_DX3_slot (h.1 44 2) h).mono (fun i k g => g.elim)) (fun r1 h2 e => ?_)
  have hr := Fx_slot e
  refine Fp_bd ((F_DX7_takeFrom r1.toNat i1 h2).mono (fun i k g => by omega)) (fun r4 h5 => ?_)
  exact Fp_some
theorem F_DX9_lift  (a1 : Int) (h : qH)  : Fp (fun (i k : Nat) => (26 ≤ i ∧ i ≤ 33) ∨ (i = 44 ∧ 1 ≤ k ∧ k ≤ 2) ∨ (46 ≤ i ∧ i ≤ 155)) h (DX9_lift a1 h) := by
  unfold DX9_lift
  refine Fp_bd ((F_DX7_whyNotLifted 24 a1 h).mono (fun i k g => g.elim)) (fun r1 h2 => ?_)
  refine Fp_ite (fun gc => ?_) (fun gc => ?_)
  · exact Fp_some
  · refine Fp_bd ((F_DX7_has 24 a1 h2).mono (fun i k g => g.elim)) (fun r4 h5 => ?_)
    refine Fp_ite (fun gc => ?_) (fun gc => ?_)
    · refine Fp_bd ((F_DX3_draft 24 h5).mono (fun i k g => by omega)) (fun r7 h8 => ?_)
      refine Fp_bd ((F_DX3_commit h8).mono (fun i k g => by omega)) (fun r10 h11 => ?_)
      refine Fp_bd ((F_DX7_raise 24 a1 h11).mono (fun i k g => by omega)) (fun r13 h14 => ?_)
      refine Fp_ite (fun gc => ?_) (fun gc => ?_)
      · exact Fp_some
      · exact Fp_none
    · exact Fp_some
theorem F_DX6_cut  (i0 : Nat) (a1 : Int) (h : qH)  : Fp (fun _ _ => False) h (DX6_cut i0 a1 h) := by
  unfold DX6_cut
  refine Fp_ite (fun gc => ?_) (fun gc => ?_)
  · exact Fp_some
  · refine Fp_ite (fun gc => ?_) (fun gc => ?_)
    · exact Fp_some
    · refine Fp_ite (fun gc => ?_) (fun gc => ?_)
      · exact Fp_some
      · exact Fp_some
theorem F_DX6_put  (i0 : Nat) (a1 : Int) (a2 : Int) (h : qH)  : Fp (fun (i k : Nat) => i = i0 + 1) h (DX6_put i0 a1 a2 h) := by
  unfold DX6_put
  refine Fp_ite (fun gc => ?_) (fun gc => ?_)
  · exact Fp_some
  · refine Fp_ite (fun gc => ?_) (fun gc => ?_)
    · exact Fp_some
    · refine Fp_bd ((F_DX6_cut i0 a2 h).mono (fun i k g => g.elim)) (fun r1 h2 => ?_)
      refine Fp_ite (fun gc => ?_) (fun gc => ?_)
      · refine Fp_qu (by first | omega | (simp only []; omega)) (fun h4 => ?_)
        exact Fp_some
      · exact Fp_none
theorem F_DX9_lists_l57   : ∀ (n : Nat) (i3 : Nat) (a4 : Int) (h : qH) (_ : 168 ≤ i3 ∧ i3 ≤ 174), Fp (fun (i k : Nat) => (14 ≤ i ∧ i ≤ 15) ∨ i = 156 ∨ (169 ≤ i ∧ i ≤ 175) ∨ i = 225) h (DX9_lists_l57  n i3 a4 h) := by
  intro n
  induction n with
  | zero =>
    intro i3 a4 h gx0
    exact Fp_none
  | succ n ih =>
    intro i3 a4 h gx0
    rw [DX9_lists_l57.eq_2]
    refine Fp_ite (fun gc => ?_) (fun gc => ?_)
    · exact Fp_some
    · refine Fp_bd ((F_DX0_place 156 h).mono (fun i k g => g.elim)) (fun r1 h2 => ?_)
      refine Fp_bd ((F_DX6_put i3 a4 r1 h2).mono (fun i k g => by omega)) (fun r4 h5 => ?_)
      refine Fp_bd ((F_DX2_carry 156 (qw (h5.1 24 2 + a4)) h5).mono (fun i k g => by rcases g with g | g | g <;> omega)) (fun r7 h8 => ?_)
      exact (ih i3 (qw (a4 + 1)) h8 (by omega))
theorem F_DX9_lists  (a1 : Int) (a2 : Int) (h : qH)  : Fp (fun (i k : Nat) => (14 ≤ i ∧ i ≤ 15) ∨ i = 156 ∨ (169 ≤ i ∧ i ≤ 175) ∨ i = 225) h (DX9_lists a1 a2 h) := by
  unfold DX9_lists
  refine Fp_bd ((F_DX9_isTray a1 h).mono (fun i k g => g.elim)) (fun r10 h11 => ?_)
  refine Fp_ite (fun gc => ?_) (fun gc => ?_)
  · exact Fp_some
  · refine Fp_bd ((F_DX7_has 24 a2 h11).mono (fun i k g => g.elim)) (fun r13 h14 => ?_)
    refine Fp_ite (fun gc => ?_) (fun gc => ?_)
    · refine Fp_ite (fun gc => ?_) (fun gc => ?_)
      · refine Fp_bd ((F_DX6_missing (168 + 2 * a1.toNat) h14).mono (fun i k g => g.elim)) (fun r18 h19 => ?_)
        refine Fp_ite (fun gc => ?_) (fun gc => ?_)
        · refine Fp_ite (fun gc => ?_) (fun gc => ?_)
          · refine Fp_bd ((F_DX0_takeFrom 156 (26 + a2.toNat) h19).mono (fun i k g => by omega)) (fun r23 h24 => ?_)
            exact (F_DX9_lists_l57 LF (168 + 2 * a1.toNat) 0 h24 (by omega))
          · exact Fp_none
        · exact Fp_some
      · exact Fp_none
    · exact Fp_some
theorem F_DJ6_bitCount_0f7a4  (a0 : Int) (h : qH)  : Fp (fun _ _ => False) h (DJ6_bitCount_0f7a4 a0 h) := by
  unfold DJ6_bitCount_0f7a4
  refine Fp_let (fun v1 => ?_)
  refine Fp_let (fun v2 => ?_)
  refine Fp_let (fun v3 => ?_)
  refine Fp_let (fun v4 => ?_)
  refine Fp_let (fun v5 => ?_)
  exact Fp_some
theorem F_DX9_net_b76 (k39 : Int → Int → Int → Int → qH → Option (Int × qH)) (a2 : Int) (a3 : Int) (a4 : Int) (a5 : Int) (b0 : Int) (h : qH) (k39_h : ∀ (x0 : Int) (x1 : Int) (x2 : Int) (x3 : Int) (hx : qH), Fp (fun (i k : Nat) => (14 ≤ i ∧ i ≤ 15) ∨ i = 156 ∨ i = 163 ∨ i = 225) hx (k39 x0 x1 x2 x3 hx)) : Fp (fun (i k : Nat) => (14 ≤ i ∧ i ≤ 15) ∨ i = 156 ∨ i = 163 ∨ i = 225) h (DX9_net_b76 k39 a2 a3 a4 a5 b0 h) := by
  unfold DX9_net_b76
  refine Fp_ite (fun gc => ?_) (fun gc => ?_)
  · exact (k39_h a2 a3 a4 (qw (a5 + 1)) h)
  · exact (k39_h a2 a5 b0 (qw (a5 + 1)) h)
theorem F_DX9_net_l39   : ∀ (n : Nat) (a2 : Int) (a3 : Int) (a4 : Int) (a5 : Int) (h : qH), Fp (fun (i k : Nat) => (14 ≤ i ∧ i ≤ 15) ∨ i = 156 ∨ i = 163 ∨ i = 225) h (DX9_net_l39  n a2 a3 a4 a5 h) := by
  intro n
  induction n with
  | zero =>
    intro a2 a3 a4 a5 h
    exact Fp_none
  | succ n ih =>
    intro a2 a3 a4 a5 h
    rw [DX9_net_l39.eq_2]
    refine Fp_bd ((F_DX1_cells 5 h).mono (fun i k g => g.elim)) (fun r1 h2 => ?_)
    refine Fp_ite (fun gc => ?_) (fun gc => ?_)
    · refine Fp_ite (fun gc => ?_) (fun gc => ?_)
      · exact Fp_some
      · exact Fp_some
    · refine Fp_bd ((F_DX1_isOpen 5 a5 h2).mono (fun i k g => g.elim)) (fun r4 h5 => ?_)
      refine Fp_ite (fun gc => ?_) (fun gc => ?_)
      · exact (F_DX9_net_b76 (DX9_net_l39 n) a2 a3 a4 a5 (-1) h5 (fun x0 x1 x2 x3 hx => ih x0 x1 x2 x3 hx))
      · refine Fp_bd ((F_DX9_caughtOn a5 h5).mono (fun i k g => g.elim)) (fun r7 h8 => ?_)
        refine Fp_bd ((F_DJ6_bitCount_0f7a4 r7 h8).mono (fun i k g => g.elim)) (fun r10 h11 => ?_)
        exact (F_DX9_net_b76 (DX9_net_l39 n) a2 a3 a4 a5 r10 h11 (fun x0 x1 x2 x3 hx => ih x0 x1 x2 x3 hx))
theorem F_DX9_net  (a1 : Int) (a2 : Int) (h : qH)  : Fp (fun (i k : Nat) => (14 ≤ i ∧ i ≤ 15) ∨ i = 156 ∨ i = 163 ∨ i = 225) h (DX9_net a1 a2 h) := by
  unfold DX9_net
  refine Fp_ite (fun gc => ?_) (fun gc => ?_)
  · exact Fp_some
  · refine Fp_ite (fun gc => ?_) (fun gc => ?_)
    · refine Fp_ite (fun gc => ?_) (fun gc => ?_)
      · exact Fp_some
      · refine Fp_ite (fun gc => ?_) (fun gc => ?_)
        · refine Fp_bd (F_DX9_followAll a1 h) (fun r13 h14 => ?_)
          exact (F_DX9_net_l39 LF a2 (-1) (-1) 0 h14)
        · exact Fp_some
    · exact Fp_some
theorem F_DJ7_fill_d0a16_l6   : ∀ (n : Nat) (i0 : Nat) (n0 : Nat) (a1 : Int) (a3 : Int) (a4 : Int) (h : qH), Fp (fun (i k : Nat) => i = i0) h (DJ7_fill_d0a16_l6  n i0 n0 a1 a3 a4 h) := by
  intro n
  induction n with
  | zero =>
    intro i0 n0 a1 a3 a4 h
    exact Fp_none
  | succ n ih =>
    intro i0 n0 a1 a3 a4 h
    rw [DJ7_fill_d0a16_l6.eq_2]
    refine Fp_ite (fun gc => ?_) (fun gc => ?_)
    · exact Fp_some
    · refine Fp_ite (fun gc => ?_) (fun gc => ?_)
      · refine Fp_qu (by first | omega | (simp only []; omega)) (fun h1 => ?_)
        exact (ih i0 n0 a1 (qw (a3 + 1)) a4 h1)
      · exact Fp_none
theorem F_DJ7_fill_d0a16  (i0 : Nat) (n0 : Nat) (a1 : Int) (h : qH)  : Fp (fun (i k : Nat) => i = i0) h (DJ7_fill_d0a16 i0 n0 a1 h) := by
  unfold DJ7_fill_d0a16
  exact (F_DJ7_fill_d0a16_l6 LF i0 n0 a1 0 (n0 : Int) h)
theorem F_DX6_become  (i0 : Nat) (a1 : Int) (a2 : Int) (h : qH)  : Fp (fun (i k : Nat) => (i0 ≤ i ∧ i ≤ i0 + 1)) h (DX6_become i0 a1 a2 h) := by
  unfold DX6_become
  refine Fp_qu (by first | omega | (simp only []; omega)) (fun h1 => ?_)
  refine Fp_qu (by first | omega | (simp only []; omega)) (fun h2 => ?_)
  refine Fp_bd ((F_DJ7_fill_d0a16 (i0 + 1) 40 0 h2).mono (fun i k g => by omega)) (fun r3 h4 => ?_)
  exact Fp_some
theorem F_DX9_numbers  (a1 : Int) (a2 : Int) (a3 : Int) (h : qH)  : Fp (fun (i k : Nat) => (168 ≤ i ∧ i ≤ 175)) h (DX9_numbers a1 a2 a3 h) := by
  unfold DX9_numbers
  refine Fp_bd ((F_DX9_isTray a1 h).mono (fun i k g => g.elim)) (fun r1 h2 => ?_)
  refine Fp_ite (fun gc => ?_) (fun gc => ?_)
  · exact Fp_some
  · refine Fp_ite (fun gc => ?_) (fun gc => ?_)
    · exact Fp_some
    · refine Fp_ite (fun gc => ?_) (fun gc => ?_)
      · refine Fp_ite (fun gc => ?_) (fun gc => ?_)
        · exact Fp_some
        · refine Fp_ite (fun gc => ?_) (fun gc => ?_)
          · refine Fp_ite (fun gc => ?_) (fun gc => ?_)
            · refine Fp_bd ((F_DX6_become (168 + 2 * a1.toNat) a2 a3 h2).mono (fun i k g => by omega)) (fun r6 h7 => ?_)
              exact Fp_some
            · exact Fp_none
          · exact Fp_some
      · exact Fp_some
theorem F_DX9_perform  (a1 : Int) (h : qH)  : Fp (fun (i k : Nat) => (14 ≤ i ∧ i ≤ 15) ∨ i = 24 ∨ (26 ≤ i ∧ i ≤ 33) ∨ (i = 44 ∧ 1 ≤ k ∧ k ≤ 2) ∨ (46 ≤ i ∧ i ≤ 155) ∨ i = 225) h (DX9_perform a1 h) := by
  unfold DX9_perform
  refine Fp_bd ((F_DX9_isTray a1 h).mono (fun i k g => g.elim)) (fun r1 h2 => ?_)
  refine Fp_ite (fun gc => ?_) (fun gc => ?_)
  · refine Fp_ite (fun gc => ?_) (fun gc => ?_)
    · refine Fp_bd ((F_DX6_missing (168 + 2 * a1.toNat) h2).mono (fun i k g => g.elim)) (fun r6 h7 => ?_)
      refine Fp_ite (fun gc => ?_) (fun gc => ?_)
      · refine Fp_bd ((F_DX3_draft 24 h7).mono (fun i k g => by omega)) (fun r9 h10 => ?_)
        refine Fp_ite (fun gc => ?_) (fun gc => ?_)
        · refine Fp_bd ((F_DX9_doAll 24 (168 + 2 * a1.toNat) h10).mono (fun i k g => by rcases g with g | g | g | g <;> omega)) (fun r14 h15 => ?_)
          refine Fp_ite (fun gc => ?_) (fun gc => ?_)
          · exact Fp_some
          · refine Fp_bd ((F_DX3_commit h15).mono (fun i k g => by omega)) (fun r17 h18 => ?_)
            exact Fp_some
        · exact Fp_none
      · exact Fp_some
    · exact Fp_none
  · exact Fp_some
theorem F_DX9_reachers_l18   : ∀ (n : Nat) (a1 : Int) (a2 : Int) (a3 : Int) (h : qH), Fp (fun (i k : Nat) => (13 ≤ i ∧ i ≤ 15) ∨ (225 ≤ i ∧ i ≤ 226)) h (DX9_reachers_l18  n a1 a2 a3 h) := by
  intro n
  induction n with
  | zero =>
    intro a1 a2 a3 h
    exact Fp_none
  | succ n ih =>
    intro a1 a2 a3 h
    rw [DX9_reachers_l18.eq_2]
    refine Fp_ite (fun gc => ?_) (fun gc => ?_)
    · exact Fp_some
    · refine Fp_ite (fun gc => ?_) (fun gc => ?_)
      · exact (ih a1 a2 (qw (a3 + 1)) h)
      · refine Fp_bd (F_DX2_soonest a3 a1 (h.1 24 2) h) (fun r1 h2 => ?_)
        refine Fp_ite (fun gc => ?_) (fun gc => ?_)
        · exact (ih a1 a2 (qw (a3 + 1)) h2)
        · refine Fp_let (fun v4 => ?_)
          exact (ih a1 v4 (qw (a3 + 1)) h2)
theorem F_DX9_reachers  (a1 : Int) (h : qH)  : Fp (fun (i k : Nat) => (13 ≤ i ∧ i ≤ 15) ∨ (225 ≤ i ∧ i ≤ 226)) h (DX9_reachers a1 h) := by
  unfold DX9_reachers
  refine Fp_bd ((F_DX1_isShore 5 a1 h).mono (fun i k g => g.elim)) (fun r5 h6 => ?_)
  refine Fp_ite (fun gc => ?_) (fun gc => ?_)
  · exact (F_DX9_reachers_l18 LF a1 0 0 h6)
  · exact Fp_some
theorem F_DX9_reaches  (a1 : Int) (a2 : Int) (a3 : Int) (a4 : Int) (h : qH)  : Fp (fun (i k : Nat) => (13 ≤ i ∧ i ≤ 15) ∨ (225 ≤ i ∧ i ≤ 226)) h (DX9_reaches a1 a2 a3 a4 h) := by
  unfold DX9_reaches
  refine Fp_bd ((F_DX9_pairCode a1 a2 h).mono (fun i k g => g.elim)) (fun r1 h2 => ?_)
  refine Fp_ite (fun gc => ?_) (fun gc => ?_)
  · refine Fp_ite (fun gc => ?_) (fun gc => ?_)
    · exact Fp_some
    · refine Fp_ite (fun gc => ?_) (fun gc => ?_)
      · refine Fp_ite (fun gc => ?_) (fun gc => ?_)
        · refine Fp_bd (F_DX2_outcome a1 a2 a3 (qw (h2.1 24 2 + a4)) h2) (fun r4 h5 => ?_)
          refine Fp_bd ((F_DX2_keeperOf r4 h5).mono (fun i k g => g.elim)) (fun r7 h8 => ?_)
          refine Fp_ite (fun gc => ?_) (fun gc => ?_)
          · exact Fp_some
          · refine Fp_bd ((F_DX2_tidesOf r4 h8).mono (fun i k g => g.elim)) (fun r10 h11 => ?_)
            exact Fp_some
        · exact Fp_some
      · exact Fp_some
  · exact Fp_some
theorem F_DX5_weigh_b31  (a1 : Int) (a2 : Int) (h : qH)  : Fp (fun (i k : Nat) => (i = 157 ∧ 4 ≤ k ∧ k ≤ 5) ∨ i = 159) h (DX5_weigh_b31 a1 a2 h) := by
  unfold DX5_weigh_b31
  refine Fp_qu (by first | omega | (simp only []; omega)) (fun h1 => ?_)
  refine Fp_qu (by first | omega | (simp only []; omega)) (fun h2 => ?_)
  refine Fp_cp (fun _ => by first | omega | (simp only []; omega)) (fun h3 => ?_)
  exact Fp_some
theorem F_DX5_weigh  (a1 : Int) (a2 : Int) (h : qH)  : Fp (fun (i k : Nat) => (i = 157 ∧ 4 ≤ k ∧ k ≤ 5) ∨ i = 159) h (DX5_weigh a1 a2 h) := by
  unfold DX5_weigh
  refine Fp_ite (fun gc => ?_) (fun gc => ?_)
  · exact (F_DX5_weigh_b31 a1 a2 h)
  · refine Fp_ite (fun gc => ?_) (fun gc => ?_)
    · exact (F_DX5_weigh_b31 a1 a2 h)
    · refine Fp_ite (fun gc => ?_) (fun gc => ?_)
      · exact Fp_some
      · refine Fp_ite (fun gc => ?_) (fun gc => ?_)
        · exact Fp_some
        · exact (F_DX5_weigh_b31 a1 a2 h)
theorem F_DX5_seek_b112 (f_X5_seek : Int → Int → Int → Int → qH → Option (Int × qH)) (k17 : Int → Int → Int → Int → Int → qH → Option (Int × qH)) (a2 : Int) (a3 : Int) (a4 : Int) (a5 : Int) (a6 : Int) (a8 : Int) (h : qH) (f_X5_seek_h : ∀ (x0 : Int) (x1 : Int) (x2 : Int) (x3 : Int) (hx : qH), Fp (fun (i k : Nat) => (13 ≤ i ∧ i ≤ 15) ∨ (i = 157 ∧ 4 ≤ k ∧ k ≤ 5) ∨ (158 ≤ i ∧ i ≤ 159) ∨ (225 ≤ i ∧ i ≤ 226)) hx (f_X5_seek x0 x1 x2 x3 hx)) (k17_h : ∀ (x0 : Int) (x1 : Int) (x2 : Int) (x3 : Int) (x4 : Int) (hx : qH), Fp (fun (i k : Nat) => (13 ≤ i ∧ i ≤ 15) ∨ (i = 157 ∧ 4 ≤ k ∧ k ≤ 5) ∨ (158 ≤ i ∧ i ≤ 159) ∨ (225 ≤ i ∧ i ≤ 226)) hx (k17 x0 x1 x2 x3 x4 hx)) : Fp (fun (i k : Nat) => (13 ≤ i ∧ i ≤ 15) ∨ (i = 157 ∧ 4 ≤ k ∧ k ≤ 5) ∨ (158 ≤ i ∧ i ≤ 159) ∨ (225 ≤ i ∧ i ≤ 226)) h (DX5_seek_b112 f_X5_seek k17 a2 a3 a4 a5 a6 a8 h) := by
  unfold DX5_seek_b112
  refine Fp_bd (f_X5_seek_h a6 (qw (a3 + 1)) a8 (qor a5 (qshl 1 a6)) h) (fun r1 h2 => ?_)
  exact (k17_h a2 a3 a4 a5 (qw (a6 + 1)) h2)
theorem F_DX5_seek_b57 (f_X5_seek : Int → Int → Int → Int → qH → Option (Int × qH)) (k17 : Int → Int → Int → Int → Int → qH → Option (Int × qH)) (a2 : Int) (a3 : Int) (a4 : Int) (a5 : Int) (a6 : Int) (b0 : Int) (h : qH) (f_X5_seek_h : ∀ (x0 : Int) (x1 : Int) (x2 : Int) (x3 : Int) (hx : qH), Fp (fun (i k : Nat) => (13 ≤ i ∧ i ≤ 15) ∨ (i = 157 ∧ 4 ≤ k ∧ k ≤ 5) ∨ (158 ≤ i ∧ i ≤ 159) ∨ (225 ≤ i ∧ i ≤ 226)) hx (f_X5_seek x0 x1 x2 x3 hx)) (k17_h : ∀ (x0 : Int) (x1 : Int) (x2 : Int) (x3 : Int) (x4 : Int) (hx : qH), Fp (fun (i k : Nat) => (13 ≤ i ∧ i ≤ 15) ∨ (i = 157 ∧ 4 ≤ k ∧ k ≤ 5) ∨ (158 ≤ i ∧ i ≤ 159) ∨ (225 ≤ i ∧ i ≤ 226)) hx (k17 x0 x1 x2 x3 x4 hx)) : Fp (fun (i k : Nat) => (13 ≤ i ∧ i ≤ 15) ∨ (i = 157 ∧ 4 ≤ k ∧ k ≤ 5) ∨ (158 ≤ i ∧ i ≤ 159) ∨ (225 ≤ i ∧ i ≤ 226)) h (DX5_seek_b57 f_X5_seek k17 a2 a3 a4 a5 a6 b0 h) := by
  unfold DX5_seek_b57
  refine Fp_ite (fun gc => ?_) (fun gc => ?_)
  · exact (k17_h a2 a3 a4 a5 (qw (a6 + 1)) h)
  · refine Fp_bd ((F_DX2_arrivalOf b0 h).mono (fun i k g => g.elim)) (fun r4 h5 => ?_)
    refine Fp_let (fun v7 => ?_)
    refine Fp_ite (fun gc => ?_) (fun gc => ?_)
    · refine Fp_ite (fun gc => ?_) (fun gc => ?_)
      · exact (F_DX5_seek_b112 f_X5_seek k17 a2 a3 a4 a5 a6 v7 h5 f_X5_seek_h k17_h)
      · refine Fp_ite (fun gc => ?_) (fun gc => ?_)
        · exact (k17_h a2 a3 a4 a5 (qw (a6 + 1)) h5)
        · exact (F_DX5_seek_b112 f_X5_seek k17 a2 a3 a4 a5 a6 v7 h5 f_X5_seek_h k17_h)
    · refine Fp_bd ((F_DX5_weigh (qw (a3 + 1)) v7 h5).mono (fun i k g => by rcases g with g | g <;> omega)) (fun r8 h9 => ?_)
      exact (k17_h a2 a3 a4 a5 (qw (a6 + 1)) h9)
theorem F_DX5_seek_l17 (f_X5_seek : Int → Int → Int → Int → qH → Option (Int × qH)) (f_X5_seek_h : ∀ (x0 : Int) (x1 : Int) (x2 : Int) (x3 : Int) (hx : qH), Fp (fun (i k : Nat) => (13 ≤ i ∧ i ≤ 15) ∨ (i = 157 ∧ 4 ≤ k ∧ k ≤ 5) ∨ (158 ≤ i ∧ i ≤ 159) ∨ (225 ≤ i ∧ i ≤ 226)) hx (f_X5_seek x0 x1 x2 x3 hx)) : ∀ (n : Nat) (a2 : Int) (a3 : Int) (a4 : Int) (a5 : Int) (a6 : Int) (h : qH), Fp (fun (i k : Nat) => (13 ≤ i ∧ i ≤ 15) ∨ (i = 157 ∧ 4 ≤ k ∧ k ≤ 5) ∨ (158 ≤ i ∧ i ≤ 159) ∨ (225 ≤ i ∧ i ≤ 226)) h (DX5_seek_l17 f_X5_seek n a2 a3 a4 a5 a6 h) := by
  intro n
  induction n with
  | zero =>
    intro a2 a3 a4 a5 a6 h
    exact Fp_none
  | succ n ih =>
    intro a2 a3 a4 a5 a6 h
    rw [DX5_seek_l17.eq_2]
    refine Fp_ite (fun gc => ?_) (fun gc => ?_)
    · exact Fp_some
    · refine Fp_ite (fun gc => ?_) (fun gc => ?_)
      · refine Fp_bd ((F_DX2_soonest a2 a6 (qw (h.1 157 3 + a4)) h).mono (fun i k g => by rcases g with g | g <;> omega)) (fun r11 h12 => ?_)
        exact (F_DX5_seek_b57 f_X5_seek (DX5_seek_l17 f_X5_seek n) a2 a3 a4 a5 a6 r11 h12 f_X5_seek_h (fun x0 x1 x2 x3 x4 hx => ih x0 x1 x2 x3 x4 hx))
      · exact (F_DX5_seek_b57 f_X5_seek (DX5_seek_l17 f_X5_seek n) a2 a3 a4 a5 a6 (-1) h f_X5_seek_h (fun x0 x1 x2 x3 x4 hx => ih x0 x1 x2 x3 x4 hx))
theorem F_DX5_seek (f_X5_seek : Int → Int → Int → Int → qH → Option (Int × qH)) (a2 : Int) (a3 : Int) (a4 : Int) (a5 : Int) (h : qH) (f_X5_seek_h : ∀ (x0 : Int) (x1 : Int) (x2 : Int) (x3 : Int) (hx : qH), Fp (fun (i k : Nat) => (13 ≤ i ∧ i ≤ 15) ∨ (i = 157 ∧ 4 ≤ k ∧ k ≤ 5) ∨ (158 ≤ i ∧ i ≤ 159) ∨ (225 ≤ i ∧ i ≤ 226)) hx (f_X5_seek x0 x1 x2 x3 hx)) : Fp (fun (i k : Nat) => (13 ≤ i ∧ i ≤ 15) ∨ (i = 157 ∧ 4 ≤ k ∧ k ≤ 5) ∨ (158 ≤ i ∧ i ≤ 159) ∨ (225 ≤ i ∧ i ≤ 226)) h (DX5_seek f_X5_seek a2 a3 a4 a5 h) := by
  unfold DX5_seek
  refine Fp_ite (fun gc => ?_) (fun gc => ?_)
  · refine Fp_ite (fun gc => ?_) (fun gc => ?_)
    · refine Fp_qu (by first | omega | (simp only []; omega)) (fun h14 => ?_)
      exact (F_DX5_seek_l17 f_X5_seek f_X5_seek_h LF a2 a3 a4 a5 0 h14)
    · exact Fp_none
  · exact Fp_some
theorem F_RX5_seekg : ∀ (n : Nat) (k : Nat) (x0 : Int) (x1 : Int) (x2 : Int) (x3 : Int) (h : qH), Fp (fun (i k : Nat) => (13 ≤ i ∧ i ≤ 15) ∨ (i = 157 ∧ 4 ≤ k ∧ k ≤ 5) ∨ (158 ≤ i ∧ i ≤ 159) ∨ (225 ≤ i ∧ i ≤ 226)) h (RX5_seekg n k x0 x1 x2 x3 h) := by
  intro n
  induction n with
  | zero =>
    intro k x0 x1 x2 x3 h
    exact Fp_none
  | succ n ih =>
    intro k x0 x1 x2 x3 h
    rw [RX5_seekg.eq_2]
    exact F_DX5_seek (fun a b c e h => RX5_seekg n 0 a b c e h) x0 x1 x2 x3 h (fun a b c e h => ih 0 a b c e h)
theorem F_RX5_seek (a2 : Int) (a3 : Int) (a4 : Int) (a5 : Int) (h : qH) : Fp (fun (i k : Nat) => (13 ≤ i ∧ i ≤ 15) ∨ (i = 157 ∧ 4 ≤ k ∧ k ≤ 5) ∨ (158 ≤ i ∧ i ≤ 159) ∨ (225 ≤ i ∧ i ≤ 226)) h (RX5_seek a2 a3 a4 a5 h) := by
  unfold RX5_seek
  exact F_RX5_seekg 100 0 a2 a3 a4 a5 h
theorem F_DX5_start  (a1 : Int) (a2 : Int) (h : qH)  : Fp (fun (i k : Nat) => (i = 157 ∧ 2 ≤ k ∧ k ≤ 5)) h (DX5_start a1 a2 h) := by
  unfold DX5_start
  refine Fp_qu (by first | omega | (simp only []; omega)) (fun h1 => ?_)
  refine Fp_qu (by first | omega | (simp only []; omega)) (fun h2 => ?_)
  refine Fp_qu (by first | omega | (simp only []; omega)) (fun h3 => ?_)
  refine Fp_qu (by first | omega | (simp only []; omega)) (fun h4 => ?_)
  exact Fp_some
theorem F_DX5_stop  (a1 : Int) (h : qH)  : Fp (fun _ _ => False) h (DX5_stop a1 h) := by
  unfold DX5_stop
  refine Fp_ite (fun gc => ?_) (fun gc => ?_)
  · exact Fp_some
  · refine Fp_ite (fun gc => ?_) (fun gc => ?_)
    · exact Fp_some
    · refine Fp_ite (fun gc => ?_) (fun gc => ?_)
      · refine Fp_ite (fun gc => ?_) (fun gc => ?_)
        · refine Fp_ite (fun gc => ?_) (fun gc => ?_)
          · exact Fp_some
          · exact Fp_none
        · exact Fp_some
      · exact Fp_some
theorem F_DX9_relay_b26  (a1 : Int) (a2 : Int) (a3 : Int) (b0 : Int) (h : qH)  : Fp (fun (i k : Nat) => (13 ≤ i ∧ i ≤ 15) ∨ (i = 157 ∧ 2 ≤ k ∧ k ≤ 5) ∨ (158 ≤ i ∧ i ≤ 159) ∨ (225 ≤ i ∧ i ≤ 226)) h (DX9_relay_b26 a1 a2 a3 b0 h) := by
  unfold DX9_relay_b26
  refine Fp_bd ((F_DX9_pairCode a1 a2 h).mono (fun i k g => g.elim)) (fun r1 h2 => ?_)
  refine Fp_ite (fun gc => ?_) (fun gc => ?_)
  · exact Fp_some
  · refine Fp_ite (fun gc => ?_) (fun gc => ?_)
    · refine Fp_bd ((F_DX5_start a2 (h2.1 24 2) h2).mono (fun i k g => by omega)) (fun r4 h5 => ?_)
      refine Fp_bd ((F_RX5_seek a1 0 0 (qshl 1 a1) h5).mono (fun i k g => by rcases g with g | g | g | g <;> omega)) (fun r7 h8 => ?_)
      refine Fp_ite (fun gc => ?_) (fun gc => ?_)
      · refine Fp_ite (fun gc => ?_) (fun gc => ?_)
        · refine Fp_ite (fun gc => ?_) (fun gc => ?_)
          · refine Fp_bd ((F_DX5_stop (qw (a3 - 10)) h8).mono (fun i k g => g.elim)) (fun r10 h11 => ?_)
            exact Fp_some
          · exact Fp_some
        · exact Fp_some
      · exact Fp_some
    · exact Fp_some
theorem F_DX9_relay  (a1 : Int) (a2 : Int) (a3 : Int) (h : qH)  : Fp (fun (i k : Nat) => (13 ≤ i ∧ i ≤ 15) ∨ (i = 157 ∧ 2 ≤ k ∧ k ≤ 5) ∨ (158 ≤ i ∧ i ≤ 159) ∨ (225 ≤ i ∧ i ≤ 226)) h (DX9_relay a1 a2 a3 h) := by
  unfold DX9_relay
  refine Fp_ite (fun gc => ?_) (fun gc => ?_)
  · exact (F_DX9_relay_b26 a1 a2 a3 1 h)
  · refine Fp_ite (fun gc => ?_) (fun gc => ?_)
    · exact (F_DX9_relay_b26 a1 a2 a3 1 h)
    · refine Fp_ite (fun gc => ?_) (fun gc => ?_)
      · exact (F_DX9_relay_b26 a1 a2 a3 0 h)
      · refine Fp_ite (fun gc => ?_) (fun gc => ?_)
        · exact (F_DX9_relay_b26 a1 a2 a3 0 h)
        · exact (F_DX9_relay_b26 a1 a2 a3 1 h)
theorem F_DX9_restore  (a1 : Int) (h : qH)  : Fp (fun (i k : Nat) => (5 ≤ i ∧ i ≤ 12) ∨ i = 24 ∨ (26 ≤ i ∧ i ≤ 33) ∨ (i = 44 ∧ 1 ≤ k ∧ k ≤ 2) ∨ (225 ≤ i ∧ i ≤ 226)) h (DX9_restore a1 h) := by
  unfold DX9_restore
  refine Fp_ite (fun gc => ?_) (fun gc => ?_)
  · exact Fp_some
  · refine Fp_ite (fun gc => ?_) (fun gc => ?_)
    · refine Fp_ite (fun gc => ?_) (fun gc => ?_)
      · refine Fp_ite (fun gc => ?_) (fun gc => ?_)
        · refine Fp_ite (fun gc => ?_) (fun gc => ?_)
          · refine Fp_bd ((F_DX1_takeFrom 5 (176 + 18 * a1.toNat) h).mono (fun i k g => by omega)) (fun r5 h6 => ?_)
            refine Fp_ite (fun gc => ?_) (fun gc => ?_)
            · refine Fp_bd ((F_DX7_takeFrom 24 (184 + 18 * a1.toNat) h6).mono (fun i k g => by rcases g with g | g <;> omega)) (fun r10 h11 => ?_)
              refine Fp_bd ((F_DX9_becomeOther h11).mono (fun i k g => by rcases g with g | g <;> omega)) (fun r13 h14 => ?_)
              exact Fp_some
            · exact Fp_none
          · exact Fp_none
        · exact Fp_some
      · exact Fp_none
    · exact Fp_some
theorem F_DX1_aim_l2   : ∀ (n : Nat) (i0 : Nat) (a1 : Int) (h : qH), Fp (fun (i k : Nat) => i = i0 + 5) h (DX1_aim_l2  n i0 a1 h) := by
  intro n
  induction n with
  | zero =>
    intro i0 a1 h
    exact Fp_none
  | succ n ih =>
    intro i0 a1 h
    rw [DX1_aim_l2.eq_2]
    refine Fp_ite (fun gc => ?_) (fun gc => ?_)
    · exact Fp_some
    · refine Fp_ite (fun gc => ?_) (fun gc => ?_)
      · exact Fp_some
      · refine Fp_ite (fun gc => ?_) (fun gc => ?_)
        · refine Fp_ite (fun gc => ?_) (fun gc => ?_)
          · refine Fp_bd ((F_DX1_beside i0 (h.1 (i0 + 3) a1.toNat) (h.1 (i0 + 4) a1.toNat) h).mono (fun i k g => g.elim)) (fun r5 h6 => ?_)
            refine Fp_bd ((F_DX1_isOpen i0 r5 h6).mono (fun i k g => g.elim)) (fun r8 h9 => ?_)
            refine Fp_ite (fun gc => ?_) (fun gc => ?_)
            · refine Fp_ite (fun gc => ?_) (fun gc => ?_)
              · refine Fp_qu (by first | omega | (simp only []; omega)) (fun h11 => ?_)
                exact (ih i0 (qw (a1 + 1)) h11)
              · exact Fp_none
            · refine Fp_ite (fun gc => ?_) (fun gc => ?_)
              · refine Fp_qu (by first | omega | (simp only []; omega)) (fun h12 => ?_)
                exact (ih i0 (qw (a1 + 1)) h12)
              · exact Fp_none
          · exact Fp_none
        · exact Fp_none
theorem F_DX1_aim  (i0 : Nat) (h : qH)  : Fp (fun (i k : Nat) => i = i0 + 5) h (DX1_aim i0 h) := by
  unfold DX1_aim
  exact (F_DX1_aim_l2 LF i0 0 h)
theorem F_DJ7_fill_53178_l5   : ∀ (n : Nat) (i0 : Nat) (n0 : Nat) (a1 : Int) (a2 : Int) (a3 : Int) (h : qH), Fp (fun (i k : Nat) => i = i0) h (DJ7_fill_53178_l5  n i0 n0 a1 a2 a3 h) := by
  intro n
  induction n with
  | zero =>
    intro i0 n0 a1 a2 a3 h
    exact Fp_none
  | succ n ih =>
    intro i0 n0 a1 a2 a3 h
    rw [DJ7_fill_53178_l5.eq_2]
    refine Fp_ite (fun gc => ?_) (fun gc => ?_)
    · exact Fp_some
    · refine Fp_ite (fun gc => ?_) (fun gc => ?_)
      · refine Fp_qu (by first | omega | (simp only []; omega)) (fun h1 => ?_)
        exact (ih i0 n0 a1 (qw (a2 + 1)) a3 h1)
      · exact Fp_none
theorem F_DJ7_fill_53178  (i0 : Nat) (n0 : Nat) (a1 : Int) (h : qH)  : Fp (fun (i k : Nat) => i = i0) h (DJ7_fill_53178 i0 n0 a1 h) := by
  unfold DJ7_fill_53178
  exact (F_DJ7_fill_53178_l5 LF i0 n0 a1 0 (n0 : Int) h)
theorem F_DX1_clear  (i0 : Nat) (h : qH)  : Fp (fun (i k : Nat) => (i0 ≤ i ∧ i ≤ i0 + 2)) h (DX1_clear i0 h) := by
  unfold DX1_clear
  refine Fp_bd ((F_DJ7_fill_53178 (i0 + 1) 36 0 h).mono (fun i k g => by omega)) (fun r1 h2 => ?_)
  refine Fp_bd ((F_DJ7_fill_53178 (i0 + 2) 216 0 h2).mono (fun i k g => by omega)) (fun r4 h5 => ?_)
  refine Fp_qu (by first | omega | (simp only []; omega)) (fun h7 => ?_)
  refine Fp_qu (by first | omega | (simp only []; omega)) (fun h8 => ?_)
  refine Fp_qu (by first | omega | (simp only []; omega)) (fun h9 => ?_)
  refine Fp_qu (by first | omega | (simp only []; omega)) (fun h10 => ?_)
  refine Fp_qu (by first | omega | (simp only []; omega)) (fun h11 => ?_)
  refine Fp_qu (by first | omega | (simp only []; omega)) (fun h12 => ?_)
  refine Fp_qu (by first | omega | (simp only []; omega)) (fun h13 => ?_)
  refine Fp_qu (by first | omega | (simp only []; omega)) (fun h14 => ?_)
  refine Fp_qu (by first | omega | (simp only []; omega)) (fun h15 => ?_)
  refine Fp_qu (by first | omega | (simp only []; omega)) (fun h16 => ?_)
  refine Fp_qu (by first | omega | (simp only []; omega)) (fun h17 => ?_)
  refine Fp_qu (by first | omega | (simp only []; omega)) (fun h18 => ?_)
  refine Fp_qu (by first | omega | (simp only []; omega)) (fun h19 => ?_)
  exact Fp_some
theorem F_DX4_advance_b299  (a1 : Int) (h : qH)  : Fp (fun (i k : Nat) => (i = 2 ∧ 6 ≤ k ∧ k ≤ 9)) h (DX4_advance_b299 a1 h) := by
  unfold DX4_advance_b299
  refine Fp_bd (Ft_J0_indexOf_0f7a4 0 (qc16 a1) h) (fun r1 h2 => ?_)
  refine Fp_ite (fun gc => ?_) (fun gc => ?_)
  · refine Fp_qu (by first | omega | (simp only []; omega)) (fun h4 => ?_)
    refine Fp_qu (by first | omega | (simp only []; omega)) (fun h5 => ?_)
    exact Fp_some
  · refine Fp_qu (by first | omega | (simp only []; omega)) (fun h6 => ?_)
    refine Fp_qu (by first | omega | (simp only []; omega)) (fun h7 => ?_)
    exact Fp_some
theorem F_DX4_advance_b274  (h : qH)  : Fp (fun (i k : Nat) => (i = 2 ∧ 6 ≤ k ∧ k ≤ 9)) h (DX4_advance_b274 h) := by
  unfold DX4_advance_b274
  refine Fp_ite (fun gc => ?_) (fun gc => ?_)
  · refine Fp_qu (by first | omega | (simp only []; omega)) (fun h8 => ?_)
    exact Fp_some
  · refine Fp_qu (by first | omega | (simp only []; omega)) (fun h9 => ?_)
    exact Fp_some
theorem F_DX4_advance_l185   : ∀ (n : Nat)  (h : qH), Fp (fun (i k : Nat) => (i = 2 ∧ 6 ≤ k ∧ k ≤ 9)) h (DX4_advance_l185  n h) := by
  intro n
  induction n with
  | zero =>
    intro h
    exact Fp_none
  | succ n ih =>
    intro h
    rw [DX4_advance_l185.eq_2]
    refine Fp_ite (fun gc => ?_) (fun gc => ?_)
    · exact (F_DX4_advance_b274 h)
    · refine Fp_ite (fun gc => ?_) (fun gc => ?_)
      · refine Fp_ite (fun gc => ?_) (fun gc => ?_)
        · refine Fp_ite (fun gc => ?_) (fun gc => ?_)
          · exact (F_DX4_advance_b274 h)
          · refine Fp_ite (fun gc => ?_) (fun gc => ?_)
            · refine Fp_ite (fun gc => ?_) (fun gc => ?_)
              · refine Fp_ite (fun gc => ?_) (fun gc => ?_)
                · exact (F_DX4_advance_b274 h)
                · refine Fp_ite (fun gc => ?_) (fun gc => ?_)
                  · refine Fp_qu (by first | omega | (simp only []; omega)) (fun h14 => ?_)
                    exact (ih h14)
                  · refine Fp_ite (fun gc => ?_) (fun gc => ?_)
                    · refine Fp_ite (fun gc => ?_) (fun gc => ?_)
                      · refine Fp_qu (by first | omega | (simp only []; omega)) (fun h17 => ?_)
                        refine Fp_qu (by first | omega | (simp only []; omega)) (fun h18 => ?_)
                        exact (ih h18)
                      · exact Fp_none
                    · exact Fp_none
              · exact Fp_none
            · exact Fp_none
        · exact Fp_none
      · exact Fp_none
theorem F_DX4_advance_l121   : ∀ (n : Nat)  (h : qH), Fp (fun (i k : Nat) => (i = 2 ∧ 6 ≤ k ∧ k ≤ 9)) h (DX4_advance_l121  n h) := by
  intro n
  induction n with
  | zero =>
    intro h
    exact Fp_none
  | succ n ih =>
    intro h
    rw [DX4_advance_l121.eq_2]
    refine Fp_ite (fun gc => ?_) (fun gc => ?_)
    · exact Fp_some
    · refine Fp_ite (fun gc => ?_) (fun gc => ?_)
      · refine Fp_ite (fun gc => ?_) (fun gc => ?_)
        · refine Fp_ite (fun gc => ?_) (fun gc => ?_)
          · exact Fp_some
          · refine Fp_ite (fun gc => ?_) (fun gc => ?_)
            · refine Fp_ite (fun gc => ?_) (fun gc => ?_)
              · refine Fp_ite (fun gc => ?_) (fun gc => ?_)
                · exact Fp_some
                · refine Fp_qu (by first | omega | (simp only []; omega)) (fun h23 => ?_)
                  exact (ih h23)
              · exact Fp_none
            · exact Fp_none
        · exact Fp_none
      · exact Fp_none
theorem F_DX4_advance_b60  (h : qH)  : Fp (fun (i k : Nat) => (i = 2 ∧ 6 ≤ k ∧ k ≤ 9)) h (DX4_advance_b60 h) := by
  unfold DX4_advance_b60
  refine Fp_qu (by first | omega | (simp only []; omega)) (fun h24 => ?_)
  refine Fp_qu (by first | omega | (simp only []; omega)) (fun h25 => ?_)
  refine Fp_ite (fun gc => ?_) (fun gc => ?_)
  · refine Fp_ite (fun gc => ?_) (fun gc => ?_)
    · refine Fp_ite (fun gc => ?_) (fun gc => ?_)
      · refine Fp_let (fun v28 => ?_)
        refine Fp_ite (fun gc => ?_) (fun gc => ?_)
        · refine Fp_ite (fun gc => ?_) (fun gc => ?_)
          · exact (F_DX4_advance_b299 v28 h25)
          · refine Fp_ite (fun gc => ?_) (fun gc => ?_)
            · exact (F_DX4_advance_b299 v28 h25)
            · exact (F_DX4_advance_l185 LF h25)
        · refine Fp_ite (fun gc => ?_) (fun gc => ?_)
          · refine Fp_ite (fun gc => ?_) (fun gc => ?_)
            · exact (F_DX4_advance_b299 v28 h25)
            · refine Fp_ite (fun gc => ?_) (fun gc => ?_)
              · exact (F_DX4_advance_b299 v28 h25)
              · exact (F_DX4_advance_l185 LF h25)
          · refine Fp_qu (by first | omega | (simp only []; omega)) (fun h29 => ?_)
            exact (F_DX4_advance_l121 LF h29)
      · exact Fp_none
    · exact Fp_none
  · refine Fp_qu (by first | omega | (simp only []; omega)) (fun h30 => ?_)
    exact Fp_some
theorem F_DX4_advance_l8   : ∀ (n : Nat)  (h : qH), Fp (fun (i k : Nat) => (i = 2 ∧ 6 ≤ k ∧ k ≤ 9)) h (DX4_advance_l8  n h) := by
  intro n
  induction n with
  | zero =>
    intro h
    exact Fp_none
  | succ n ih =>
    intro h
    rw [DX4_advance_l8.eq_2]
    refine Fp_ite (fun gc => ?_) (fun gc => ?_)
    · exact (F_DX4_advance_b60 h)
    · refine Fp_ite (fun gc => ?_) (fun gc => ?_)
      · refine Fp_ite (fun gc => ?_) (fun gc => ?_)
        · refine Fp_ite (fun gc => ?_) (fun gc => ?_)
          · refine Fp_qu (by first | omega | (simp only []; omega)) (fun h33 => ?_)
            exact (ih h33)
          · refine Fp_ite (fun gc => ?_) (fun gc => ?_)
            · refine Fp_ite (fun gc => ?_) (fun gc => ?_)
              · refine Fp_ite (fun gc => ?_) (fun gc => ?_)
                · exact (F_DX4_advance_b60 h)
                · refine Fp_qu (by first | omega | (simp only []; omega)) (fun h36 => ?_)
                  exact (ih h36)
              · exact Fp_none
            · exact Fp_none
        · exact Fp_none
      · exact Fp_none
theorem F_DX4_advance  (h : qH)  : Fp (fun (i k : Nat) => (i = 2 ∧ 6 ≤ k ∧ k ≤ 9)) h (DX4_advance h) := by
  unfold DX4_advance
  refine Fp_qu (by first | omega | (simp only []; omega)) (fun h37 => ?_)
  exact (F_DX4_advance_l8 LF h37)
theorem F_DX4_refuse  (a1 : Int) (h : qH)  : Fp (fun (i k : Nat) => (i = 2 ∧ 1 ≤ k ∧ k ≤ 2)) h (DX4_refuse a1 h) := by
  unfold DX4_refuse
  refine Fp_ite (fun gc => ?_) (fun gc => ?_)
  · refine Fp_qu (by first | omega | (simp only []; omega)) (fun h1 => ?_)
    refine Fp_qu (by first | omega | (simp only []; omega)) (fun h2 => ?_)
    exact Fp_some
  · refine Fp_qu (by first | omega | (simp only []; omega)) (fun h3 => ?_)
    refine Fp_qu (by first | omega | (simp only []; omega)) (fun h4 => ?_)
    exact Fp_some
theorem F_DX4_takeSign  (a1 : Int) (h : qH)  : Fp (fun (i k : Nat) => (i = 2 ∧ 1 ≤ k ∧ k ≤ 2) ∨ (i = 2 ∧ 6 ≤ k ∧ k ≤ 9)) h (DX4_takeSign a1 h) := by
  unfold DX4_takeSign
  refine Fp_ite (fun gc => ?_) (fun gc => ?_)
  · refine Fp_bd ((F_DX4_advance h).mono (fun i k g => by omega)) (fun r1 h2 => ?_)
    exact Fp_some
  · refine Fp_bd ((F_DX4_refuse 2 h).mono (fun i k g => by omega)) (fun r4 h5 => ?_)
    refine Fp_ite (fun gc => ?_) (fun gc => ?_)
    · exact Fp_some
    · exact Fp_none
theorem F_DX4_lineEnds  (h : qH)  : Fp (fun (i k : Nat) => (i = 2 ∧ 1 ≤ k ∧ k ≤ 2) ∨ (i = 2 ∧ 6 ≤ k ∧ k ≤ 9) ∨ (i = 16 ∧ k = 16)) h (DX4_lineEnds h) := by
  unfold DX4_lineEnds
  refine Fp_bd ((F_DX4_takeSign 59 h).mono (fun i k g => by rcases g with g | g <;> omega)) (fun r1 h2 => ?_)
  refine Fp_ite (fun gc => ?_) (fun gc => ?_)
  · refine Fp_ite (fun gc => ?_) (fun gc => ?_)
    · refine Fp_qu (by first | omega | (simp only []; omega)) (fun h4 => ?_)
      exact Fp_some
    · exact Fp_none
  · exact Fp_some
theorem F_DX4_takeNumber_b32  (h : qH)  : Fp (fun (i k : Nat) => (i = 2 ∧ 1 ≤ k ∧ k ≤ 2) ∨ (i = 2 ∧ 6 ≤ k ∧ k ≤ 9)) h (DX4_takeNumber_b32 h) := by
  unfold DX4_takeNumber_b32
  refine Fp_bd ((F_DX4_refuse 3 h).mono (fun i k g => by omega)) (fun r1 h2 => ?_)
  exact Fp_some
theorem F_DX4_takeNumber  (a1 : Int) (a2 : Int) (h : qH)  : Fp (fun (i k : Nat) => (i = 2 ∧ 1 ≤ k ∧ k ≤ 2) ∨ (i = 2 ∧ 6 ≤ k ∧ k ≤ 9)) h (DX4_takeNumber a1 a2 h) := by
  unfold DX4_takeNumber
  refine Fp_ite (fun gc => ?_) (fun gc => ?_)
  · refine Fp_ite (fun gc => ?_) (fun gc => ?_)
    · exact (F_DX4_takeNumber_b32 h)
    · refine Fp_ite (fun gc => ?_) (fun gc => ?_)
      · refine Fp_let (fun v4 => ?_)
        refine Fp_bd ((F_DX4_advance h).mono (fun i k g => by omega)) (fun r5 h6 => ?_)
        exact Fp_some
      · exact (F_DX4_takeNumber_b32 h)
  · refine Fp_bd ((F_DX4_refuse 2 h).mono (fun i k g => by omega)) (fun r8 h9 => ?_)
    exact Fp_some
theorem F_DX4_corkLine  (h : qH)  : Fp (fun (i k : Nat) => (i = 2 ∧ 1 ≤ k ∧ k ≤ 2) ∨ (i = 2 ∧ 6 ≤ k ∧ k ≤ 9) ∨ (i = 16 ∧ k = 19)) h (DX4_corkLine h) := by
  unfold DX4_corkLine
  refine Fp_bd ((F_DX4_advance h).mono (fun i k g => by omega)) (fun r1 h2 => ?_)
  refine Fp_bd ((F_DX4_takeNumber 1 99 h2).mono (fun i k g => by rcases g with g | g <;> omega)) (fun r4 h5 => ?_)
  refine Fp_ite (fun gc => ?_) (fun gc => ?_)
  · refine Fp_ite (fun gc => ?_) (fun gc => ?_)
    · refine Fp_qu (by first | omega | (simp only []; omega)) (fun h7 => ?_)
      exact Fp_some
    · exact Fp_none
  · exact Fp_some
theorem F_DX4_takeCell_b90  (a2 : Int) (h : qH)  : Fp (fun (i k : Nat) => (i = 2 ∧ 1 ≤ k ∧ k ≤ 2) ∨ (i = 2 ∧ 6 ≤ k ∧ k ≤ 9)) h (DX4_takeCell_b90 a2 h) := by
  unfold DX4_takeCell_b90
  refine Fp_ite (fun gc => ?_) (fun gc => ?_)
  · refine Fp_bd (F_DX4_takeNumber 0 (qw (h.1 16 12 - 1)) h) (fun r1 h2 => ?_)
    refine Fp_ite (fun gc => ?_) (fun gc => ?_)
    · refine Fp_ite (fun gc => ?_) (fun gc => ?_)
      · exact Fp_some
      · exact Fp_none
    · exact Fp_some
  · exact Fp_none
theorem F_DX4_takeCell_b49  (a1 : Int) (a2 : Int) (b0 : Int) (h : qH)  : Fp (fun (i k : Nat) => (i = 2 ∧ 1 ≤ k ∧ k ≤ 2) ∨ (i = 2 ∧ 6 ≤ k ∧ k ≤ 9)) h (DX4_takeCell_b49 a1 a2 b0 h) := by
  unfold DX4_takeCell_b49
  refine Fp_ite (fun gc => ?_) (fun gc => ?_)
  · exact (F_DX4_takeCell_b90 a2 h)
  · refine Fp_ite (fun gc => ?_) (fun gc => ?_)
    · exact (F_DX4_takeCell_b90 a2 h)
    · refine Fp_ite (fun gc => ?_) (fun gc => ?_)
      · refine Fp_ite (fun gc => ?_) (fun gc => ?_)
        · refine Fp_bd ((F_DX1_isOpen 16 (qw (qw (h.1 2 9 * h.1 16 11) + a2)) h).mono (fun i k g => g.elim)) (fun r4 h5 => ?_)
          refine Fp_ite (fun gc => ?_) (fun gc => ?_)
          · exact (F_DX4_takeCell_b90 a2 h5)
          · refine Fp_bd ((F_DX4_refuse 3 h5).mono (fun i k g => by omega)) (fun r7 h8 => ?_)
            exact Fp_some
        · exact Fp_none
      · exact Fp_none
theorem F_DX4_takeCell  (a1 : Int) (h : qH)  : Fp (fun (i k : Nat) => (i = 2 ∧ 1 ≤ k ∧ k ≤ 2) ∨ (i = 2 ∧ 6 ≤ k ∧ k ≤ 9)) h (DX4_takeCell a1 h) := by
  unfold DX4_takeCell
  refine Fp_ite (fun gc => ?_) (fun gc => ?_)
  · refine Fp_bd (F_DX4_takeNumber 0 (qw (h.1 16 11 - 1)) h) (fun r10 h11 => ?_)
    refine Fp_ite (fun gc => ?_) (fun gc => ?_)
    · refine Fp_ite (fun gc => ?_) (fun gc => ?_)
      · exact (F_DX4_takeCell_b49 a1 r10 0 h11)
      · refine Fp_ite (fun gc => ?_) (fun gc => ?_)
        · refine Fp_ite (fun gc => ?_) (fun gc => ?_)
          · exact (F_DX4_takeCell_b49 a1 r10 0 h11)
          · exact (F_DX4_takeCell_b49 a1 r10 1 h11)
        · exact Fp_none
    · exact Fp_some
  · exact Fp_none
theorem F_DX4_currentLine_l25   : ∀ (n : Nat) (a1 : Int) (a2 : Int) (h : qH), Fp (fun (i k : Nat) => (i = 2 ∧ 1 ≤ k ∧ k ≤ 2) ∨ (i = 2 ∧ 6 ≤ k ∧ k ≤ 9) ∨ i = 18) h (DX4_currentLine_l25  n a1 a2 h) := by
  intro n
  induction n with
  | zero =>
    intro a1 a2 h
    exact Fp_none
  | succ n ih =>
    intro a1 a2 h
    rw [DX4_currentLine_l25.eq_2]
    refine Fp_ite (fun gc => ?_) (fun gc => ?_)
    · refine Fp_ite (fun gc => ?_) (fun gc => ?_)
      · exact Fp_some
      · refine Fp_ite (fun gc => ?_) (fun gc => ?_)
        · exact Fp_some
        · refine Fp_bd ((F_DX4_takeNumber 0 4 h).mono (fun i k g => by rcases g with g | g <;> omega)) (fun r1 h2 => ?_)
          refine Fp_ite (fun gc => ?_) (fun gc => ?_)
          · refine Fp_ite (fun gc => ?_) (fun gc => ?_)
            · refine Fp_ite (fun gc => ?_) (fun gc => ?_)
              · refine Fp_qu (by first | omega | (simp only []; omega)) (fun h4 => ?_)
                exact (ih a1 (qw (a2 + 1)) h4)
              · exact Fp_none
            · exact Fp_none
          · exact Fp_some
    · exact Fp_none
theorem F_DX4_currentLine  (h : qH)  : Fp (fun (i k : Nat) => (i = 2 ∧ 1 ≤ k ∧ k ≤ 2) ∨ (i = 2 ∧ 6 ≤ k ∧ k ≤ 9) ∨ i = 18) h (DX4_currentLine h) := by
  unfold DX4_currentLine
  refine Fp_bd ((F_DX4_advance h).mono (fun i k g => by omega)) (fun r5 h6 => ?_)
  refine Fp_bd ((F_DX4_takeCell 0 h6).mono (fun i k g => by rcases g with g | g <;> omega)) (fun r8 h9 => ?_)
  refine Fp_ite (fun gc => ?_) (fun gc => ?_)
  · refine Fp_bd ((F_DX1_isCell 16 r8 h9).mono (fun i k g => g.elim)) (fun r11 h12 => ?_)
    refine Fp_ite (fun gc => ?_) (fun gc => ?_)
    · exact (F_DX4_currentLine_l25 LF r8 0 h12)
    · exact Fp_some
  · exact Fp_none
theorem F_DX4_isWord_l28   : ∀ (n : Nat) (s1 : Nat) (a2 : Int) (h : qH), Fp (fun _ _ => False) h (DX4_isWord_l28  n s1 a2 h) := by
  intro n
  induction n with
  | zero =>
    intro s1 a2 h
    exact Fp_none
  | succ n ih =>
    intro s1 a2 h
    rw [DX4_isWord_l28.eq_2]
    refine Fp_bd (Ft_J0_length_8abf5 s1 h) (fun r1 h2 => ?_)
    refine Fp_ite (fun gc => ?_) (fun gc => ?_)
    · exact Fp_some
    · refine Fp_ite (fun gc => ?_) (fun gc => ?_)
      · exact Fp_some
      · refine Fp_ite (fun gc => ?_) (fun gc => ?_)
        · refine Fp_ite (fun gc => ?_) (fun gc => ?_)
          · refine Fp_bd (Ft_J0_charAt_5068e s1 a2 h2) (fun r6 h7 => ?_)
            refine Fp_ite (fun gc => ?_) (fun gc => ?_)
            · exact (ih s1 (qw (a2 + 1)) h7)
            · exact Fp_some
          · exact Fp_none
        · exact Fp_none
theorem F_DX4_isWord  (s1 : Nat) (h : qH)  : Fp (fun _ _ => False) h (DX4_isWord s1 h) := by
  unfold DX4_isWord
  refine Fp_ite (fun gc => ?_) (fun gc => ?_)
  · exact Fp_some
  · refine Fp_bd (Ft_J0_length_8abf5 s1 h) (fun r9 h10 => ?_)
    refine Fp_ite (fun gc => ?_) (fun gc => ?_)
    · exact (F_DX4_isWord_l28 LF s1 0 h10)
    · exact Fp_some
theorem F_DX4_emit  (a1 : Int) (h : qH)  : Fp (fun (i k : Nat) => (i = 2 ∧ k = 5) ∨ i = 23) h (DX4_emit a1 h) := by
  unfold DX4_emit
  refine Fp_ite (fun gc => ?_) (fun gc => ?_)
  · exact Fp_some
  · refine Fp_ite (fun gc => ?_) (fun gc => ?_)
    · exact Fp_some
    · refine Fp_ite (fun gc => ?_) (fun gc => ?_)
      · refine Fp_ite (fun gc => ?_) (fun gc => ?_)
        · refine Fp_qu (by first | omega | (simp only []; omega)) (fun h1 => ?_)
          refine Fp_qu (by first | omega | (simp only []; omega)) (fun h2 => ?_)
          exact Fp_some
        · exact Fp_none
      · exact Fp_none
theorem F_DX4_keepsWord  (h : qH)  : Fp (fun _ _ => False) h (DX4_keepsWord h) := by
  unfold DX4_keepsWord
  refine Fp_bd ((F_DX4_isWord 13 h).mono (fun i k g => g.elim)) (fun r1 h2 => ?_)
  refine Fp_ite (fun gc => ?_) (fun gc => ?_)
  · refine Fp_bd ((F_DX4_isWord 14 h2).mono (fun i k g => g.elim)) (fun r4 h5 => ?_)
    refine Fp_ite (fun gc => ?_) (fun gc => ?_)
    · refine Fp_bd ((F_DX4_isWord 15 h5).mono (fun i k g => g.elim)) (fun r7 h8 => ?_)
      refine Fp_ite (fun gc => ?_) (fun gc => ?_)
      · refine Fp_bd ((F_DX4_isWord 16 h8).mono (fun i k g => g.elim)) (fun r10 h11 => ?_)
        refine Fp_ite (fun gc => ?_) (fun gc => ?_)
        · refine Fp_bd ((F_DX4_isWord 17 h11).mono (fun i k g => g.elim)) (fun r13 h14 => ?_)
          refine Fp_ite (fun gc => ?_) (fun gc => ?_)
          · refine Fp_bd ((F_DX4_isWord 18 h14).mono (fun i k g => g.elim)) (fun r16 h17 => ?_)
            refine Fp_ite (fun gc => ?_) (fun gc => ?_)
            · refine Fp_bd ((F_DX4_isWord 19 h17).mono (fun i k g => g.elim)) (fun r19 h20 => ?_)
              refine Fp_ite (fun gc => ?_) (fun gc => ?_)
              · exact Fp_some
              · exact Fp_some
            · exact Fp_some
          · exact Fp_some
        · exact Fp_some
      · exact Fp_some
    · exact Fp_some
  · exact Fp_some
theorem F_DX4_windWord  (h : qH)  : Fp (fun _ _ => False) h (DX4_windWord h) := by
  unfold DX4_windWord
  refine Fp_bd ((F_DX4_isWord 20 h).mono (fun i k g => g.elim)) (fun r1 h2 => ?_)
  refine Fp_ite (fun gc => ?_) (fun gc => ?_)
  · refine Fp_bd ((F_DX4_isWord 21 h2).mono (fun i k g => g.elim)) (fun r4 h5 => ?_)
    refine Fp_ite (fun gc => ?_) (fun gc => ?_)
    · refine Fp_bd ((F_DX4_isWord 19 h5).mono (fun i k g => g.elim)) (fun r7 h8 => ?_)
      refine Fp_ite (fun gc => ?_) (fun gc => ?_)
      · refine Fp_bd ((F_DX4_isWord 22 h8).mono (fun i k g => g.elim)) (fun r10 h11 => ?_)
        refine Fp_ite (fun gc => ?_) (fun gc => ?_)
        · exact Fp_some
        · exact Fp_some
      · exact Fp_some
    · exact Fp_some
  · exact Fp_some
theorem F_DX4_atom_b88 (f_X4_truth : Int → qH → Option (Int × qH)) (f_X4_both : Int → qH → Option (Int × qH)) (f_X4_unit : Int → qH → Option (Int × qH)) (f_X4_sum : Int → Int → qH → Option (Int × qH)) (f_X4_term : Int → Int → qH → Option (Int × qH)) (f_X4_atom : Int → Int → qH → Option (Int × qH)) (b0 : Int) (h : qH) (f_X4_truth_h : ∀ (x0 : Int) (hx : qH), Fp (fun (i k : Nat) => (i = 2 ∧ 1 ≤ k ∧ k ≤ 2) ∨ (i = 2 ∧ 5 ≤ k ∧ k ≤ 9) ∨ i = 23) hx (f_X4_truth x0 hx)) (f_X4_both_h : ∀ (x0 : Int) (hx : qH), Fp (fun (i k : Nat) => (i = 2 ∧ 1 ≤ k ∧ k ≤ 2) ∨ (i = 2 ∧ 5 ≤ k ∧ k ≤ 9) ∨ i = 23) hx (f_X4_both x0 hx)) (f_X4_unit_h : ∀ (x0 : Int) (hx : qH), Fp (fun (i k : Nat) => (i = 2 ∧ 1 ≤ k ∧ k ≤ 2) ∨ (i = 2 ∧ 5 ≤ k ∧ k ≤ 9) ∨ i = 23) hx (f_X4_unit x0 hx)) (f_X4_sum_h : ∀ (x0 : Int) (x1 : Int) (hx : qH), Fp (fun (i k : Nat) => (i = 2 ∧ 1 ≤ k ∧ k ≤ 2) ∨ (i = 2 ∧ 5 ≤ k ∧ k ≤ 9) ∨ i = 23) hx (f_X4_sum x0 x1 hx)) (f_X4_term_h : ∀ (x0 : Int) (x1 : Int) (hx : qH), Fp (fun (i k : Nat) => (i = 2 ∧ 1 ≤ k ∧ k ≤ 2) ∨ (i = 2 ∧ 5 ≤ k ∧ k ≤ 9) ∨ i = 23) hx (f_X4_term x0 x1 hx)) (f_X4_atom_h : ∀ (x0 : Int) (x1 : Int) (hx : qH), Fp (fun (i k : Nat) => (i = 2 ∧ 1 ≤ k ∧ k ≤ 2) ∨ (i = 2 ∧ 5 ≤ k ∧ k ≤ 9) ∨ i = 23) hx (f_X4_atom x0 x1 hx)) : Fp (fun (i k : Nat) => (i = 2 ∧ 1 ≤ k ∧ k ≤ 2) ∨ (i = 2 ∧ 5 ≤ k ∧ k ≤ 9) ∨ i = 23) h (DX4_atom_b88 f_X4_truth f_X4_both f_X4_unit f_X4_sum f_X4_term f_X4_atom b0 h) := by
  unfold DX4_atom_b88
  refine Fp_ite (fun gc => ?_) (fun gc => ?_)
  · refine Fp_bd ((F_DX4_emit (qw (1000 + b0)) h).mono (fun i k g => by rcases g with g | g <;> omega)) (fun r1 h2 => ?_)
    refine Fp_bd ((F_DX4_advance h2).mono (fun i k g => by omega)) (fun r4 h5 => ?_)
    exact Fp_some
  · refine Fp_bd ((F_DX4_refuse 2 h).mono (fun i k g => by omega)) (fun r7 h8 => ?_)
    refine Fp_ite (fun gc => ?_) (fun gc => ?_)
    · exact Fp_some
    · exact Fp_none
theorem F_DX4_atom (f_X4_truth : Int → qH → Option (Int × qH)) (f_X4_both : Int → qH → Option (Int × qH)) (f_X4_unit : Int → qH → Option (Int × qH)) (f_X4_sum : Int → Int → qH → Option (Int × qH)) (f_X4_term : Int → Int → qH → Option (Int × qH)) (f_X4_atom : Int → Int → qH → Option (Int × qH)) (a1 : Int) (a2 : Int) (h : qH) (f_X4_truth_h : ∀ (x0 : Int) (hx : qH), Fp (fun (i k : Nat) => (i = 2 ∧ 1 ≤ k ∧ k ≤ 2) ∨ (i = 2 ∧ 5 ≤ k ∧ k ≤ 9) ∨ i = 23) hx (f_X4_truth x0 hx)) (f_X4_both_h : ∀ (x0 : Int) (hx : qH), Fp (fun (i k : Nat) => (i = 2 ∧ 1 ≤ k ∧ k ≤ 2) ∨ (i = 2 ∧ 5 ≤ k ∧ k ≤ 9) ∨ i = 23) hx (f_X4_both x0 hx)) (f_X4_unit_h : ∀ (x0 : Int) (hx : qH), Fp (fun (i k : Nat) => (i = 2 ∧ 1 ≤ k ∧ k ≤ 2) ∨ (i = 2 ∧ 5 ≤ k ∧ k ≤ 9) ∨ i = 23) hx (f_X4_unit x0 hx)) (f_X4_sum_h : ∀ (x0 : Int) (x1 : Int) (hx : qH), Fp (fun (i k : Nat) => (i = 2 ∧ 1 ≤ k ∧ k ≤ 2) ∨ (i = 2 ∧ 5 ≤ k ∧ k ≤ 9) ∨ i = 23) hx (f_X4_sum x0 x1 hx)) (f_X4_term_h : ∀ (x0 : Int) (x1 : Int) (hx : qH), Fp (fun (i k : Nat) => (i = 2 ∧ 1 ≤ k ∧ k ≤ 2) ∨ (i = 2 ∧ 5 ≤ k ∧ k ≤ 9) ∨ i = 23) hx (f_X4_term x0 x1 hx)) (f_X4_atom_h : ∀ (x0 : Int) (x1 : Int) (hx : qH), Fp (fun (i k : Nat) => (i = 2 ∧ 1 ≤ k ∧ k ≤ 2) ∨ (i = 2 ∧ 5 ≤ k ∧ k ≤ 9) ∨ i = 23) hx (f_X4_atom x0 x1 hx)) : Fp (fun (i k : Nat) => (i = 2 ∧ 1 ≤ k ∧ k ≤ 2) ∨ (i = 2 ∧ 5 ≤ k ∧ k ≤ 9) ∨ i = 23) h (DX4_atom f_X4_truth f_X4_both f_X4_unit f_X4_sum f_X4_term f_X4_atom a1 a2 h) := by
  unfold DX4_atom
  refine Fp_ite (fun gc => ?_) (fun gc => ?_)
  · refine Fp_ite (fun gc => ?_) (fun gc => ?_)
    · refine Fp_ite (fun gc => ?_) (fun gc => ?_)
      · refine Fp_bd ((F_DX4_windWord h).mono (fun i k g => g.elim)) (fun r10 h11 => ?_)
        exact (F_DX4_atom_b88 f_X4_truth f_X4_both f_X4_unit f_X4_sum f_X4_term f_X4_atom r10 h11 f_X4_truth_h f_X4_both_h f_X4_unit_h f_X4_sum_h f_X4_term_h f_X4_atom_h)
      · refine Fp_bd ((F_DX4_keepsWord h).mono (fun i k g => g.elim)) (fun r13 h14 => ?_)
        exact (F_DX4_atom_b88 f_X4_truth f_X4_both f_X4_unit f_X4_sum f_X4_term f_X4_atom r13 h14 f_X4_truth_h f_X4_both_h f_X4_unit_h f_X4_sum_h f_X4_term_h f_X4_atom_h)
    · refine Fp_bd ((F_DX4_emit (h.1 2 9) h).mono (fun i k g => by rcases g with g | g <;> omega)) (fun r16 h17 => ?_)
      refine Fp_bd ((F_DX4_advance h17).mono (fun i k g => by omega)) (fun r19 h20 => ?_)
      exact Fp_some
  · refine Fp_ite (fun gc => ?_) (fun gc => ?_)
    · refine Fp_bd ((F_DX4_advance h).mono (fun i k g => by omega)) (fun r22 h23 => ?_)
      refine Fp_bd (f_X4_sum_h (qw (a1 + 1)) a2 h23) (fun r25 h26 => ?_)
      refine Fp_ite (fun gc => ?_) (fun gc => ?_)
      · exact Fp_some
      · refine Fp_bd ((F_DX4_takeSign 41 h26).mono (fun i k g => by rcases g with g | g <;> omega)) (fun r28 h29 => ?_)
        refine Fp_ite (fun gc => ?_) (fun gc => ?_)
        · exact Fp_some
        · exact Fp_some
    · refine Fp_bd ((F_DX4_refuse 4 h).mono (fun i k g => by omega)) (fun r31 h32 => ?_)
      refine Fp_ite (fun gc => ?_) (fun gc => ?_)
      · exact Fp_some
      · exact Fp_none
theorem F_DX4_term_l10 (f_X4_truth : Int → qH → Option (Int × qH)) (f_X4_both : Int → qH → Option (Int × qH)) (f_X4_unit : Int → qH → Option (Int × qH)) (f_X4_sum : Int → Int → qH → Option (Int × qH)) (f_X4_term : Int → Int → qH → Option (Int × qH)) (f_X4_atom : Int → Int → qH → Option (Int × qH)) (f_X4_truth_h : ∀ (x0 : Int) (hx : qH), Fp (fun (i k : Nat) => (i = 2 ∧ 1 ≤ k ∧ k ≤ 2) ∨ (i = 2 ∧ 5 ≤ k ∧ k ≤ 9) ∨ i = 23) hx (f_X4_truth x0 hx)) (f_X4_both_h : ∀ (x0 : Int) (hx : qH), Fp (fun (i k : Nat) => (i = 2 ∧ 1 ≤ k ∧ k ≤ 2) ∨ (i = 2 ∧ 5 ≤ k ∧ k ≤ 9) ∨ i = 23) hx (f_X4_both x0 hx)) (f_X4_unit_h : ∀ (x0 : Int) (hx : qH), Fp (fun (i k : Nat) => (i = 2 ∧ 1 ≤ k ∧ k ≤ 2) ∨ (i = 2 ∧ 5 ≤ k ∧ k ≤ 9) ∨ i = 23) hx (f_X4_unit x0 hx)) (f_X4_sum_h : ∀ (x0 : Int) (x1 : Int) (hx : qH), Fp (fun (i k : Nat) => (i = 2 ∧ 1 ≤ k ∧ k ≤ 2) ∨ (i = 2 ∧ 5 ≤ k ∧ k ≤ 9) ∨ i = 23) hx (f_X4_sum x0 x1 hx)) (f_X4_term_h : ∀ (x0 : Int) (x1 : Int) (hx : qH), Fp (fun (i k : Nat) => (i = 2 ∧ 1 ≤ k ∧ k ≤ 2) ∨ (i = 2 ∧ 5 ≤ k ∧ k ≤ 9) ∨ i = 23) hx (f_X4_term x0 x1 hx)) (f_X4_atom_h : ∀ (x0 : Int) (x1 : Int) (hx : qH), Fp (fun (i k : Nat) => (i = 2 ∧ 1 ≤ k ∧ k ≤ 2) ∨ (i = 2 ∧ 5 ≤ k ∧ k ≤ 9) ∨ i = 23) hx (f_X4_atom x0 x1 hx)) : ∀ (n : Nat) (a1 : Int) (a2 : Int) (a3 : Int) (a4 : Int) (h : qH), Fp (fun (i k : Nat) => (i = 2 ∧ 1 ≤ k ∧ k ≤ 2) ∨ (i = 2 ∧ 5 ≤ k ∧ k ≤ 9) ∨ i = 23) h (DX4_term_l10 f_X4_truth f_X4_both f_X4_unit f_X4_sum f_X4_term f_X4_atom n a1 a2 a3 a4 h) := by
  intro n
  induction n with
  | zero =>
    intro a1 a2 a3 a4 h
    exact Fp_none
  | succ n ih =>
    intro a1 a2 a3 a4 h
    rw [DX4_term_l10.eq_2]
    refine Fp_ite (fun gc => ?_) (fun gc => ?_)
    · refine Fp_ite (fun gc => ?_) (fun gc => ?_)
      · exact Fp_some
      · exact Fp_none
    · refine Fp_ite (fun gc => ?_) (fun gc => ?_)
      · refine Fp_ite (fun gc => ?_) (fun gc => ?_)
        · exact Fp_some
        · exact Fp_none
      · refine Fp_ite (fun gc => ?_) (fun gc => ?_)
        · refine Fp_ite (fun gc => ?_) (fun gc => ?_)
          · exact Fp_some
          · exact Fp_none
        · refine Fp_bd ((F_DX4_advance h).mono (fun i k g => by omega)) (fun r1 h2 => ?_)
          refine Fp_bd (f_X4_atom_h a1 a2 h2) (fun r4 h5 => ?_)
          refine Fp_bd ((F_DX4_emit 2042 h5).mono (fun i k g => by rcases g with g | g <;> omega)) (fun r7 h8 => ?_)
          exact (ih a1 a2 r4 (qw (a4 + 1)) h8)
theorem F_DX4_term (f_X4_truth : Int → qH → Option (Int × qH)) (f_X4_both : Int → qH → Option (Int × qH)) (f_X4_unit : Int → qH → Option (Int × qH)) (f_X4_sum : Int → Int → qH → Option (Int × qH)) (f_X4_term : Int → Int → qH → Option (Int × qH)) (f_X4_atom : Int → Int → qH → Option (Int × qH)) (a1 : Int) (a2 : Int) (h : qH) (f_X4_truth_h : ∀ (x0 : Int) (hx : qH), Fp (fun (i k : Nat) => (i = 2 ∧ 1 ≤ k ∧ k ≤ 2) ∨ (i = 2 ∧ 5 ≤ k ∧ k ≤ 9) ∨ i = 23) hx (f_X4_truth x0 hx)) (f_X4_both_h : ∀ (x0 : Int) (hx : qH), Fp (fun (i k : Nat) => (i = 2 ∧ 1 ≤ k ∧ k ≤ 2) ∨ (i = 2 ∧ 5 ≤ k ∧ k ≤ 9) ∨ i = 23) hx (f_X4_both x0 hx)) (f_X4_unit_h : ∀ (x0 : Int) (hx : qH), Fp (fun (i k : Nat) => (i = 2 ∧ 1 ≤ k ∧ k ≤ 2) ∨ (i = 2 ∧ 5 ≤ k ∧ k ≤ 9) ∨ i = 23) hx (f_X4_unit x0 hx)) (f_X4_sum_h : ∀ (x0 : Int) (x1 : Int) (hx : qH), Fp (fun (i k : Nat) => (i = 2 ∧ 1 ≤ k ∧ k ≤ 2) ∨ (i = 2 ∧ 5 ≤ k ∧ k ≤ 9) ∨ i = 23) hx (f_X4_sum x0 x1 hx)) (f_X4_term_h : ∀ (x0 : Int) (x1 : Int) (hx : qH), Fp (fun (i k : Nat) => (i = 2 ∧ 1 ≤ k ∧ k ≤ 2) ∨ (i = 2 ∧ 5 ≤ k ∧ k ≤ 9) ∨ i = 23) hx (f_X4_term x0 x1 hx)) (f_X4_atom_h : ∀ (x0 : Int) (x1 : Int) (hx : qH), Fp (fun (i k : Nat) => (i = 2 ∧ 1 ≤ k ∧ k ≤ 2) ∨ (i = 2 ∧ 5 ≤ k ∧ k ≤ 9) ∨ i = 23) hx (f_X4_atom x0 x1 hx)) : Fp (fun (i k : Nat) => (i = 2 ∧ 1 ≤ k ∧ k ≤ 2) ∨ (i = 2 ∧ 5 ≤ k ∧ k ≤ 9) ∨ i = 23) h (DX4_term f_X4_truth f_X4_both f_X4_unit f_X4_sum f_X4_term f_X4_atom a1 a2 h) := by
  unfold DX4_term
  refine Fp_bd (f_X4_atom_h a1 a2 h) (fun r10 h11 => ?_)
  exact (F_DX4_term_l10 f_X4_truth f_X4_both f_X4_unit f_X4_sum f_X4_term f_X4_atom f_X4_truth_h f_X4_both_h f_X4_unit_h f_X4_sum_h f_X4_term_h f_X4_atom_h LF a1 a2 r10 0 h11)
theorem F_DX4_sum_b40 (f_X4_truth : Int → qH → Option (Int × qH)) (f_X4_both : Int → qH → Option (Int × qH)) (f_X4_unit : Int → qH → Option (Int × qH)) (f_X4_sum : Int → Int → qH → Option (Int × qH)) (f_X4_term : Int → Int → qH → Option (Int × qH)) (f_X4_atom : Int → Int → qH → Option (Int × qH)) (k10 : Int → Int → Int → Int → qH → Option (Int × qH)) (a1 : Int) (a2 : Int) (a4 : Int) (h : qH) (f_X4_truth_h : ∀ (x0 : Int) (hx : qH), Fp (fun (i k : Nat) => (i = 2 ∧ 1 ≤ k ∧ k ≤ 2) ∨ (i = 2 ∧ 5 ≤ k ∧ k ≤ 9) ∨ i = 23) hx (f_X4_truth x0 hx)) (f_X4_both_h : ∀ (x0 : Int) (hx : qH), Fp (fun (i k : Nat) => (i = 2 ∧ 1 ≤ k ∧ k ≤ 2) ∨ (i = 2 ∧ 5 ≤ k ∧ k ≤ 9) ∨ i = 23) hx (f_X4_both x0 hx)) (f_X4_unit_h : ∀ (x0 : Int) (hx : qH), Fp (fun (i k : Nat) => (i = 2 ∧ 1 ≤ k ∧ k ≤ 2) ∨ (i = 2 ∧ 5 ≤ k ∧ k ≤ 9) ∨ i = 23) hx (f_X4_unit x0 hx)) (f_X4_sum_h : ∀ (x0 : Int) (x1 : Int) (hx : qH), Fp (fun (i k : Nat) => (i = 2 ∧ 1 ≤ k ∧ k ≤ 2) ∨ (i = 2 ∧ 5 ≤ k ∧ k ≤ 9) ∨ i = 23) hx (f_X4_sum x0 x1 hx)) (f_X4_term_h : ∀ (x0 : Int) (x1 : Int) (hx : qH), Fp (fun (i k : Nat) => (i = 2 ∧ 1 ≤ k ∧ k ≤ 2) ∨ (i = 2 ∧ 5 ≤ k ∧ k ≤ 9) ∨ i = 23) hx (f_X4_term x0 x1 hx)) (f_X4_atom_h : ∀ (x0 : Int) (x1 : Int) (hx : qH), Fp (fun (i k : Nat) => (i = 2 ∧ 1 ≤ k ∧ k ≤ 2) ∨ (i = 2 ∧ 5 ≤ k ∧ k ≤ 9) ∨ i = 23) hx (f_X4_atom x0 x1 hx)) (k10_h : ∀ (x0 : Int) (x1 : Int) (x2 : Int) (x3 : Int) (hx : qH), Fp (fun (i k : Nat) => (i = 2 ∧ 1 ≤ k ∧ k ≤ 2) ∨ (i = 2 ∧ 5 ≤ k ∧ k ≤ 9) ∨ i = 23) hx (k10 x0 x1 x2 x3 hx)) : Fp (fun (i k : Nat) => (i = 2 ∧ 1 ≤ k ∧ k ≤ 2) ∨ (i = 2 ∧ 5 ≤ k ∧ k ≤ 9) ∨ i = 23) h (DX4_sum_b40 f_X4_truth f_X4_both f_X4_unit f_X4_sum f_X4_term f_X4_atom k10 a1 a2 a4 h) := by
  unfold DX4_sum_b40
  refine Fp_let (fun v1 => ?_)
  refine Fp_bd ((F_DX4_advance h).mono (fun i k g => by omega)) (fun r2 h3 => ?_)
  refine Fp_bd (f_X4_term_h a1 a2 h3) (fun r5 h6 => ?_)
  refine Fp_bd ((F_DX4_emit (qw (2000 + v1)) h6).mono (fun i k g => by rcases g with g | g <;> omega)) (fun r8 h9 => ?_)
  exact (k10_h a1 a2 r5 (qw (a4 + 1)) h9)
theorem F_DX4_sum_l10 (f_X4_truth : Int → qH → Option (Int × qH)) (f_X4_both : Int → qH → Option (Int × qH)) (f_X4_unit : Int → qH → Option (Int × qH)) (f_X4_sum : Int → Int → qH → Option (Int × qH)) (f_X4_term : Int → Int → qH → Option (Int × qH)) (f_X4_atom : Int → Int → qH → Option (Int × qH)) (f_X4_truth_h : ∀ (x0 : Int) (hx : qH), Fp (fun (i k : Nat) => (i = 2 ∧ 1 ≤ k ∧ k ≤ 2) ∨ (i = 2 ∧ 5 ≤ k ∧ k ≤ 9) ∨ i = 23) hx (f_X4_truth x0 hx)) (f_X4_both_h : ∀ (x0 : Int) (hx : qH), Fp (fun (i k : Nat) => (i = 2 ∧ 1 ≤ k ∧ k ≤ 2) ∨ (i = 2 ∧ 5 ≤ k ∧ k ≤ 9) ∨ i = 23) hx (f_X4_both x0 hx)) (f_X4_unit_h : ∀ (x0 : Int) (hx : qH), Fp (fun (i k : Nat) => (i = 2 ∧ 1 ≤ k ∧ k ≤ 2) ∨ (i = 2 ∧ 5 ≤ k ∧ k ≤ 9) ∨ i = 23) hx (f_X4_unit x0 hx)) (f_X4_sum_h : ∀ (x0 : Int) (x1 : Int) (hx : qH), Fp (fun (i k : Nat) => (i = 2 ∧ 1 ≤ k ∧ k ≤ 2) ∨ (i = 2 ∧ 5 ≤ k ∧ k ≤ 9) ∨ i = 23) hx (f_X4_sum x0 x1 hx)) (f_X4_term_h : ∀ (x0 : Int) (x1 : Int) (hx : qH), Fp (fun (i k : Nat) => (i = 2 ∧ 1 ≤ k ∧ k ≤ 2) ∨ (i = 2 ∧ 5 ≤ k ∧ k ≤ 9) ∨ i = 23) hx (f_X4_term x0 x1 hx)) (f_X4_atom_h : ∀ (x0 : Int) (x1 : Int) (hx : qH), Fp (fun (i k : Nat) => (i = 2 ∧ 1 ≤ k ∧ k ≤ 2) ∨ (i = 2 ∧ 5 ≤ k ∧ k ≤ 9) ∨ i = 23) hx (f_X4_atom x0 x1 hx)) : ∀ (n : Nat) (a1 : Int) (a2 : Int) (a3 : Int) (a4 : Int) (h : qH), Fp (fun (i k : Nat) => (i = 2 ∧ 1 ≤ k ∧ k ≤ 2) ∨ (i = 2 ∧ 5 ≤ k ∧ k ≤ 9) ∨ i = 23) h (DX4_sum_l10 f_X4_truth f_X4_both f_X4_unit f_X4_sum f_X4_term f_X4_atom n a1 a2 a3 a4 h) := by
  intro n
  induction n with
  | zero =>
    intro a1 a2 a3 a4 h
    exact Fp_none
  | succ n ih =>
    intro a1 a2 a3 a4 h
    rw [DX4_sum_l10.eq_2]
    refine Fp_ite (fun gc => ?_) (fun gc => ?_)
    · refine Fp_ite (fun gc => ?_) (fun gc => ?_)
      · exact Fp_some
      · exact Fp_none
    · refine Fp_ite (fun gc => ?_) (fun gc => ?_)
      · refine Fp_ite (fun gc => ?_) (fun gc => ?_)
        · exact Fp_some
        · exact Fp_none
      · refine Fp_ite (fun gc => ?_) (fun gc => ?_)
        · exact (F_DX4_sum_b40 f_X4_truth f_X4_both f_X4_unit f_X4_sum f_X4_term f_X4_atom (DX4_sum_l10 f_X4_truth f_X4_both f_X4_unit f_X4_sum f_X4_term f_X4_atom n) a1 a2 a4 h f_X4_truth_h f_X4_both_h f_X4_unit_h f_X4_sum_h f_X4_term_h f_X4_atom_h (fun x0 x1 x2 x3 hx => ih x0 x1 x2 x3 hx))
        · refine Fp_ite (fun gc => ?_) (fun gc => ?_)
          · refine Fp_ite (fun gc => ?_) (fun gc => ?_)
            · exact Fp_some
            · exact Fp_none
          · exact (F_DX4_sum_b40 f_X4_truth f_X4_both f_X4_unit f_X4_sum f_X4_term f_X4_atom (DX4_sum_l10 f_X4_truth f_X4_both f_X4_unit f_X4_sum f_X4_term f_X4_atom n) a1 a2 a4 h f_X4_truth_h f_X4_both_h f_X4_unit_h f_X4_sum_h f_X4_term_h f_X4_atom_h (fun x0 x1 x2 x3 hx => ih x0 x1 x2 x3 hx))
theorem F_DX4_sum (f_X4_truth : Int → qH → Option (Int × qH)) (f_X4_both : Int → qH → Option (Int × qH)) (f_X4_unit : Int → qH → Option (Int × qH)) (f_X4_sum : Int → Int → qH → Option (Int × qH)) (f_X4_term : Int → Int → qH → Option (Int × qH)) (f_X4_atom : Int → Int → qH → Option (Int × qH)) (a1 : Int) (a2 : Int) (h : qH) (f_X4_truth_h : ∀ (x0 : Int) (hx : qH), Fp (fun (i k : Nat) => (i = 2 ∧ 1 ≤ k ∧ k ≤ 2) ∨ (i = 2 ∧ 5 ≤ k ∧ k ≤ 9) ∨ i = 23) hx (f_X4_truth x0 hx)) (f_X4_both_h : ∀ (x0 : Int) (hx : qH), Fp (fun (i k : Nat) => (i = 2 ∧ 1 ≤ k ∧ k ≤ 2) ∨ (i = 2 ∧ 5 ≤ k ∧ k ≤ 9) ∨ i = 23) hx (f_X4_both x0 hx)) (f_X4_unit_h : ∀ (x0 : Int) (hx : qH), Fp (fun (i k : Nat) => (i = 2 ∧ 1 ≤ k ∧ k ≤ 2) ∨ (i = 2 ∧ 5 ≤ k ∧ k ≤ 9) ∨ i = 23) hx (f_X4_unit x0 hx)) (f_X4_sum_h : ∀ (x0 : Int) (x1 : Int) (hx : qH), Fp (fun (i k : Nat) => (i = 2 ∧ 1 ≤ k ∧ k ≤ 2) ∨ (i = 2 ∧ 5 ≤ k ∧ k ≤ 9) ∨ i = 23) hx (f_X4_sum x0 x1 hx)) (f_X4_term_h : ∀ (x0 : Int) (x1 : Int) (hx : qH), Fp (fun (i k : Nat) => (i = 2 ∧ 1 ≤ k ∧ k ≤ 2) ∨ (i = 2 ∧ 5 ≤ k ∧ k ≤ 9) ∨ i = 23) hx (f_X4_term x0 x1 hx)) (f_X4_atom_h : ∀ (x0 : Int) (x1 : Int) (hx : qH), Fp (fun (i k : Nat) => (i = 2 ∧ 1 ≤ k ∧ k ≤ 2) ∨ (i = 2 ∧ 5 ≤ k ∧ k ≤ 9) ∨ i = 23) hx (f_X4_atom x0 x1 hx)) : Fp (fun (i k : Nat) => (i = 2 ∧ 1 ≤ k ∧ k ≤ 2) ∨ (i = 2 ∧ 5 ≤ k ∧ k ≤ 9) ∨ i = 23) h (DX4_sum f_X4_truth f_X4_both f_X4_unit f_X4_sum f_X4_term f_X4_atom a1 a2 h) := by
  unfold DX4_sum
  refine Fp_bd (f_X4_term_h a1 a2 h) (fun r11 h12 => ?_)
  exact (F_DX4_sum_l10 f_X4_truth f_X4_both f_X4_unit f_X4_sum f_X4_term f_X4_atom f_X4_truth_h f_X4_both_h f_X4_unit_h f_X4_sum_h f_X4_term_h f_X4_atom_h LF a1 a2 r11 0 h12)
theorem F_DX4_unit_b20 (f_X4_truth : Int → qH → Option (Int × qH)) (f_X4_both : Int → qH → Option (Int × qH)) (f_X4_unit : Int → qH → Option (Int × qH)) (f_X4_sum : Int → Int → qH → Option (Int × qH)) (f_X4_term : Int → Int → qH → Option (Int × qH)) (f_X4_atom : Int → Int → qH → Option (Int × qH)) (a1 : Int) (a2 : Int) (h : qH) (f_X4_truth_h : ∀ (x0 : Int) (hx : qH), Fp (fun (i k : Nat) => (i = 2 ∧ 1 ≤ k ∧ k ≤ 2) ∨ (i = 2 ∧ 5 ≤ k ∧ k ≤ 9) ∨ i = 23) hx (f_X4_truth x0 hx)) (f_X4_both_h : ∀ (x0 : Int) (hx : qH), Fp (fun (i k : Nat) => (i = 2 ∧ 1 ≤ k ∧ k ≤ 2) ∨ (i = 2 ∧ 5 ≤ k ∧ k ≤ 9) ∨ i = 23) hx (f_X4_both x0 hx)) (f_X4_unit_h : ∀ (x0 : Int) (hx : qH), Fp (fun (i k : Nat) => (i = 2 ∧ 1 ≤ k ∧ k ≤ 2) ∨ (i = 2 ∧ 5 ≤ k ∧ k ≤ 9) ∨ i = 23) hx (f_X4_unit x0 hx)) (f_X4_sum_h : ∀ (x0 : Int) (x1 : Int) (hx : qH), Fp (fun (i k : Nat) => (i = 2 ∧ 1 ≤ k ∧ k ≤ 2) ∨ (i = 2 ∧ 5 ≤ k ∧ k ≤ 9) ∨ i = 23) hx (f_X4_sum x0 x1 hx)) (f_X4_term_h : ∀ (x0 : Int) (x1 : Int) (hx : qH), Fp (fun (i k : Nat) => (i = 2 ∧ 1 ≤ k ∧ k ≤ 2) ∨ (i = 2 ∧ 5 ≤ k ∧ k ≤ 9) ∨ i = 23) hx (f_X4_term x0 x1 hx)) (f_X4_atom_h : ∀ (x0 : Int) (x1 : Int) (hx : qH), Fp (fun (i k : Nat) => (i = 2 ∧ 1 ≤ k ∧ k ≤ 2) ∨ (i = 2 ∧ 5 ≤ k ∧ k ≤ 9) ∨ i = 23) hx (f_X4_atom x0 x1 hx)) : Fp (fun (i k : Nat) => (i = 2 ∧ 1 ≤ k ∧ k ≤ 2) ∨ (i = 2 ∧ 5 ≤ k ∧ k ≤ 9) ∨ i = 23) h (DX4_unit_b20 f_X4_truth f_X4_both f_X4_unit f_X4_sum f_X4_term f_X4_atom a1 a2 h) := by
  unfold DX4_unit_b20
  refine Fp_ite (fun gc => ?_) (fun gc => ?_)
  · refine Fp_bd ((F_DX4_advance h).mono (fun i k g => by omega)) (fun r1 h2 => ?_)
    refine Fp_ite (fun gc => ?_) (fun gc => ?_)
    · refine Fp_bd (f_X4_unit_h (qw (a1 + 1)) h2) (fun r4 h5 => ?_)
      refine Fp_bd ((F_DX4_emit 2003 h5).mono (fun i k g => by rcases g with g | g <;> omega)) (fun r7 h8 => ?_)
      refine Fp_ite (fun gc => ?_) (fun gc => ?_)
      · exact Fp_some
      · exact Fp_none
    · refine Fp_bd (f_X4_truth_h (qw (a1 + 1)) h2) (fun r10 h11 => ?_)
      refine Fp_ite (fun gc => ?_) (fun gc => ?_)
      · exact Fp_some
      · refine Fp_bd ((F_DX4_takeSign 93 h11).mono (fun i k g => by rcases g with g | g <;> omega)) (fun r13 h14 => ?_)
        refine Fp_ite (fun gc => ?_) (fun gc => ?_)
        · exact Fp_some
        · exact Fp_some
  · refine Fp_bd ((F_DX4_refuse 4 h).mono (fun i k g => by omega)) (fun r16 h17 => ?_)
    refine Fp_ite (fun gc => ?_) (fun gc => ?_)
    · exact Fp_some
    · exact Fp_none
