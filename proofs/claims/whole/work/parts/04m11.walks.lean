def DX10_isShore (a1 : Int) (h : qH) : Option (Int × qH) := (qbd (DX10_within a1 0 (qw (h.1 213 4 - 1)) h) fun r3 h4 => (if r3 = 0 ∨ r3 = 1 then some (r3, h4) else none))
set_option maxRecDepth 100000 in
theorem TX10_isShore {L : Nat} {xs : Nat → Int32} (a1 : Int) (h : qH) : qMet L xs yX10_isShore cX10_isShore 3 (some .boolean) 4 2 [qr 212, ql a1] h (DX10_isShore a1 h) := by
  refine qMet.of (by decide +kernel) (Or.inr (Or.inr (Or.inr (Or.inr (Or.inl ⟨rfl, rfl⟩))))) (Nat.le_of_ble_eq_true rfl) ?_
  show qS L xs cX10_isShore "BottlePostModel" 3 2 4 0 [(0, qr 212), (1, ql a1)] [] h (DX10_isShore a1 h)
  unfold DX10_isShore
  refine S_lload_n 1 dX10_isShore_0 rfl rfl rfl ?_
  refine S_lconst (a := 0) dX10_isShore_1 rfl (by decide) (by decide) ?_
  refine S_aload_n 0 dX10_isShore_2 rfl rfl rfl ?_
  refine S_getr (j := 213) (o := 1) 1 qC_10 (by decide) (by decide) qk_212 rfl rfl (by decide) tw_1227 dX10_isShore_3 rfl ?_
  refine S_iconst (a := 4) dX10_isShore_6 rfl (by decide) ?_
  refine S_pick_t ((0 : Int) ≤ 4 ∧ (4 : Int) < 5736) (by decide) ?_
  refine S_iald (N := 5736) qk_213 rfl dX10_isShore_7 rfl (fun g1 g2 => ?_)
  refine S_iconst (a := 1) dX10_isShore_8 rfl (by decide) ?_
  refine S_isub dX10_isShore_9 rfl ?_
  refine S_i2l dX10_isShore_10 rfl ?_
  refine S_callS_i (as := [ql a1, ql 0, ql (qw (h.1 213 4 - 1))]) (st := []) (fun _ => rfl) (TX10_within a1 0 (qw (h.1 213 4 - 1)) h) yv_X10_within tw_1352 (by decide) rfl rfl (Nat.le_of_ble_eq_true rfl) dX10_isShore_11 rfl (fun r3 h4 e5 => ?_)
  exact S_zret dX10_isShore_14
def DX10_noThrow (a1 : Int) (a2 : Int) (h : qH) : Option (Int × qH) := (qbd (DX10_isShore a1 h) fun r1 h2 => (if r1 = 0 then some ((-2), h2) else (if a2 = (-1) then (if ¬ a1 = a2 then some (0, h2) else some ((-2), h2)) else (qbd (DX10_isShore a2 h2) fun r4 h5 => (if r4 = 0 then some ((-2), h5) else (if ¬ a1 = a2 then some (0, h5) else some ((-2), h5)))))))
set_option maxRecDepth 100000 in
theorem TX10_noThrow {L : Nat} {xs : Nat → Int32} (a1 : Int) (a2 : Int) (h : qH) : qMet L xs yX10_noThrow cX10_noThrow 3 (some .int) 1 3 [qr 212, qi a1, qi a2] h (DX10_noThrow a1 a2 h) := by
  refine qMet.of (by decide +kernel) (Or.inr (Or.inl ⟨rfl, rfl⟩)) (Nat.le_of_ble_eq_true rfl) ?_
  show qS L xs cX10_noThrow "BottlePostModel" 3 3 1 0 [(0, qr 212), (1, qi a1), (2, qi a2)] [] h (DX10_noThrow a1 a2 h)
  unfold DX10_noThrow
  refine S_aload_n 0 dX10_noThrow_0 rfl rfl rfl ?_
  refine S_iload_n 1 dX10_noThrow_1 rfl rfl rfl ?_
  refine S_i2l dX10_noThrow_2 rfl ?_
  refine S_callV_i (as := [ql a1]) (st := []) (fun _ => rfl) (TX10_isShore a1 h) yv_X10_isShore tw_1481 qC_10 qk_212 (by decide) rfl rfl (Nat.le_of_ble_eq_true rfl) dX10_noThrow_3 rfl (fun r1 h2 e3 => ?_)
  refine S_if_eq (tgt := 28) dX10_noThrow_6 (by decide) rfl (fun _ => ?_) (fun _ => ?_)
  · refine S_bipush (a := (-2)) dX10_noThrow_28 rfl (by decide) (by decide) ?_
    exact S_iret dX10_noThrow_30
  · refine S_iload_n 2 dX10_noThrow_9 rfl rfl rfl ?_
    refine S_iconst (a := (-1)) dX10_noThrow_10 rfl (by decide) ?_
    refine S_icmp_eq (tgt := 23) dX10_noThrow_11 (by decide) rfl (fun _ => ?_) (fun _ => ?_)
    · refine S_iload_n 1 dX10_noThrow_23 rfl rfl rfl ?_
      refine S_iload_n 2 dX10_noThrow_24 rfl rfl rfl ?_
      refine S_icmp_ne (tgt := 31) dX10_noThrow_25 (by decide) rfl (fun _ => ?_) (fun _ => ?_)
      · refine S_iconst (a := 0) dX10_noThrow_31 rfl (by decide) ?_
        exact S_iret dX10_noThrow_32
      · refine S_bipush (a := (-2)) dX10_noThrow_28 rfl (by decide) (by decide) ?_
        exact S_iret dX10_noThrow_30
    · refine S_aload_n 0 dX10_noThrow_14 rfl rfl rfl ?_
      refine S_iload_n 2 dX10_noThrow_15 rfl rfl rfl ?_
      refine S_i2l dX10_noThrow_16 rfl ?_
      refine S_callV_i (as := [ql a2]) (st := []) (fun _ => rfl) (TX10_isShore a2 h2) yv_X10_isShore tw_1481 qC_10 qk_212 (by decide) rfl rfl (Nat.le_of_ble_eq_true rfl) dX10_noThrow_17 rfl (fun r4 h5 e6 => ?_)
      refine S_if_eq (tgt := 28) dX10_noThrow_20 (by decide) rfl (fun _ => ?_) (fun _ => ?_)
      · refine S_bipush (a := (-2)) dX10_noThrow_28 rfl (by decide) (by decide) ?_
        exact S_iret dX10_noThrow_30
      · refine S_iload_n 1 dX10_noThrow_23 rfl rfl rfl ?_
        refine S_iload_n 2 dX10_noThrow_24 rfl rfl rfl ?_
        refine S_icmp_ne (tgt := 31) dX10_noThrow_25 (by decide) rfl (fun _ => ?_) (fun _ => ?_)
        · refine S_iconst (a := 0) dX10_noThrow_31 rfl (by decide) ?_
          exact S_iret dX10_noThrow_32
        · refine S_bipush (a := (-2)) dX10_noThrow_28 rfl (by decide) (by decide) ?_
          exact S_iret dX10_noThrow_30
def DX10_best (a1 : Int) (a2 : Int) (a3 : Int) (h : qH) : Option (Int × qH) := (qlt (qu h 212 0 0) fun h1 => (qbd (DX10_noThrow a1 a2 h1) fun r2 h3 => (if ¬ r2 = 0 then some ((-2), h3) else (if a2 = (-1) then some ((-2), h3) else (qbd (DX10_within a3 0 2 h3) fun r5 h6 => (if ¬ r5 = 0 then (qbd (DX10_throwsTo a1 h6) fun r8 h9 => (if ¬ r8 = (-1) then (qbd (DX10_bestFrom a1 a2 (h9.1 213 349) h9) fun r13 h14 => (if ¬ r13 = 1000000 then (if ¬ a3 = 0 then (if ¬ a3 = 1 then some (h14.1 212 25, h14) else some (h14.1 212 24, h14)) else some (r13, h14)) else some ((-1), h14))) else some ((-5), h9))) else some ((-2), h6)))))))
set_option maxRecDepth 100000 in
theorem TX10_best {L : Nat} {xs : Nat → Int32} (a1 : Int) (a2 : Int) (a3 : Int) (h : qH) : qMet L xs yX10_best cX10_best 5 (some .int) 1 10 [qr 212, qi a1, qi a2, qi a3] h (DX10_best a1 a2 a3 h) := by
  refine qMet.of (by decide +kernel) (Or.inr (Or.inl ⟨rfl, rfl⟩)) (Nat.le_of_ble_eq_true rfl) ?_
  show qS L xs cX10_best "BottlePostModel" 5 10 1 0 [(0, qr 212), (1, qi a1), (2, qi a2), (3, qi a3)] [] h (DX10_best a1 a2 a3 h)
  unfold DX10_best
  refine S_aload_n 0 dX10_best_0 rfl rfl rfl ?_
  refine S_iconst (a := 0) dX10_best_1 rfl (by decide) ?_
  refine S_puti 0 qC_10 (by decide) (by decide) rfl rfl qk_212 (by decide) tw_1226 dX10_best_2 rfl ?_
  refine S_lh (fun h1 => ?_)
  refine S_aload_n 0 dX10_best_5 rfl rfl rfl ?_
  refine S_iload_n 1 dX10_best_6 rfl rfl rfl ?_
  refine S_iload_n 2 dX10_best_7 rfl rfl rfl ?_
  refine S_callV_i (as := [qi a1, qi a2]) (st := []) (fun _ => rfl) (TX10_noThrow a1 a2 h1) yv_X10_noThrow tw_1713 qC_10 qk_212 (by decide) rfl rfl (Nat.le_of_ble_eq_true rfl) dX10_best_8 rfl (fun r2 h3 e4 => ?_)
  refine S_if_ne (tgt := 31) dX10_best_11 (by decide) rfl (fun _ => ?_) (fun _ => ?_)
  · refine S_bipush (a := (-2)) dX10_best_31 rfl (by decide) (by decide) ?_
    exact S_iret dX10_best_33
  · refine S_iload_n 2 dX10_best_14 rfl rfl rfl ?_
    refine S_iconst (a := (-1)) dX10_best_15 rfl (by decide) ?_
    refine S_icmp_eq (tgt := 31) dX10_best_16 (by decide) rfl (fun _ => ?_) (fun _ => ?_)
    · refine S_bipush (a := (-2)) dX10_best_31 rfl (by decide) (by decide) ?_
      exact S_iret dX10_best_33
    · refine S_iload_n 3 dX10_best_19 rfl rfl rfl ?_
      refine S_i2l dX10_best_20 rfl ?_
      refine S_lconst (a := 0) dX10_best_21 rfl (by decide) (by decide) ?_
      refine S_ldc2 (a := 2) dX10_best_22 rfl (by rw [show Int64.ofInt 2 = (2 : Int64) from by decide]; exact tw_1690) (by decide) ?_
      refine S_callS_i (as := [ql a3, ql 0, ql 2]) (st := []) (fun _ => rfl) (TX10_within a3 0 2 h3) yv_X10_within tw_1352 (by decide) rfl rfl (Nat.le_of_ble_eq_true rfl) dX10_best_25 rfl (fun r5 h6 e7 => ?_)
      refine S_if_ne (tgt := 34) dX10_best_28 (by decide) rfl (fun _ => ?_) (fun _ => ?_)
      · refine S_aload_n 0 dX10_best_34 rfl rfl rfl ?_
        refine S_iload_n 1 dX10_best_35 rfl rfl rfl ?_
        refine S_callV_i (as := [qi a1]) (st := []) (fun _ => rfl) (TX10_throwsTo a1 h6) yv_X10_throwsTo tw_1485 qC_10 qk_212 (by decide) rfl rfl (Nat.le_of_ble_eq_true rfl) dX10_best_36 rfl (fun r8 h9 e10 => ?_)
        refine S_iconst (a := (-1)) dX10_best_39 rfl (by decide) ?_
        refine S_icmp_ne (tgt := 46) dX10_best_40 (by decide) rfl (fun _ => ?_) (fun _ => ?_)
        · refine S_aload_n 0 dX10_best_46 rfl rfl rfl ?_
          refine S_iload_n 1 dX10_best_47 rfl rfl rfl ?_
          refine S_iload_n 2 dX10_best_48 rfl rfl rfl ?_
          refine S_aload_n 0 dX10_best_49 rfl rfl rfl ?_
          refine S_getr (j := 213) (o := 1) 1 qC_10 (by decide) (by decide) qk_212 rfl rfl (by decide) tw_1227 dX10_best_50 rfl ?_
          refine S_sipush (a := 349) dX10_best_53 rfl (by decide) (by decide) ?_
          refine S_pick_t ((0 : Int) ≤ 349 ∧ (349 : Int) < 5736) (by decide) ?_
          refine S_iald (N := 5736) qk_213 rfl dX10_best_56 rfl (fun g11 g12 => ?_)
          refine S_callV_i (as := [qi a1, qi a2, qi (h9.1 213 349)]) (st := []) (fun _ => rfl) (TX10_bestFrom a1 a2 (h9.1 213 349) h9) yv_X10_bestFrom tw_1730 qC_10 qk_212 (by decide) rfl rfl (Nat.le_of_ble_eq_true rfl) dX10_best_57 rfl (fun r13 h14 e15 => ?_)
          refine S_istore (lv' := [(4, qi r13), (0, qr 212), (1, qi a1), (2, qi a2), (3, qi a3)]) dX10_best_60 (by decide) rfl rfl ?_
          refine S_iload 0 dX10_best_62 rfl rfl ?_
          refine S_ldcw (a := 1000000) dX10_best_64 rfl (by rw [show Int32.ofInt 1000000 = (1000000 : Int32) from by decide]; exact tw_1695) (by decide) ?_
          refine S_icmp_ne (tgt := 74) dX10_best_67 (by decide) rfl (fun _ => ?_) (fun _ => ?_)
          · refine S_iload_n 4 dX10_best_74 rfl rfl rfl ?_
            refine S_if_ne (tgt := 83) dX10_best_75 (by decide) rfl (fun _ => ?_) (fun _ => ?_)
            · refine S_iload_n 4 dX10_best_83 rfl rfl rfl ?_
              refine S_iconst (a := 1) dX10_best_84 rfl (by decide) ?_
              refine S_icmp_ne (tgt := 95) dX10_best_85 (by decide) rfl (fun _ => ?_) (fun _ => ?_)
              · refine S_aload_n 1 dX10_best_95 rfl rfl rfl ?_
                refine S_geti 25 qC_10 (by decide) (by decide) qk_212 tw_1251 dX10_best_96 rfl ?_
                exact S_iret dX10_best_99
              · refine S_aload_n 1 dX10_best_88 rfl rfl rfl ?_
                refine S_geti 24 qC_10 (by decide) (by decide) qk_212 tw_1250 dX10_best_89 rfl ?_
                refine S_goto (pc' := 99) dX10_best_92 (by decide) ?_
                exact S_iret dX10_best_99
            · refine S_iload 0 dX10_best_78 rfl rfl ?_
              refine S_goto (pc' := 99) dX10_best_80 (by decide) ?_
              exact S_iret dX10_best_99
          · refine S_iconst (a := (-1)) dX10_best_70 rfl (by decide) ?_
            refine S_goto (pc' := 99) dX10_best_71 (by decide) ?_
            exact S_iret dX10_best_99
        · refine S_bipush (a := (-5)) dX10_best_43 rfl (by decide) (by decide) ?_
          exact S_iret dX10_best_45
      · refine S_bipush (a := (-2)) dX10_best_31 rfl (by decide) (by decide) ?_
        exact S_iret dX10_best_33
def DX10_bitsOf_l4 : Nat → Int → Int → Int → qH → Option (Int × qH)
  | 0, _, _, _, _ => none
  | n + 1, a0, a1, a2, h => (if 8 ≤ a2 then some (a1, h) else (qlt (qw (a1 + qand (qshr a0 a2) 1)) fun v1 => ((DX10_bitsOf_l4 n) a0 v1 (qw (a2 + 1)) h)))
set_option maxRecDepth 100000 in
theorem TX10_bitsOf_l4 {L : Nat} {xs : Nat → Int32} : ∀ (n : Nat) (a0 : Int) (a1 : Int) (a2 : Int) (h : qH), qS L xs cX10_bitsOf "BottlePostModel" 3 1 1 4 [(0, qi a0), (1, qi a1), (2, qi a2)] [] h (DX10_bitsOf_l4 n a0 a1 a2 h) := by
  intro n
  induction n with
  | zero =>
    intro a0 a1 a2 h
    exact S_none
  | succ n ih =>
    intro a0 a1 a2 h
    rw [DX10_bitsOf_l4.eq_2]
    refine S_iload_n 2 dX10_bitsOf_4 rfl rfl rfl ?_
    refine S_bipush (a := 8) dX10_bitsOf_5 rfl (by decide) (by decide) ?_
    refine S_icmp_ge (tgt := 24) dX10_bitsOf_7 (by decide) rfl (fun _ => ?_) (fun _ => ?_)
    · refine S_iload_n 1 dX10_bitsOf_24 rfl rfl rfl ?_
      exact S_iret dX10_bitsOf_25
    · refine S_iload_n 1 dX10_bitsOf_10 rfl rfl rfl ?_
      refine S_iload_n 0 dX10_bitsOf_11 rfl rfl rfl ?_
      refine S_iload_n 2 dX10_bitsOf_12 rfl rfl rfl ?_
      refine S_ishr dX10_bitsOf_13 rfl ?_
      refine S_iconst (a := 1) dX10_bitsOf_14 rfl (by decide) ?_
      refine S_iand dX10_bitsOf_15 rfl ?_
      refine S_iadd dX10_bitsOf_16 rfl ?_
      refine S_istore_n (lv' := [(1, qi (qw (a1 + qand (qshr a0 a2) 1))), (0, qi a0), (2, qi a2)]) dX10_bitsOf_17 rfl (by decide) rfl rfl ?_
      refine S_li (fun v1 => ?_)
      refine S_iinc (lv' := [(2, qi (qw (a2 + 1))), (1, qi v1), (0, qi a0)]) 2 dX10_bitsOf_18 rfl (by decide) rfl rfl ?_
      refine S_goto (pc' := 4) dX10_bitsOf_21 (by decide) ?_
      refine S_sub [2, 1, 0] rfl ?_
      exact ih a0 v1 (qw (a2 + 1)) h
def DX10_bitsOf (a0 : Int) (h : qH) : Option (Int × qH) := (DX10_bitsOf_l4 LF a0 0 0 h)
set_option maxRecDepth 100000 in
theorem TX10_bitsOf {L : Nat} {xs : Nat → Int32} (a0 : Int) (h : qH) : qMet L xs yX10_bitsOf cX10_bitsOf 3 (some .int) 1 1 [qi a0] h (DX10_bitsOf a0 h) := by
  refine qMet.of (by decide +kernel) (Or.inr (Or.inl ⟨rfl, rfl⟩)) (Nat.le_of_ble_eq_true rfl) ?_
  show qS L xs cX10_bitsOf "BottlePostModel" 3 1 1 0 [(0, qi a0)] [] h (DX10_bitsOf a0 h)
  unfold DX10_bitsOf
  refine S_iconst (a := 0) dX10_bitsOf_0 rfl (by decide) ?_
  refine S_istore_n (lv' := [(1, qi 0), (0, qi a0)]) dX10_bitsOf_1 rfl (by decide) rfl rfl ?_
  refine S_iconst (a := 0) dX10_bitsOf_2 rfl (by decide) ?_
  refine S_istore_n (lv' := [(2, qi 0), (1, qi 0), (0, qi a0)]) dX10_bitsOf_3 rfl (by decide) rfl rfl ?_
  refine S_sub [2, 1, 0] rfl ?_
  exact TX10_bitsOf_l4 LF a0 0 0 h
def DX10_isBottle (a1 : Int) (h : qH) : Option (Int × qH) := (qbd (DX10_within a1 0 (qw (h.1 213 348 - 1)) h) fun r3 h4 => (if r3 = 0 ∨ r3 = 1 then some (r3, h4) else none))
set_option maxRecDepth 100000 in
theorem TX10_isBottle {L : Nat} {xs : Nat → Int32} (a1 : Int) (h : qH) : qMet L xs yX10_isBottle cX10_isBottle 3 (some .boolean) 4 2 [qr 212, ql a1] h (DX10_isBottle a1 h) := by
  refine qMet.of (by decide +kernel) (Or.inr (Or.inr (Or.inr (Or.inr (Or.inl ⟨rfl, rfl⟩))))) (Nat.le_of_ble_eq_true rfl) ?_
  show qS L xs cX10_isBottle "BottlePostModel" 3 2 4 0 [(0, qr 212), (1, ql a1)] [] h (DX10_isBottle a1 h)
  unfold DX10_isBottle
  refine S_lload_n 1 dX10_isBottle_0 rfl rfl rfl ?_
  refine S_lconst (a := 0) dX10_isBottle_1 rfl (by decide) (by decide) ?_
  refine S_aload_n 0 dX10_isBottle_2 rfl rfl rfl ?_
  refine S_getr (j := 213) (o := 1) 1 qC_10 (by decide) (by decide) qk_212 rfl rfl (by decide) tw_1227 dX10_isBottle_3 rfl ?_
  refine S_sipush (a := 348) dX10_isBottle_6 rfl (by decide) (by decide) ?_
  refine S_pick_t ((0 : Int) ≤ 348 ∧ (348 : Int) < 5736) (by decide) ?_
  refine S_iald (N := 5736) qk_213 rfl dX10_isBottle_9 rfl (fun g1 g2 => ?_)
  refine S_iconst (a := 1) dX10_isBottle_10 rfl (by decide) ?_
  refine S_isub dX10_isBottle_11 rfl ?_
  refine S_i2l dX10_isBottle_12 rfl ?_
  refine S_callS_i (as := [ql a1, ql 0, ql (qw (h.1 213 348 - 1))]) (st := []) (fun _ => rfl) (TX10_within a1 0 (qw (h.1 213 348 - 1)) h) yv_X10_within tw_1352 (by decide) rfl rfl (Nat.le_of_ble_eq_true rfl) dX10_isBottle_13 rfl (fun r3 h4 e5 => ?_)
  exact S_zret dX10_isBottle_16
def DX10_bottle (a1 : Int) (a2 : Int) (h : qH) : Option (Int × qH) := (qlt (qu h 212 0 0) fun h1 => (qbd (DX10_isBottle a1 h1) fun r2 h3 => (if r2 = 0 then some ((-8), h3) else (qbd (DX10_within a2 0 7 h3) fun r5 h6 => (if r5 = 0 then some ((-8), h6) else (if 0 ≤ qw (qw (284 + qw (8 * a1)) + a2) ∧ qw (qw (284 + qw (8 * a1)) + a2) < 5736 then some (h6.1 213 (qw (qw (284 + qw (8 * a1)) + a2)).toNat, h6) else none))))))
set_option maxRecDepth 100000 in
theorem TX10_bottle {L : Nat} {xs : Nat → Int32} (a1 : Int) (a2 : Int) (h : qH) : qMet L xs yX10_bottle cX10_bottle 3 (some .int) 1 3 [qr 212, qi a1, qi a2] h (DX10_bottle a1 a2 h) := by
  refine qMet.of (by decide +kernel) (Or.inr (Or.inl ⟨rfl, rfl⟩)) (Nat.le_of_ble_eq_true rfl) ?_
  show qS L xs cX10_bottle "BottlePostModel" 3 3 1 0 [(0, qr 212), (1, qi a1), (2, qi a2)] [] h (DX10_bottle a1 a2 h)
  unfold DX10_bottle
  refine S_aload_n 0 dX10_bottle_0 rfl rfl rfl ?_
  refine S_iconst (a := 0) dX10_bottle_1 rfl (by decide) ?_
  refine S_puti 0 qC_10 (by decide) (by decide) rfl rfl qk_212 (by decide) tw_1226 dX10_bottle_2 rfl ?_
  refine S_lh (fun h1 => ?_)
  refine S_aload_n 0 dX10_bottle_5 rfl rfl rfl ?_
  refine S_iload_n 1 dX10_bottle_6 rfl rfl rfl ?_
  refine S_i2l dX10_bottle_7 rfl ?_
  refine S_callV_i (as := [ql a1]) (st := []) (fun _ => rfl) (TX10_isBottle a1 h1) yv_X10_isBottle tw_1543 qC_10 qk_212 (by decide) rfl rfl (Nat.le_of_ble_eq_true rfl) dX10_bottle_8 rfl (fun r2 h3 e4 => ?_)
  refine S_if_eq (tgt := 44) dX10_bottle_11 (by decide) rfl (fun _ => ?_) (fun _ => ?_)
  · refine S_bipush (a := (-8)) dX10_bottle_44 rfl (by decide) (by decide) ?_
    exact S_iret dX10_bottle_46
  · refine S_iload_n 2 dX10_bottle_14 rfl rfl rfl ?_
    refine S_i2l dX10_bottle_15 rfl ?_
    refine S_lconst (a := 0) dX10_bottle_16 rfl (by decide) (by decide) ?_
    refine S_ldc2 (a := 7) dX10_bottle_17 rfl (by rw [show Int64.ofInt 7 = (7 : Int64) from by decide]; exact tw_1547) (by decide) ?_
    refine S_callS_i (as := [ql a2, ql 0, ql 7]) (st := []) (fun _ => rfl) (TX10_within a2 0 7 h3) yv_X10_within tw_1352 (by decide) rfl rfl (Nat.le_of_ble_eq_true rfl) dX10_bottle_20 rfl (fun r5 h6 e7 => ?_)
    refine S_if_eq (tgt := 44) dX10_bottle_23 (by decide) rfl (fun _ => ?_) (fun _ => ?_)
    · refine S_bipush (a := (-8)) dX10_bottle_44 rfl (by decide) (by decide) ?_
      exact S_iret dX10_bottle_46
    · refine S_aload_n 0 dX10_bottle_26 rfl rfl rfl ?_
      refine S_getr (j := 213) (o := 1) 1 qC_10 (by decide) (by decide) qk_212 rfl rfl (by decide) tw_1227 dX10_bottle_27 rfl ?_
      refine S_sipush (a := 284) dX10_bottle_30 rfl (by decide) (by decide) ?_
      refine S_bipush (a := 8) dX10_bottle_33 rfl (by decide) (by decide) ?_
      refine S_iload_n 1 dX10_bottle_35 rfl rfl rfl ?_
      refine S_imul dX10_bottle_36 rfl ?_
      refine S_iadd dX10_bottle_37 rfl ?_
      refine S_iload_n 2 dX10_bottle_38 rfl rfl rfl ?_
      refine S_iadd dX10_bottle_39 rfl ?_
      refine S_iald (N := 5736) qk_213 rfl dX10_bottle_40 rfl (fun g8 g9 => ?_)
      refine S_goto (pc' := 46) dX10_bottle_41 (by decide) ?_
      exact S_iret dX10_bottle_46
def DX10_cells (h : qH) : Option (Int × qH) := some (qw (h.1 213 1 * h.1 213 2), h)
set_option maxRecDepth 100000 in
theorem TX10_cells {L : Nat} {xs : Nat → Int32} (h : qH) : qMet L xs yX10_cells cX10_cells 1 (some .int) 1 1 [qr 212] h (DX10_cells h) := by
  refine qMet.of (by decide +kernel) (Or.inr (Or.inl ⟨rfl, rfl⟩)) (Nat.le_of_ble_eq_true rfl) ?_
  show qS L xs cX10_cells "BottlePostModel" 1 1 1 0 [(0, qr 212)] [] h (DX10_cells h)
  unfold DX10_cells
  refine S_aload_n 0 dX10_cells_0 rfl rfl rfl ?_
  refine S_getr (j := 213) (o := 1) 1 qC_10 (by decide) (by decide) qk_212 rfl rfl (by decide) tw_1227 dX10_cells_1 rfl ?_
  refine S_iconst (a := 1) dX10_cells_4 rfl (by decide) ?_
  refine S_pick_t ((0 : Int) ≤ 1 ∧ (1 : Int) < 5736) (by decide) ?_
  refine S_iald (N := 5736) qk_213 rfl dX10_cells_5 rfl (fun g1 g2 => ?_)
  refine S_aload_n 0 dX10_cells_6 rfl rfl rfl ?_
  refine S_getr (j := 213) (o := 1) 1 qC_10 (by decide) (by decide) qk_212 rfl rfl (by decide) tw_1227 dX10_cells_7 rfl ?_
  refine S_iconst (a := 2) dX10_cells_10 rfl (by decide) ?_
  refine S_pick_t ((0 : Int) ≤ 2 ∧ (2 : Int) < 5736) (by decide) ?_
  refine S_iald (N := 5736) qk_213 rfl dX10_cells_11 rfl (fun g3 g4 => ?_)
  refine S_imul dX10_cells_12 rfl ?_
  exact S_iret dX10_cells_13
def DX10_openSea_l4 : Nat → Int → Int → qH → Option (Int × qH)
  | 0, _, _, _ => none
  | n + 1, a1, a3, h => (qbd (DX10_cells h) fun r1 h2 => (if r1 ≤ a3 then some (a1, h2) else (qbd (DX10_isOpen a3 h2) fun r4 h5 => (if r4 = 0 then (qlt (qorl a1 0) fun v7 => ((DX10_openSea_l4 n) v7 (qw (a3 + 1)) h5)) else (qlt (qorl a1 (qshll 1 a3)) fun v8 => ((DX10_openSea_l4 n) v8 (qw (a3 + 1)) h5))))))
set_option maxRecDepth 100000 in
theorem TX10_openSea_l4 {L : Nat} {xs : Nat → Int32} : ∀ (n : Nat) (a1 : Int) (a3 : Int) (h : qH), qS L xs cX10_openSea "BottlePostModel" 4 2 2 4 [(0, qr 212), (1, ql a1), (3, qi a3)] [] h (DX10_openSea_l4 n a1 a3 h) := by
  intro n
  induction n with
  | zero =>
    intro a1 a3 h
    exact S_none
  | succ n ih =>
    intro a1 a3 h
    rw [DX10_openSea_l4.eq_2]
    refine S_iload_n 2 dX10_openSea_4 rfl rfl rfl ?_
    refine S_aload_n 0 dX10_openSea_5 rfl rfl rfl ?_
    refine S_callV_i (as := []) (st := [qi a3]) (fun _ => rfl) (TX10_cells h) yv_X10_cells tw_1473 qC_10 qk_212 (by decide) rfl rfl (Nat.le_of_ble_eq_true rfl) dX10_openSea_6 rfl (fun r1 h2 e3 => ?_)
    refine S_icmp_ge (tgt := 36) dX10_openSea_9 (by decide) rfl (fun _ => ?_) (fun _ => ?_)
    · refine S_lload_n 1 dX10_openSea_36 rfl rfl rfl ?_
      exact S_lret dX10_openSea_37
    · refine S_lload_n 1 dX10_openSea_12 rfl rfl rfl ?_
      refine S_aload_n 0 dX10_openSea_13 rfl rfl rfl ?_
      refine S_iload_n 2 dX10_openSea_14 rfl rfl rfl ?_
      refine S_callV_i (as := [qi a3]) (st := [ql a1]) (fun _ => rfl) (TX10_isOpen a3 h2) yv_X10_isOpen tw_1493 qC_10 qk_212 (by decide) rfl rfl (Nat.le_of_ble_eq_true rfl) dX10_openSea_15 rfl (fun r4 h5 e6 => ?_)
      refine S_if_eq (tgt := 27) dX10_openSea_18 (by decide) rfl (fun _ => ?_) (fun _ => ?_)
      · refine S_lconst (a := 0) dX10_openSea_27 rfl (by decide) (by decide) ?_
        refine S_lor dX10_openSea_28 rfl ?_
        refine S_lstore_n (lv' := [(1, ql (qorl a1 0)), (0, qr 212), (3, qi a3)]) dX10_openSea_29 rfl (by decide) rfl rfl ?_
        refine S_lj (fun v7 => ?_)
        refine S_iinc (lv' := [(3, qi (qw (a3 + 1))), (1, ql v7), (0, qr 212)]) 2 dX10_openSea_30 rfl (by decide) rfl rfl ?_
        refine S_goto (pc' := 4) dX10_openSea_33 (by decide) ?_
        refine S_sub [2, 1, 0] rfl ?_
        exact ih v7 (qw (a3 + 1)) h5
      · refine S_lconst (a := 1) dX10_openSea_21 rfl (by decide) (by decide) ?_
        refine S_iload_n 2 dX10_openSea_22 rfl rfl rfl ?_
        refine S_lshl dX10_openSea_23 rfl ?_
        refine S_goto (pc' := 28) dX10_openSea_24 (by decide) ?_
        refine S_lor dX10_openSea_28 rfl ?_
        refine S_lstore_n (lv' := [(1, ql (qorl a1 (qshll 1 a3))), (0, qr 212), (3, qi a3)]) dX10_openSea_29 rfl (by decide) rfl rfl ?_
        refine S_lj (fun v8 => ?_)
        refine S_iinc (lv' := [(3, qi (qw (a3 + 1))), (1, ql v8), (0, qr 212)]) 2 dX10_openSea_30 rfl (by decide) rfl rfl ?_
        refine S_goto (pc' := 4) dX10_openSea_33 (by decide) ?_
        refine S_sub [2, 1, 0] rfl ?_
        exact ih v8 (qw (a3 + 1)) h5
def DX10_openSea (h : qH) : Option (Int × qH) := (DX10_openSea_l4 LF 0 0 h)
set_option maxRecDepth 100000 in
theorem TX10_openSea {L : Nat} {xs : Nat → Int32} (h : qH) : qMet L xs yX10_openSea cX10_openSea 4 (some .long) 2 2 [qr 212] h (DX10_openSea h) := by
  refine qMet.of (by decide +kernel) (Or.inr (Or.inr (Or.inl ⟨rfl, rfl⟩))) (Nat.le_of_ble_eq_true rfl) ?_
  show qS L xs cX10_openSea "BottlePostModel" 4 2 2 0 [(0, qr 212)] [] h (DX10_openSea h)
  unfold DX10_openSea
  refine S_lconst (a := 0) dX10_openSea_0 rfl (by decide) (by decide) ?_
  refine S_lstore_n (lv' := [(1, ql 0), (0, qr 212)]) dX10_openSea_1 rfl (by decide) rfl rfl ?_
  refine S_iconst (a := 0) dX10_openSea_2 rfl (by decide) ?_
  refine S_istore_n (lv' := [(3, qi 0), (1, ql 0), (0, qr 212)]) dX10_openSea_3 rfl (by decide) rfl rfl ?_
  refine S_sub [2, 1, 0] rfl ?_
  exact TX10_openSea_l4 LF 0 0 h
def DX10_calm_l29 : Nat → Int → Int → Int → qH → Option (Int × qH)
  | 0, _, _, _, _ => none
  | n + 1, a1, a2, a4, h => (if h.1 213 348 ≤ a4 then some (a2, h) else (if 0 ≤ qw (284 + qw (8 * a4)) ∧ qw (284 + qw (8 * a4)) < 5736 then (if ¬ h.1 213 (qw (284 + qw (8 * a4))).toNat = 0 then ((DX10_calm_l29 n) a1 a2 (qw (a4 + 1)) h) else (qbd (DX10_beenBy a4 a1 h) fun r5 h6 => (qlt (qandl a2 (qxorl r5 (-1))) fun v8 => ((DX10_calm_l29 n) a1 v8 (qw (a4 + 1)) h6)))) else none))
set_option maxRecDepth 100000 in
theorem TX10_calm_l29 {L : Nat} {xs : Nat → Int32} : ∀ (n : Nat) (a1 : Int) (a2 : Int) (a4 : Int) (h : qH), qS L xs cX10_calm "BottlePostModel" 5 8 2 29 [(0, qr 212), (1, qi a1), (2, ql a2), (4, qi a4)] [] h (DX10_calm_l29 n a1 a2 a4 h) := by
  intro n
  induction n with
  | zero =>
    intro a1 a2 a4 h
    exact S_none
  | succ n ih =>
    intro a1 a2 a4 h
    rw [DX10_calm_l29.eq_2]
    refine S_iload 3 dX10_calm_29 rfl rfl ?_
    refine S_aload_n 0 dX10_calm_31 rfl rfl rfl ?_
    refine S_getr (j := 213) (o := 1) 1 qC_10 (by decide) (by decide) qk_212 rfl rfl (by decide) tw_1227 dX10_calm_32 rfl ?_
    refine S_sipush (a := 348) dX10_calm_35 rfl (by decide) (by decide) ?_
    refine S_pick_t ((0 : Int) ≤ 348 ∧ (348 : Int) < 5736) (by decide) ?_
    refine S_iald (N := 5736) qk_213 rfl dX10_calm_38 rfl (fun g1 g2 => ?_)
    refine S_icmp_ge (tgt := 79) dX10_calm_39 (by decide) rfl (fun _ => ?_) (fun _ => ?_)
    · refine S_lload_n 2 dX10_calm_79 rfl rfl rfl ?_
      exact S_lret dX10_calm_80
    · refine S_aload_n 0 dX10_calm_42 rfl rfl rfl ?_
      refine S_getr (j := 213) (o := 1) 1 qC_10 (by decide) (by decide) qk_212 rfl rfl (by decide) tw_1227 dX10_calm_43 rfl ?_
      refine S_sipush (a := 284) dX10_calm_46 rfl (by decide) (by decide) ?_
      refine S_bipush (a := 8) dX10_calm_49 rfl (by decide) (by decide) ?_
      refine S_iload 3 dX10_calm_51 rfl rfl ?_
      refine S_imul dX10_calm_53 rfl ?_
      refine S_iadd dX10_calm_54 rfl ?_
      refine S_iald (N := 5736) qk_213 rfl dX10_calm_55 rfl (fun g3 g4 => ?_)
      refine S_if_ne (tgt := 73) dX10_calm_56 (by decide) rfl (fun _ => ?_) (fun _ => ?_)
      · refine S_iinc (lv' := [(4, qi (qw (a4 + 1))), (0, qr 212), (1, qi a1), (2, ql a2)]) 3 dX10_calm_73 rfl (by decide) rfl rfl ?_
        refine S_goto (pc' := 29) dX10_calm_76 (by decide) ?_
        refine S_sub [1, 2, 3, 0] rfl ?_
        exact ih a1 a2 (qw (a4 + 1)) h
      · refine S_lload_n 2 dX10_calm_59 rfl rfl rfl ?_
        refine S_aload_n 0 dX10_calm_60 rfl rfl rfl ?_
        refine S_iload 3 dX10_calm_61 rfl rfl ?_
        refine S_iload_n 1 dX10_calm_63 rfl rfl rfl ?_
        refine S_callV_l (as := [qi a4, qi a1]) (st := [ql a2]) (fun _ => rfl) (TX10_beenBy a4 a1 h) yv_X10_beenBy tw_1763 qC_10 qk_212 (by decide) rfl rfl (Nat.le_of_ble_eq_true rfl) dX10_calm_64 rfl (fun r5 h6 e7 => ?_)
        refine S_ldc2 (a := (-1)) dX10_calm_67 rfl (by rw [show Int64.ofInt (-1) = ((-1) : Int64) from by decide]; exact tw_1556) (by decide) ?_
        refine S_lxor dX10_calm_70 rfl ?_
        refine S_land dX10_calm_71 rfl ?_
        refine S_lstore_n (lv' := [(2, ql (qandl a2 (qxorl r5 (-1)))), (0, qr 212), (1, qi a1), (4, qi a4)]) dX10_calm_72 rfl (by decide) rfl rfl ?_
        refine S_lj (fun v8 => ?_)
        refine S_iinc (lv' := [(4, qi (qw (a4 + 1))), (2, ql v8), (0, qr 212), (1, qi a1)]) 3 dX10_calm_73 rfl (by decide) rfl rfl ?_
        refine S_goto (pc' := 29) dX10_calm_76 (by decide) ?_
        refine S_sub [2, 3, 1, 0] rfl ?_
        exact ih a1 v8 (qw (a4 + 1)) h6
def DX10_calm (a1 : Int) (h : qH) : Option (Int × qH) := (qlt (qu h 212 0 0) fun h9 => (qbd (DX10_within a1 1 60 h9) fun r10 h11 => (if ¬ r10 = 0 then (qbd (DX10_openSea h11) fun r13 h14 => (DX10_calm_l29 LF a1 r13 0 h14)) else some ((-3), h11))))
set_option maxRecDepth 100000 in
theorem TX10_calm {L : Nat} {xs : Nat → Int32} (a1 : Int) (h : qH) : qMet L xs yX10_calm cX10_calm 5 (some .long) 2 8 [qr 212, qi a1] h (DX10_calm a1 h) := by
  refine qMet.of (by decide +kernel) (Or.inr (Or.inr (Or.inl ⟨rfl, rfl⟩))) (Nat.le_of_ble_eq_true rfl) ?_
  show qS L xs cX10_calm "BottlePostModel" 5 8 2 0 [(0, qr 212), (1, qi a1)] [] h (DX10_calm a1 h)
  unfold DX10_calm
  refine S_aload_n 0 dX10_calm_0 rfl rfl rfl ?_
  refine S_iconst (a := 0) dX10_calm_1 rfl (by decide) ?_
  refine S_puti 0 qC_10 (by decide) (by decide) rfl rfl qk_212 (by decide) tw_1226 dX10_calm_2 rfl ?_
  refine S_lh (fun h9 => ?_)
  refine S_iload_n 1 dX10_calm_5 rfl rfl rfl ?_
  refine S_i2l dX10_calm_6 rfl ?_
  refine S_lconst (a := 1) dX10_calm_7 rfl (by decide) (by decide) ?_
  refine S_ldc2 (a := 60) dX10_calm_8 rfl (by rw [show Int64.ofInt 60 = (60 : Int64) from by decide]; exact tw_1758) (by decide) ?_
  refine S_callS_i (as := [ql a1, ql 1, ql 60]) (st := []) (fun _ => rfl) (TX10_within a1 1 60 h9) yv_X10_within tw_1352 (by decide) rfl rfl (Nat.le_of_ble_eq_true rfl) dX10_calm_11 rfl (fun r10 h11 e12 => ?_)
  refine S_if_ne (tgt := 21) dX10_calm_14 (by decide) rfl (fun _ => ?_) (fun _ => ?_)
  · refine S_aload_n 0 dX10_calm_21 rfl rfl rfl ?_
    refine S_callV_l (as := []) (st := []) (fun _ => rfl) (TX10_openSea h11) yv_X10_openSea tw_1779 qC_10 qk_212 (by decide) rfl rfl (Nat.le_of_ble_eq_true rfl) dX10_calm_22 rfl (fun r13 h14 e15 => ?_)
    refine S_lstore_n (lv' := [(2, ql r13), (0, qr 212), (1, qi a1)]) dX10_calm_25 rfl (by decide) rfl rfl ?_
    refine S_iconst (a := 0) dX10_calm_26 rfl (by decide) ?_
    refine S_istore (lv' := [(4, qi 0), (2, ql r13), (0, qr 212), (1, qi a1)]) dX10_calm_27 (by decide) rfl rfl ?_
    refine S_sub [2, 3, 1, 0] rfl ?_
    exact TX10_calm_l29 LF a1 r13 0 h14
  · refine S_ldc2 (a := (-3)) dX10_calm_17 rfl (by rw [show Int64.ofInt (-3) = ((-3) : Int64) from by decide]; exact tw_1778) (by decide) ?_
    exact S_lret dX10_calm_20
def DX10_catchOf_l5 : Nat → Int → Int → Int → Int → qH → Option (Int × qH)
  | 0, _, _, _, _, _ => none
  | n + 1, a1, a2, a3, a4, h => (if h.1 213 348 ≤ a4 then some (a3, h) else (qbd (DX10_beenBy a4 a2 h) fun r3 h4 => (qbd (DX10_isIn r3 a1 h4) fun r6 h7 => (if r6 = 0 then (qlt (qor a3 0) fun v9 => ((DX10_catchOf_l5 n) a1 a2 v9 (qw (a4 + 1)) h7)) else (qlt (qor a3 (qshl 1 a4)) fun v10 => ((DX10_catchOf_l5 n) a1 a2 v10 (qw (a4 + 1)) h7))))))
set_option maxRecDepth 100000 in
theorem TX10_catchOf_l5 {L : Nat} {xs : Nat → Int32} : ∀ (n : Nat) (a1 : Int) (a2 : Int) (a3 : Int) (a4 : Int) (h : qH), qS L xs cX10_catchOf "BottlePostModel" 5 8 1 5 [(0, qr 212), (1, qi a1), (2, qi a2), (3, qi a3), (4, qi a4)] [] h (DX10_catchOf_l5 n a1 a2 a3 a4 h) := by
  intro n
  induction n with
  | zero =>
    intro a1 a2 a3 a4 h
    exact S_none
  | succ n ih =>
    intro a1 a2 a3 a4 h
    rw [DX10_catchOf_l5.eq_2]
    refine S_iload 4 dX10_catchOf_5 rfl rfl ?_
    refine S_aload_n 0 dX10_catchOf_7 rfl rfl rfl ?_
    refine S_getr (j := 213) (o := 1) 1 qC_10 (by decide) (by decide) qk_212 rfl rfl (by decide) tw_1227 dX10_catchOf_8 rfl ?_
    refine S_sipush (a := 348) dX10_catchOf_11 rfl (by decide) (by decide) ?_
    refine S_pick_t ((0 : Int) ≤ 348 ∧ (348 : Int) < 5736) (by decide) ?_
    refine S_iald (N := 5736) qk_213 rfl dX10_catchOf_14 rfl (fun g1 g2 => ?_)
    refine S_icmp_ge (tgt := 49) dX10_catchOf_15 (by decide) rfl (fun _ => ?_) (fun _ => ?_)
    · refine S_iload_n 3 dX10_catchOf_49 rfl rfl rfl ?_
      exact S_iret dX10_catchOf_50
    · refine S_iload_n 3 dX10_catchOf_18 rfl rfl rfl ?_
      refine S_aload_n 0 dX10_catchOf_19 rfl rfl rfl ?_
      refine S_iload 4 dX10_catchOf_20 rfl rfl ?_
      refine S_iload_n 2 dX10_catchOf_22 rfl rfl rfl ?_
      refine S_callV_l (as := [qi a4, qi a2]) (st := [qi a3]) (fun _ => rfl) (TX10_beenBy a4 a2 h) yv_X10_beenBy tw_1763 qC_10 qk_212 (by decide) rfl rfl (Nat.le_of_ble_eq_true rfl) dX10_catchOf_23 rfl (fun r3 h4 e5 => ?_)
      refine S_iload_n 1 dX10_catchOf_26 rfl rfl rfl ?_
      refine S_callS_i (as := [ql r3, qi a1]) (st := [qi a3]) (fun _ => rfl) (TX10_isIn r3 a1 h4) yv_X10_isIn tw_1610 (by decide) rfl rfl (Nat.le_of_ble_eq_true rfl) dX10_catchOf_27 rfl (fun r6 h7 e8 => ?_)
      refine S_if_eq (tgt := 40) dX10_catchOf_30 (by decide) rfl (fun _ => ?_) (fun _ => ?_)
      · refine S_iconst (a := 0) dX10_catchOf_40 rfl (by decide) ?_
        refine S_ior dX10_catchOf_41 rfl ?_
        refine S_istore_n (lv' := [(3, qi (qor a3 0)), (0, qr 212), (1, qi a1), (2, qi a2), (4, qi a4)]) dX10_catchOf_42 rfl (by decide) rfl rfl ?_
        refine S_li (fun v9 => ?_)
        refine S_iinc (lv' := [(4, qi (qw (a4 + 1))), (3, qi v9), (0, qr 212), (1, qi a1), (2, qi a2)]) 4 dX10_catchOf_43 rfl (by decide) rfl rfl ?_
        refine S_goto (pc' := 5) dX10_catchOf_46 (by decide) ?_
        refine S_sub [2, 3, 4, 1, 0] rfl ?_
        exact ih a1 a2 v9 (qw (a4 + 1)) h7
      · refine S_iconst (a := 1) dX10_catchOf_33 rfl (by decide) ?_
        refine S_iload 4 dX10_catchOf_34 rfl rfl ?_
        refine S_ishl dX10_catchOf_36 rfl ?_
        refine S_goto (pc' := 41) dX10_catchOf_37 (by decide) ?_
        refine S_ior dX10_catchOf_41 rfl ?_
        refine S_istore_n (lv' := [(3, qi (qor a3 (qshl 1 a4))), (0, qr 212), (1, qi a1), (2, qi a2), (4, qi a4)]) dX10_catchOf_42 rfl (by decide) rfl rfl ?_
        refine S_li (fun v10 => ?_)
        refine S_iinc (lv' := [(4, qi (qw (a4 + 1))), (3, qi v10), (0, qr 212), (1, qi a1), (2, qi a2)]) 4 dX10_catchOf_43 rfl (by decide) rfl rfl ?_
        refine S_goto (pc' := 5) dX10_catchOf_46 (by decide) ?_
        refine S_sub [2, 3, 4, 1, 0] rfl ?_
        exact ih a1 a2 v10 (qw (a4 + 1)) h7
def DX10_catchOf (a1 : Int) (a2 : Int) (h : qH) : Option (Int × qH) := (DX10_catchOf_l5 LF a1 a2 0 0 h)
set_option maxRecDepth 100000 in
theorem TX10_catchOf {L : Nat} {xs : Nat → Int32} (a1 : Int) (a2 : Int) (h : qH) : qMet L xs yX10_catchOf cX10_catchOf 5 (some .int) 1 8 [qr 212, qi a1, qi a2] h (DX10_catchOf a1 a2 h) := by
  refine qMet.of (by decide +kernel) (Or.inr (Or.inl ⟨rfl, rfl⟩)) (Nat.le_of_ble_eq_true rfl) ?_
  show qS L xs cX10_catchOf "BottlePostModel" 5 8 1 0 [(0, qr 212), (1, qi a1), (2, qi a2)] [] h (DX10_catchOf a1 a2 h)
  unfold DX10_catchOf
  refine S_iconst (a := 0) dX10_catchOf_0 rfl (by decide) ?_
  refine S_istore_n (lv' := [(3, qi 0), (0, qr 212), (1, qi a1), (2, qi a2)]) dX10_catchOf_1 rfl (by decide) rfl rfl ?_
  refine S_iconst (a := 0) dX10_catchOf_2 rfl (by decide) ?_
  refine S_istore (lv' := [(4, qi 0), (3, qi 0), (0, qr 212), (1, qi a1), (2, qi a2)]) dX10_catchOf_3 (by decide) rfl rfl ?_
  refine S_sub [2, 3, 4, 1, 0] rfl ?_
  exact TX10_catchOf_l5 LF a1 a2 0 0 h
def DX10_isCell (a1 : Int) (h : qH) : Option (Int × qH) := (qbd (DX10_cells h) fun r1 h2 => (qbd (DX10_within a1 0 (qw (r1 - 1)) h2) fun r4 h5 => (if r4 = 0 ∨ r4 = 1 then some (r4, h5) else none)))
set_option maxRecDepth 100000 in
theorem TX10_isCell {L : Nat} {xs : Nat → Int32} (a1 : Int) (h : qH) : qMet L xs yX10_isCell cX10_isCell 3 (some .boolean) 4 2 [qr 212, ql a1] h (DX10_isCell a1 h) := by
  refine qMet.of (by decide +kernel) (Or.inr (Or.inr (Or.inr (Or.inr (Or.inl ⟨rfl, rfl⟩))))) (Nat.le_of_ble_eq_true rfl) ?_
  show qS L xs cX10_isCell "BottlePostModel" 3 2 4 0 [(0, qr 212), (1, ql a1)] [] h (DX10_isCell a1 h)
  unfold DX10_isCell
  refine S_lload_n 1 dX10_isCell_0 rfl rfl rfl ?_
  refine S_lconst (a := 0) dX10_isCell_1 rfl (by decide) (by decide) ?_
  refine S_aload_n 0 dX10_isCell_2 rfl rfl rfl ?_
  refine S_callV_i (as := []) (st := [ql 0, ql a1]) (fun _ => rfl) (TX10_cells h) yv_X10_cells tw_1473 qC_10 qk_212 (by decide) rfl rfl (Nat.le_of_ble_eq_true rfl) dX10_isCell_3 rfl (fun r1 h2 e3 => ?_)
  refine S_iconst (a := 1) dX10_isCell_6 rfl (by decide) ?_
  refine S_isub dX10_isCell_7 rfl ?_
  refine S_i2l dX10_isCell_8 rfl ?_
  refine S_callS_i (as := [ql a1, ql 0, ql (qw (r1 - 1))]) (st := []) (fun _ => rfl) (TX10_within a1 0 (qw (r1 - 1)) h2) yv_X10_within tw_1352 (by decide) rfl rfl (Nat.le_of_ble_eq_true rfl) dX10_isCell_9 rfl (fun r4 h5 e6 => ?_)
  exact S_zret dX10_isCell_12
def DX10_catches (a1 : Int) (a2 : Int) (h : qH) : Option (Int × qH) := (qlt (qu h 212 0 0) fun h1 => (qbd (DX10_isCell a1 h1) fun r2 h3 => (if ¬ r2 = 0 then (qbd (DX10_within a2 1 60 h3) fun r5 h6 => (if ¬ r5 = 0 then (qbd (DX10_isOpen a1 h6) fun r8 h9 => (if r8 = 0 then some ((-5), h9) else (qbd (DX10_catchOf a1 a2 h9) fun r11 h12 => some (r11, h12)))) else some ((-3), h6))) else some ((-2), h3))))
set_option maxRecDepth 100000 in
theorem TX10_catches {L : Nat} {xs : Nat → Int32} (a1 : Int) (a2 : Int) (h : qH) : qMet L xs yX10_catches cX10_catches 3 (some .int) 1 9 [qr 212, qi a1, qi a2] h (DX10_catches a1 a2 h) := by
  refine qMet.of (by decide +kernel) (Or.inr (Or.inl ⟨rfl, rfl⟩)) (Nat.le_of_ble_eq_true rfl) ?_
  show qS L xs cX10_catches "BottlePostModel" 3 9 1 0 [(0, qr 212), (1, qi a1), (2, qi a2)] [] h (DX10_catches a1 a2 h)
  unfold DX10_catches
  refine S_aload_n 0 dX10_catches_0 rfl rfl rfl ?_
  refine S_iconst (a := 0) dX10_catches_1 rfl (by decide) ?_
  refine S_puti 0 qC_10 (by decide) (by decide) rfl rfl qk_212 (by decide) tw_1226 dX10_catches_2 rfl ?_
  refine S_lh (fun h1 => ?_)
  refine S_aload_n 0 dX10_catches_5 rfl rfl rfl ?_
  refine S_iload_n 1 dX10_catches_6 rfl rfl rfl ?_
  refine S_i2l dX10_catches_7 rfl ?_
  refine S_callV_i (as := [ql a1]) (st := []) (fun _ => rfl) (TX10_isCell a1 h1) yv_X10_isCell tw_1469 qC_10 qk_212 (by decide) rfl rfl (Nat.le_of_ble_eq_true rfl) dX10_catches_8 rfl (fun r2 h3 e4 => ?_)
  refine S_if_ne (tgt := 17) dX10_catches_11 (by decide) rfl (fun _ => ?_) (fun _ => ?_)
  · refine S_iload_n 2 dX10_catches_17 rfl rfl rfl ?_
    refine S_i2l dX10_catches_18 rfl ?_
    refine S_lconst (a := 1) dX10_catches_19 rfl (by decide) (by decide) ?_
    refine S_ldc2 (a := 60) dX10_catches_20 rfl (by rw [show Int64.ofInt 60 = (60 : Int64) from by decide]; exact tw_1758) (by decide) ?_
    refine S_callS_i (as := [ql a2, ql 1, ql 60]) (st := []) (fun _ => rfl) (TX10_within a2 1 60 h3) yv_X10_within tw_1352 (by decide) rfl rfl (Nat.le_of_ble_eq_true rfl) dX10_catches_23 rfl (fun r5 h6 e7 => ?_)
    refine S_if_ne (tgt := 32) dX10_catches_26 (by decide) rfl (fun _ => ?_) (fun _ => ?_)
    · refine S_aload_n 0 dX10_catches_32 rfl rfl rfl ?_
      refine S_iload_n 1 dX10_catches_33 rfl rfl rfl ?_
      refine S_callV_i (as := [qi a1]) (st := []) (fun _ => rfl) (TX10_isOpen a1 h6) yv_X10_isOpen tw_1493 qC_10 qk_212 (by decide) rfl rfl (Nat.le_of_ble_eq_true rfl) dX10_catches_34 rfl (fun r8 h9 e10 => ?_)
      refine S_if_eq (tgt := 49) dX10_catches_37 (by decide) rfl (fun _ => ?_) (fun _ => ?_)
      · refine S_bipush (a := (-5)) dX10_catches_49 rfl (by decide) (by decide) ?_
        exact S_iret dX10_catches_51
      · refine S_aload_n 0 dX10_catches_40 rfl rfl rfl ?_
        refine S_iload_n 1 dX10_catches_41 rfl rfl rfl ?_
        refine S_iload_n 2 dX10_catches_42 rfl rfl rfl ?_
        refine S_callV_i (as := [qi a1, qi a2]) (st := []) (fun _ => rfl) (TX10_catchOf a1 a2 h9) yv_X10_catchOf tw_1759 qC_10 qk_212 (by decide) rfl rfl (Nat.le_of_ble_eq_true rfl) dX10_catches_43 rfl (fun r11 h12 e13 => ?_)
        refine S_goto (pc' := 51) dX10_catches_46 (by decide) ?_
        exact S_iret dX10_catches_51
    · refine S_bipush (a := (-3)) dX10_catches_29 rfl (by decide) (by decide) ?_
      exact S_iret dX10_catches_31
  · refine S_bipush (a := (-2)) dX10_catches_14 rfl (by decide) (by decide) ?_
    exact S_iret dX10_catches_16
def DX10_cell (a1 : Int) (h : qH) : Option (Int × qH) := (qlt (qu h 212 0 0) fun h1 => (qbd (DX10_isCell a1 h1) fun r2 h3 => (if r2 = 0 then some ((-2), h3) else (if 0 ≤ qw (14 + a1) ∧ qw (14 + a1) < 5736 then some (h3.1 213 (qw (14 + a1)).toNat, h3) else none))))
set_option maxRecDepth 100000 in
theorem TX10_cell {L : Nat} {xs : Nat → Int32} (a1 : Int) (h : qH) : qMet L xs yX10_cell cX10_cell 2 (some .int) 1 3 [qr 212, qi a1] h (DX10_cell a1 h) := by
  refine qMet.of (by decide +kernel) (Or.inr (Or.inl ⟨rfl, rfl⟩)) (Nat.le_of_ble_eq_true rfl) ?_
  show qS L xs cX10_cell "BottlePostModel" 2 3 1 0 [(0, qr 212), (1, qi a1)] [] h (DX10_cell a1 h)
  unfold DX10_cell
  refine S_aload_n 0 dX10_cell_0 rfl rfl rfl ?_
  refine S_iconst (a := 0) dX10_cell_1 rfl (by decide) ?_
  refine S_puti 0 qC_10 (by decide) (by decide) rfl rfl qk_212 (by decide) tw_1226 dX10_cell_2 rfl ?_
  refine S_lh (fun h1 => ?_)
  refine S_aload_n 0 dX10_cell_5 rfl rfl rfl ?_
  refine S_iload_n 1 dX10_cell_6 rfl rfl rfl ?_
  refine S_i2l dX10_cell_7 rfl ?_
  refine S_callV_i (as := [ql a1]) (st := []) (fun _ => rfl) (TX10_isCell a1 h1) yv_X10_isCell tw_1469 qC_10 qk_212 (by decide) rfl rfl (Nat.le_of_ble_eq_true rfl) dX10_cell_8 rfl (fun r2 h3 e4 => ?_)
  refine S_if_eq (tgt := 26) dX10_cell_11 (by decide) rfl (fun _ => ?_) (fun _ => ?_)
  · refine S_bipush (a := (-2)) dX10_cell_26 rfl (by decide) (by decide) ?_
    exact S_iret dX10_cell_28
  · refine S_aload_n 0 dX10_cell_14 rfl rfl rfl ?_
    refine S_getr (j := 213) (o := 1) 1 qC_10 (by decide) (by decide) qk_212 rfl rfl (by decide) tw_1227 dX10_cell_15 rfl ?_
    refine S_bipush (a := 14) dX10_cell_18 rfl (by decide) (by decide) ?_
    refine S_iload_n 1 dX10_cell_20 rfl rfl rfl ?_
    refine S_iadd dX10_cell_21 rfl ?_
    refine S_iald (N := 5736) qk_213 rfl dX10_cell_22 rfl (fun g5 g6 => ?_)
    refine S_goto (pc' := 28) dX10_cell_23 (by decide) ?_
    exact S_iret dX10_cell_28
def DX10_codes (a1 : Int) (h : qH) : Option (Int × qH) := (if h.1 212 11 = 0 then (if 0 ≤ qw (1012 + h.1 216 1011) ∧ qw (1012 + h.1 216 1011) < 1912 then qlt (qu h 216 (qw (1012 + h.1 216 1011)).toNat a1) fun h3 => (qlt (qu h3 216 1011 (qw (h3.1 216 1011 + 1))) fun h6 => some (0, h6)) else none) else some (0, h))
set_option maxRecDepth 100000 in
theorem TX10_codes {L : Nat} {xs : Nat → Int32} (a1 : Int) (h : qH) : qMet L xs yX10_codes cX10_codes 2 (none) 0 1 [qr 212, qi a1] h (DX10_codes a1 h) := by
  refine qMet.of (by decide +kernel) (Or.inl ⟨rfl, rfl⟩) (Nat.le_of_ble_eq_true rfl) ?_
  show qS L xs cX10_codes "BottlePostModel" 2 1 0 0 [(0, qr 212), (1, qi a1)] [] h (DX10_codes a1 h)
  unfold DX10_codes
  refine S_aload_n 0 dX10_codes_0 rfl rfl rfl ?_
  refine S_geti 11 qC_10 (by decide) (by decide) qk_212 tw_1237 dX10_codes_1 rfl ?_
  refine S_if_eq (tgt := 8) dX10_codes_4 (by decide) rfl (fun _ => ?_) (fun _ => ?_)
  · refine S_aload_n 0 dX10_codes_8 rfl rfl rfl ?_
    refine S_getr (j := 216) (o := 4) 4 qC_10 (by decide) (by decide) qk_212 rfl rfl (by decide) tw_1230 dX10_codes_9 rfl ?_
    refine S_sipush (a := 1012) dX10_codes_12 rfl (by decide) (by decide) ?_
    refine S_aload_n 0 dX10_codes_15 rfl rfl rfl ?_
    refine S_getr (j := 216) (o := 4) 4 qC_10 (by decide) (by decide) qk_212 rfl rfl (by decide) tw_1230 dX10_codes_16 rfl ?_
    refine S_sipush (a := 1011) dX10_codes_19 rfl (by decide) (by decide) ?_
    refine S_pick_t ((0 : Int) ≤ 1011 ∧ (1011 : Int) < 1912) (by decide) ?_
    refine S_iald (N := 1912) qk_216 rfl dX10_codes_22 rfl (fun g1 g2 => ?_)
    refine S_iadd dX10_codes_23 rfl ?_
    refine S_iload_n 1 dX10_codes_24 rfl rfl rfl ?_
    refine S_iast (N := 1912) qk_216 rfl dX10_codes_25 rfl (fun _ _ => ?_)
    refine S_lh (fun h3 => ?_)
    refine S_aload_n 0 dX10_codes_26 rfl rfl rfl ?_
    refine S_getr (j := 216) (o := 4) 4 qC_10 (by decide) (by decide) qk_212 rfl rfl (by decide) tw_1230 dX10_codes_27 rfl ?_
    refine S_sipush (a := 1011) dX10_codes_30 rfl (by decide) (by decide) ?_
    refine S_dup2 dX10_codes_33 rfl rfl rfl ?_
    refine S_pick_t ((0 : Int) ≤ 1011 ∧ (1011 : Int) < 1912) (by decide) ?_
    refine S_iald (N := 1912) qk_216 rfl dX10_codes_34 rfl (fun g4 g5 => ?_)
    refine S_iconst (a := 1) dX10_codes_35 rfl (by decide) ?_
    refine S_iadd dX10_codes_36 rfl ?_
    refine S_pick_t ((0 : Int) ≤ 1011 ∧ (1011 : Int) < 1912) (by decide) ?_
    refine S_iast (N := 1912) qk_216 rfl dX10_codes_37 rfl (fun _ _ => ?_)
    refine S_lh (fun h6 => ?_)
    exact S_vret dX10_codes_38
  · exact S_vret dX10_codes_7
def DX10_here (h : qH) : Option (Int × qH) := (qbd (DX10_isOn h) fun r1 h2 => (if r1 = 0 then some ((-1), h2) else some (h2.1 217 1, h2)))
set_option maxRecDepth 100000 in
theorem TX10_here {L : Nat} {xs : Nat → Int32} (h : qH) : qMet L xs yX10_here cX10_here 1 (some .int) 1 2 [qr 212] h (DX10_here h) := by
  refine qMet.of (by decide +kernel) (Or.inr (Or.inl ⟨rfl, rfl⟩)) (Nat.le_of_ble_eq_true rfl) ?_
  show qS L xs cX10_here "BottlePostModel" 1 2 1 0 [(0, qr 212)] [] h (DX10_here h)
  unfold DX10_here
  refine S_aload_n 0 dX10_here_0 rfl rfl rfl ?_
  refine S_callV_i (as := []) (st := []) (fun _ => rfl) (TX10_isOn h) yv_X10_isOn tw_1590 qC_10 qk_212 (by decide) rfl rfl (Nat.le_of_ble_eq_true rfl) dX10_here_1 rfl (fun r1 h2 e3 => ?_)
  refine S_if_eq (tgt := 16) dX10_here_4 (by decide) rfl (fun _ => ?_) (fun _ => ?_)
  · refine S_iconst (a := (-1)) dX10_here_16 rfl (by decide) ?_
    exact S_iret dX10_here_17
  · refine S_aload_n 0 dX10_here_7 rfl rfl rfl ?_
    refine S_getr (j := 217) (o := 5) 16 qC_10 (by decide) (by decide) qk_212 rfl rfl (by decide) tw_1242 dX10_here_8 rfl ?_
    refine S_iconst (a := 1) dX10_here_11 rfl (by decide) ?_
    refine S_pick_t ((0 : Int) ≤ 1 ∧ (1 : Int) < 8) (by decide) ?_
    refine S_iald (N := 8) qk_217 rfl dX10_here_12 rfl (fun g4 g5 => ?_)
    refine S_goto (pc' := 17) dX10_here_13 (by decide) ?_
    exact S_iret dX10_here_17
def DX10_comesTo_l33 : Nat → Int → Int → qH → Option (Int × qH)
  | 0, _, _, _ => none
  | n + 1, a2, a3, h => (if 200 < a3 then some ((-1), h) else (qbd (DX10_here h) fun r1 h2 => (if ¬ r1 = a2 then (qbd (DX10_goesTide (qw (h2.1 213 349 + a3)) 0 h2) fun r6 h7 => ((DX10_comesTo_l33 n) a2 (qw (a3 + 1)) h7)) else some (a3, h2))))
set_option maxRecDepth 100000 in
theorem TX10_comesTo_l33 {L : Nat} {xs : Nat → Int32} : ∀ (n : Nat) (a2 : Int) (a3 : Int) (h : qH), qS L xs cX10_comesTo "BottlePostModel" 4 7 1 33 [(0, qr 212), (2, qi a2), (3, qi a3)] [] h (DX10_comesTo_l33 n a2 a3 h) := by
  intro n
  induction n with
  | zero =>
    intro a2 a3 h
    exact S_none
  | succ n ih =>
    intro a2 a3 h
    rw [DX10_comesTo_l33.eq_2]
    refine S_iload_n 2 dX10_comesTo_33 rfl rfl rfl ?_
    refine S_sipush (a := 200) dX10_comesTo_34 rfl (by decide) (by decide) ?_
    refine S_icmp_gt (tgt := 71) dX10_comesTo_37 (by decide) rfl (fun _ => ?_) (fun _ => ?_)
    · refine S_iconst (a := (-1)) dX10_comesTo_71 rfl (by decide) ?_
      exact S_iret dX10_comesTo_72
    · refine S_aload_n 0 dX10_comesTo_40 rfl rfl rfl ?_
      refine S_callV_i (as := []) (st := []) (fun _ => rfl) (TX10_here h) yv_X10_here tw_1701 qC_10 qk_212 (by decide) rfl rfl (Nat.le_of_ble_eq_true rfl) dX10_comesTo_41 rfl (fun r1 h2 e3 => ?_)
      refine S_iload_n 1 dX10_comesTo_44 rfl rfl rfl ?_
      refine S_icmp_ne (tgt := 50) dX10_comesTo_45 (by decide) rfl (fun _ => ?_) (fun _ => ?_)
      · refine S_aload_n 0 dX10_comesTo_50 rfl rfl rfl ?_
        refine S_aload_n 0 dX10_comesTo_51 rfl rfl rfl ?_
        refine S_getr (j := 213) (o := 1) 1 qC_10 (by decide) (by decide) qk_212 rfl rfl (by decide) tw_1227 dX10_comesTo_52 rfl ?_
        refine S_sipush (a := 349) dX10_comesTo_55 rfl (by decide) (by decide) ?_
        refine S_pick_t ((0 : Int) ≤ 349 ∧ (349 : Int) < 5736) (by decide) ?_
        refine S_iald (N := 5736) qk_213 rfl dX10_comesTo_58 rfl (fun g4 g5 => ?_)
        refine S_iload_n 2 dX10_comesTo_59 rfl rfl rfl ?_
        refine S_iadd dX10_comesTo_60 rfl ?_
        refine S_iconst (a := 0) dX10_comesTo_61 rfl (by decide) ?_
        refine S_callV_0 (as := [qi (qw (h2.1 213 349 + a3)), qi 0]) (st := []) (fun _ => rfl) (TX10_goesTide (qw (h2.1 213 349 + a3)) 0 h2) yv_X10_goesTide tw_1594 qC_10 qk_212 (by decide) rfl rfl (Nat.le_of_ble_eq_true rfl) dX10_comesTo_62 rfl (fun r6 h7 e8 => ?_)
        refine S_iinc (lv' := [(3, qi (qw (a3 + 1))), (0, qr 212), (2, qi a2)]) 2 dX10_comesTo_65 rfl (by decide) rfl rfl ?_
        refine S_goto (pc' := 33) dX10_comesTo_68 (by decide) ?_
        refine S_sub [1, 2, 0] rfl ?_
        exact ih a2 (qw (a3 + 1)) h7
      · refine S_iload_n 2 dX10_comesTo_48 rfl rfl rfl ?_
        exact S_iret dX10_comesTo_49
def DX10_comesTo (a1 : Int) (a2 : Int) (h : qH) : Option (Int × qH) := (qlt (qu h 212 0 0) fun h9 => (qbd (DX10_isBottle a1 h9) fun r10 h11 => (if r10 = 0 then some ((-2), h11) else (qbd (DX10_isCell a2 h11) fun r13 h14 => (if ¬ r13 = 0 then (qbd (DX10_loads a1 h14) fun r16 h17 => (DX10_comesTo_l33 LF a2 0 h17)) else some ((-2), h14))))))
set_option maxRecDepth 100000 in
theorem TX10_comesTo {L : Nat} {xs : Nat → Int32} (a1 : Int) (a2 : Int) (h : qH) : qMet L xs yX10_comesTo cX10_comesTo 4 (some .int) 1 7 [qr 212, qi a1, qi a2] h (DX10_comesTo a1 a2 h) := by
  refine qMet.of (by decide +kernel) (Or.inr (Or.inl ⟨rfl, rfl⟩)) (Nat.le_of_ble_eq_true rfl) ?_
  show qS L xs cX10_comesTo "BottlePostModel" 4 7 1 0 [(0, qr 212), (1, qi a1), (2, qi a2)] [] h (DX10_comesTo a1 a2 h)
  unfold DX10_comesTo
  refine S_aload_n 0 dX10_comesTo_0 rfl rfl rfl ?_
  refine S_iconst (a := 0) dX10_comesTo_1 rfl (by decide) ?_
  refine S_puti 0 qC_10 (by decide) (by decide) rfl rfl qk_212 (by decide) tw_1226 dX10_comesTo_2 rfl ?_
  refine S_lh (fun h9 => ?_)
  refine S_aload_n 0 dX10_comesTo_5 rfl rfl rfl ?_
  refine S_iload_n 1 dX10_comesTo_6 rfl rfl rfl ?_
  refine S_i2l dX10_comesTo_7 rfl ?_
  refine S_callV_i (as := [ql a1]) (st := []) (fun _ => rfl) (TX10_isBottle a1 h9) yv_X10_isBottle tw_1543 qC_10 qk_212 (by decide) rfl rfl (Nat.le_of_ble_eq_true rfl) dX10_comesTo_8 rfl (fun r10 h11 e12 => ?_)
  refine S_if_eq (tgt := 23) dX10_comesTo_11 (by decide) rfl (fun _ => ?_) (fun _ => ?_)
  · refine S_bipush (a := (-2)) dX10_comesTo_23 rfl (by decide) (by decide) ?_
    exact S_iret dX10_comesTo_25
  · refine S_aload_n 0 dX10_comesTo_14 rfl rfl rfl ?_
    refine S_iload_n 2 dX10_comesTo_15 rfl rfl rfl ?_
    refine S_i2l dX10_comesTo_16 rfl ?_
    refine S_callV_i (as := [ql a2]) (st := []) (fun _ => rfl) (TX10_isCell a2 h11) yv_X10_isCell tw_1469 qC_10 qk_212 (by decide) rfl rfl (Nat.le_of_ble_eq_true rfl) dX10_comesTo_17 rfl (fun r13 h14 e15 => ?_)
    refine S_if_ne (tgt := 26) dX10_comesTo_20 (by decide) rfl (fun _ => ?_) (fun _ => ?_)
    · refine S_aload_n 0 dX10_comesTo_26 rfl rfl rfl ?_
      refine S_iload_n 1 dX10_comesTo_27 rfl rfl rfl ?_
      refine S_callV_0 (as := [qi a1]) (st := []) (fun _ => rfl) (TX10_loads a1 h14) yv_X10_loads tw_1586 qC_10 qk_212 (by decide) rfl rfl (Nat.le_of_ble_eq_true rfl) dX10_comesTo_28 rfl (fun r16 h17 e18 => ?_)
      refine S_iconst (a := 0) dX10_comesTo_31 rfl (by decide) ?_
      refine S_istore_n (lv' := [(3, qi 0), (0, qr 212), (1, qi a1), (2, qi a2)]) dX10_comesTo_32 rfl (by decide) rfl rfl ?_
      refine S_sub [1, 3, 0] rfl ?_
      exact TX10_comesTo_l33 LF a2 0 h17
    · refine S_bipush (a := (-2)) dX10_comesTo_23 rfl (by decide) (by decide) ?_
      exact S_iret dX10_comesTo_25
def DX10_manyOf_l4 : Nat → Int → Int → Int → qH → Option (Int × qH)
  | 0, _, _, _, _ => none
  | n + 1, a1, a2, a3, h => (if h.1 213 348 ≤ a3 then some (a2, h) else (if 0 ≤ qw (284 + qw (8 * a3)) ∧ qw (284 + qw (8 * a3)) < 5736 then (if ¬ h.1 213 (qw (284 + qw (8 * a3))).toNat = a1 then (qlt (qw (a2 + 0)) fun v5 => ((DX10_manyOf_l4 n) a1 v5 (qw (a3 + 1)) h)) else (qlt (qw (a2 + 1)) fun v6 => ((DX10_manyOf_l4 n) a1 v6 (qw (a3 + 1)) h))) else none))
set_option maxRecDepth 100000 in
theorem TX10_manyOf_l4 {L : Nat} {xs : Nat → Int32} : ∀ (n : Nat) (a1 : Int) (a2 : Int) (a3 : Int) (h : qH), qS L xs cX10_manyOf "BottlePostModel" 4 1 1 4 [(0, qr 212), (1, qi a1), (2, qi a2), (3, qi a3)] [] h (DX10_manyOf_l4 n a1 a2 a3 h) := by
  intro n
  induction n with
  | zero =>
    intro a1 a2 a3 h
    exact S_none
  | succ n ih =>
    intro a1 a2 a3 h
    rw [DX10_manyOf_l4.eq_2]
    refine S_iload_n 3 dX10_manyOf_4 rfl rfl rfl ?_
    refine S_aload_n 0 dX10_manyOf_5 rfl rfl rfl ?_
    refine S_getr (j := 213) (o := 1) 1 qC_10 (by decide) (by decide) qk_212 rfl rfl (by decide) tw_1227 dX10_manyOf_6 rfl ?_
    refine S_sipush (a := 348) dX10_manyOf_9 rfl (by decide) (by decide) ?_
    refine S_pick_t ((0 : Int) ≤ 348 ∧ (348 : Int) < 5736) (by decide) ?_
    refine S_iald (N := 5736) qk_213 rfl dX10_manyOf_12 rfl (fun g1 g2 => ?_)
    refine S_icmp_ge (tgt := 47) dX10_manyOf_13 (by decide) rfl (fun _ => ?_) (fun _ => ?_)
    · refine S_iload_n 2 dX10_manyOf_47 rfl rfl rfl ?_
      exact S_iret dX10_manyOf_48
    · refine S_iload_n 2 dX10_manyOf_16 rfl rfl rfl ?_
      refine S_aload_n 0 dX10_manyOf_17 rfl rfl rfl ?_
      refine S_getr (j := 213) (o := 1) 1 qC_10 (by decide) (by decide) qk_212 rfl rfl (by decide) tw_1227 dX10_manyOf_18 rfl ?_
      refine S_sipush (a := 284) dX10_manyOf_21 rfl (by decide) (by decide) ?_
      refine S_bipush (a := 8) dX10_manyOf_24 rfl (by decide) (by decide) ?_
      refine S_iload_n 3 dX10_manyOf_26 rfl rfl rfl ?_
      refine S_imul dX10_manyOf_27 rfl ?_
      refine S_iadd dX10_manyOf_28 rfl ?_
      refine S_iald (N := 5736) qk_213 rfl dX10_manyOf_29 rfl (fun g3 g4 => ?_)
      refine S_iload_n 1 dX10_manyOf_30 rfl rfl rfl ?_
      refine S_icmp_ne (tgt := 38) dX10_manyOf_31 (by decide) rfl (fun _ => ?_) (fun _ => ?_)
      · refine S_iconst (a := 0) dX10_manyOf_38 rfl (by decide) ?_
        refine S_iadd dX10_manyOf_39 rfl ?_
        refine S_istore_n (lv' := [(2, qi (qw (a2 + 0))), (0, qr 212), (1, qi a1), (3, qi a3)]) dX10_manyOf_40 rfl (by decide) rfl rfl ?_
        refine S_li (fun v5 => ?_)
        refine S_iinc (lv' := [(3, qi (qw (a3 + 1))), (2, qi v5), (0, qr 212), (1, qi a1)]) 3 dX10_manyOf_41 rfl (by decide) rfl rfl ?_
        refine S_goto (pc' := 4) dX10_manyOf_44 (by decide) ?_
        refine S_sub [2, 3, 1, 0] rfl ?_
        exact ih a1 v5 (qw (a3 + 1)) h
      · refine S_iconst (a := 1) dX10_manyOf_34 rfl (by decide) ?_
        refine S_goto (pc' := 39) dX10_manyOf_35 (by decide) ?_
        refine S_iadd dX10_manyOf_39 rfl ?_
        refine S_istore_n (lv' := [(2, qi (qw (a2 + 1))), (0, qr 212), (1, qi a1), (3, qi a3)]) dX10_manyOf_40 rfl (by decide) rfl rfl ?_
        refine S_li (fun v6 => ?_)
        refine S_iinc (lv' := [(3, qi (qw (a3 + 1))), (2, qi v6), (0, qr 212), (1, qi a1)]) 3 dX10_manyOf_41 rfl (by decide) rfl rfl ?_
        refine S_goto (pc' := 4) dX10_manyOf_44 (by decide) ?_
        refine S_sub [2, 3, 1, 0] rfl ?_
        exact ih a1 v6 (qw (a3 + 1)) h
def DX10_manyOf (a1 : Int) (h : qH) : Option (Int × qH) := (DX10_manyOf_l4 LF a1 0 0 h)
set_option maxRecDepth 100000 in
theorem TX10_manyOf {L : Nat} {xs : Nat → Int32} (a1 : Int) (h : qH) : qMet L xs yX10_manyOf cX10_manyOf 4 (some .int) 1 1 [qr 212, qi a1] h (DX10_manyOf a1 h) := by
  refine qMet.of (by decide +kernel) (Or.inr (Or.inl ⟨rfl, rfl⟩)) (Nat.le_of_ble_eq_true rfl) ?_
  show qS L xs cX10_manyOf "BottlePostModel" 4 1 1 0 [(0, qr 212), (1, qi a1)] [] h (DX10_manyOf a1 h)
  unfold DX10_manyOf
  refine S_iconst (a := 0) dX10_manyOf_0 rfl (by decide) ?_
  refine S_istore_n (lv' := [(2, qi 0), (0, qr 212), (1, qi a1)]) dX10_manyOf_1 rfl (by decide) rfl rfl ?_
  refine S_iconst (a := 0) dX10_manyOf_2 rfl (by decide) ?_
  refine S_istore_n (lv' := [(3, qi 0), (2, qi 0), (0, qr 212), (1, qi a1)]) dX10_manyOf_3 rfl (by decide) rfl rfl ?_
  refine S_sub [2, 3, 1, 0] rfl ?_
  exact TX10_manyOf_l4 LF a1 0 0 h
def DX10_rocks_l4 : Nat → Int → Int → qH → Option (Int × qH)
  | 0, _, _, _ => none
  | n + 1, a1, a2, h => (qbd (DX10_cells h) fun r1 h2 => (if r1 ≤ a2 then some (a1, h2) else (if 0 ≤ qw (14 + a2) ∧ qw (14 + a2) < 5736 then (if ¬ h2.1 213 (qw (14 + a2)).toNat = 1 then (qlt (qw (a1 + 0)) fun v6 => ((DX10_rocks_l4 n) v6 (qw (a2 + 1)) h2)) else (qlt (qw (a1 + 1)) fun v7 => ((DX10_rocks_l4 n) v7 (qw (a2 + 1)) h2))) else none)))
set_option maxRecDepth 100000 in
theorem TX10_rocks_l4 {L : Nat} {xs : Nat → Int32} : ∀ (n : Nat) (a1 : Int) (a2 : Int) (h : qH), qS L xs cX10_rocks "BottlePostModel" 3 2 1 4 [(0, qr 212), (1, qi a1), (2, qi a2)] [] h (DX10_rocks_l4 n a1 a2 h) := by
  intro n
  induction n with
  | zero =>
    intro a1 a2 h
    exact S_none
  | succ n ih =>
    intro a1 a2 h
    rw [DX10_rocks_l4.eq_2]
    refine S_iload_n 2 dX10_rocks_4 rfl rfl rfl ?_
    refine S_aload_n 0 dX10_rocks_5 rfl rfl rfl ?_
    refine S_callV_i (as := []) (st := [qi a2]) (fun _ => rfl) (TX10_cells h) yv_X10_cells tw_1473 qC_10 qk_212 (by decide) rfl rfl (Nat.le_of_ble_eq_true rfl) dX10_rocks_6 rfl (fun r1 h2 e3 => ?_)
    refine S_icmp_ge (tgt := 39) dX10_rocks_9 (by decide) rfl (fun _ => ?_) (fun _ => ?_)
    · refine S_iload_n 1 dX10_rocks_39 rfl rfl rfl ?_
      exact S_iret dX10_rocks_40
    · refine S_iload_n 1 dX10_rocks_12 rfl rfl rfl ?_
      refine S_aload_n 0 dX10_rocks_13 rfl rfl rfl ?_
      refine S_getr (j := 213) (o := 1) 1 qC_10 (by decide) (by decide) qk_212 rfl rfl (by decide) tw_1227 dX10_rocks_14 rfl ?_
      refine S_bipush (a := 14) dX10_rocks_17 rfl (by decide) (by decide) ?_
      refine S_iload_n 2 dX10_rocks_19 rfl rfl rfl ?_
      refine S_iadd dX10_rocks_20 rfl ?_
      refine S_iald (N := 5736) qk_213 rfl dX10_rocks_21 rfl (fun g4 g5 => ?_)
      refine S_iconst (a := 1) dX10_rocks_22 rfl (by decide) ?_
      refine S_icmp_ne (tgt := 30) dX10_rocks_23 (by decide) rfl (fun _ => ?_) (fun _ => ?_)
      · refine S_iconst (a := 0) dX10_rocks_30 rfl (by decide) ?_
        refine S_iadd dX10_rocks_31 rfl ?_
        refine S_istore_n (lv' := [(1, qi (qw (a1 + 0))), (0, qr 212), (2, qi a2)]) dX10_rocks_32 rfl (by decide) rfl rfl ?_
        refine S_li (fun v6 => ?_)
        refine S_iinc (lv' := [(2, qi (qw (a2 + 1))), (1, qi v6), (0, qr 212)]) 2 dX10_rocks_33 rfl (by decide) rfl rfl ?_
        refine S_goto (pc' := 4) dX10_rocks_36 (by decide) ?_
        refine S_sub [2, 1, 0] rfl ?_
        exact ih v6 (qw (a2 + 1)) h2
      · refine S_iconst (a := 1) dX10_rocks_26 rfl (by decide) ?_
        refine S_goto (pc' := 31) dX10_rocks_27 (by decide) ?_
        refine S_iadd dX10_rocks_31 rfl ?_
        refine S_istore_n (lv' := [(1, qi (qw (a1 + 1))), (0, qr 212), (2, qi a2)]) dX10_rocks_32 rfl (by decide) rfl rfl ?_
        refine S_li (fun v7 => ?_)
        refine S_iinc (lv' := [(2, qi (qw (a2 + 1))), (1, qi v7), (0, qr 212)]) 2 dX10_rocks_33 rfl (by decide) rfl rfl ?_
        refine S_goto (pc' := 4) dX10_rocks_36 (by decide) ?_
        refine S_sub [2, 1, 0] rfl ?_
        exact ih v7 (qw (a2 + 1)) h2
def DX10_rocks (h : qH) : Option (Int × qH) := (DX10_rocks_l4 LF 0 0 h)
set_option maxRecDepth 100000 in
theorem TX10_rocks {L : Nat} {xs : Nat → Int32} (h : qH) : qMet L xs yX10_rocks cX10_rocks 3 (some .int) 1 2 [qr 212] h (DX10_rocks h) := by
  refine qMet.of (by decide +kernel) (Or.inr (Or.inl ⟨rfl, rfl⟩)) (Nat.le_of_ble_eq_true rfl) ?_
  show qS L xs cX10_rocks "BottlePostModel" 3 2 1 0 [(0, qr 212)] [] h (DX10_rocks h)
  unfold DX10_rocks
  refine S_iconst (a := 0) dX10_rocks_0 rfl (by decide) ?_
  refine S_istore_n (lv' := [(1, qi 0), (0, qr 212)]) dX10_rocks_1 rfl (by decide) rfl rfl ?_
  refine S_iconst (a := 0) dX10_rocks_2 rfl (by decide) ?_
  refine S_istore_n (lv' := [(2, qi 0), (1, qi 0), (0, qr 212)]) dX10_rocks_3 rfl (by decide) rfl rfl ?_
  refine S_sub [2, 1, 0] rfl ?_
  exact TX10_rocks_l4 LF 0 0 h
def DX10_count (a1 : Int) (h : qH) : Option (Int × qH) := (qlt (qu h 212 0 0) fun h1 => (if a1 = 0 then some (h1.1 213 1, h1) else (if a1 = 1 then some (h1.1 213 2, h1) else (if a1 = 2 then some (h1.1 213 3, h1) else (if a1 = 3 then some (h1.1 213 4, h1) else (if a1 = 4 then some (h1.1 213 348, h1) else (if a1 = 5 then (qbd (DX10_manyOf 0 h1) fun r18 h19 => some (r18, h19)) else (if a1 = 6 then (qbd (DX10_manyOf 2 h1) fun r22 h23 => some (r22, h23)) else (if a1 = 7 then some (h1.1 213 349, h1) else (if a1 = 8 then (qbd (DX10_phaseOf (h1.1 213 349) h1) fun r31 h32 => some (r31, h32)) else (if a1 = 9 then (qbd (DX10_moonOf (h1.1 213 349) h1) fun r37 h38 => some (r37, h38)) else (if a1 = 10 then some (h1.1 213 350, h1) else (if a1 = 11 then some (h1.1 212 5, h1) else (if a1 = 12 then some (h1.1 213 0, h1) else (if a1 = 13 then (qbd (DX10_rocks h1) fun r48 h49 => some (r48, h49)) else some ((-1), h1))))))))))))))))
set_option maxRecDepth 100000 in
theorem TX10_count {L : Nat} {xs : Nat → Int32} (a1 : Int) (h : qH) : qMet L xs yX10_count cX10_count 2 (some .int) 1 3 [qr 212, qi a1] h (DX10_count a1 h) := by
  refine qMet.of (by decide +kernel) (Or.inr (Or.inl ⟨rfl, rfl⟩)) (Nat.le_of_ble_eq_true rfl) ?_
  show qS L xs cX10_count "BottlePostModel" 2 3 1 0 [(0, qr 212), (1, qi a1)] [] h (DX10_count a1 h)
  unfold DX10_count
  refine S_aload_n 0 dX10_count_0 rfl rfl rfl ?_
  refine S_iconst (a := 0) dX10_count_1 rfl (by decide) ?_
  refine S_puti 0 qC_10 (by decide) (by decide) rfl rfl qk_212 (by decide) tw_1226 dX10_count_2 rfl ?_
  refine S_lh (fun h1 => ?_)
  refine S_iload_n 1 dX10_count_5 rfl rfl rfl ?_
  refine S_ite (fun g2 => ?_) (fun g2 => ?_)
  · refine S_tabIn (a0 := 0) (off := 70) (pc' := 76) dX10_count_6 g2 (by decide) (by decide) rfl (by decide) ?_
    refine S_aload_n 0 dX10_count_76 rfl rfl rfl ?_
    refine S_getr (j := 213) (o := 1) 1 qC_10 (by decide) (by decide) qk_212 rfl rfl (by decide) tw_1227 dX10_count_77 rfl ?_
    refine S_iconst (a := 1) dX10_count_80 rfl (by decide) ?_
    refine S_pick_t ((0 : Int) ≤ 1 ∧ (1 : Int) < 5736) (by decide) ?_
    refine S_iald (N := 5736) qk_213 rfl dX10_count_81 rfl (fun g3 g4 => ?_)
    exact S_iret dX10_count_82
  · refine S_ite (fun g5 => ?_) (fun g5 => ?_)
    · refine S_tabIn (a0 := 1) (off := 77) (pc' := 83) dX10_count_6 g5 (by decide) (by decide) rfl (by decide) ?_
      refine S_aload_n 0 dX10_count_83 rfl rfl rfl ?_
      refine S_getr (j := 213) (o := 1) 1 qC_10 (by decide) (by decide) qk_212 rfl rfl (by decide) tw_1227 dX10_count_84 rfl ?_
      refine S_iconst (a := 2) dX10_count_87 rfl (by decide) ?_
      refine S_pick_t ((0 : Int) ≤ 2 ∧ (2 : Int) < 5736) (by decide) ?_
      refine S_iald (N := 5736) qk_213 rfl dX10_count_88 rfl (fun g6 g7 => ?_)
      exact S_iret dX10_count_89
    · refine S_ite (fun g8 => ?_) (fun g8 => ?_)
      · refine S_tabIn (a0 := 2) (off := 84) (pc' := 90) dX10_count_6 g8 (by decide) (by decide) rfl (by decide) ?_
        refine S_aload_n 0 dX10_count_90 rfl rfl rfl ?_
        refine S_getr (j := 213) (o := 1) 1 qC_10 (by decide) (by decide) qk_212 rfl rfl (by decide) tw_1227 dX10_count_91 rfl ?_
        refine S_iconst (a := 3) dX10_count_94 rfl (by decide) ?_
        refine S_pick_t ((0 : Int) ≤ 3 ∧ (3 : Int) < 5736) (by decide) ?_
        refine S_iald (N := 5736) qk_213 rfl dX10_count_95 rfl (fun g9 g10 => ?_)
        exact S_iret dX10_count_96
      · refine S_ite (fun g11 => ?_) (fun g11 => ?_)
        · refine S_tabIn (a0 := 3) (off := 91) (pc' := 97) dX10_count_6 g11 (by decide) (by decide) rfl (by decide) ?_
          refine S_aload_n 0 dX10_count_97 rfl rfl rfl ?_
          refine S_getr (j := 213) (o := 1) 1 qC_10 (by decide) (by decide) qk_212 rfl rfl (by decide) tw_1227 dX10_count_98 rfl ?_
          refine S_iconst (a := 4) dX10_count_101 rfl (by decide) ?_
          refine S_pick_t ((0 : Int) ≤ 4 ∧ (4 : Int) < 5736) (by decide) ?_
          refine S_iald (N := 5736) qk_213 rfl dX10_count_102 rfl (fun g12 g13 => ?_)
          exact S_iret dX10_count_103
        · refine S_ite (fun g14 => ?_) (fun g14 => ?_)
          · refine S_tabIn (a0 := 4) (off := 98) (pc' := 104) dX10_count_6 g14 (by decide) (by decide) rfl (by decide) ?_
            refine S_aload_n 0 dX10_count_104 rfl rfl rfl ?_
            refine S_getr (j := 213) (o := 1) 1 qC_10 (by decide) (by decide) qk_212 rfl rfl (by decide) tw_1227 dX10_count_105 rfl ?_
            refine S_sipush (a := 348) dX10_count_108 rfl (by decide) (by decide) ?_
            refine S_pick_t ((0 : Int) ≤ 348 ∧ (348 : Int) < 5736) (by decide) ?_
            refine S_iald (N := 5736) qk_213 rfl dX10_count_111 rfl (fun g15 g16 => ?_)
            exact S_iret dX10_count_112
          · refine S_ite (fun g17 => ?_) (fun g17 => ?_)
            · refine S_tabIn (a0 := 5) (off := 107) (pc' := 113) dX10_count_6 g17 (by decide) (by decide) rfl (by decide) ?_
              refine S_aload_n 0 dX10_count_113 rfl rfl rfl ?_
              refine S_iconst (a := 0) dX10_count_114 rfl (by decide) ?_
              refine S_callV_i (as := [qi 0]) (st := []) (fun _ => rfl) (TX10_manyOf 0 h1) yv_X10_manyOf tw_1660 qC_10 qk_212 (by decide) rfl rfl (Nat.le_of_ble_eq_true rfl) dX10_count_115 rfl (fun r18 h19 e20 => ?_)
              exact S_iret dX10_count_118
            · refine S_ite (fun g21 => ?_) (fun g21 => ?_)
              · refine S_tabIn (a0 := 6) (off := 113) (pc' := 119) dX10_count_6 g21 (by decide) (by decide) rfl (by decide) ?_
                refine S_aload_n 0 dX10_count_119 rfl rfl rfl ?_
                refine S_iconst (a := 2) dX10_count_120 rfl (by decide) ?_
                refine S_callV_i (as := [qi 2]) (st := []) (fun _ => rfl) (TX10_manyOf 2 h1) yv_X10_manyOf tw_1660 qC_10 qk_212 (by decide) rfl rfl (Nat.le_of_ble_eq_true rfl) dX10_count_121 rfl (fun r22 h23 e24 => ?_)
                exact S_iret dX10_count_124
              · refine S_ite (fun g25 => ?_) (fun g25 => ?_)
                · refine S_tabIn (a0 := 7) (off := 119) (pc' := 125) dX10_count_6 g25 (by decide) (by decide) rfl (by decide) ?_
                  refine S_aload_n 0 dX10_count_125 rfl rfl rfl ?_
                  refine S_getr (j := 213) (o := 1) 1 qC_10 (by decide) (by decide) qk_212 rfl rfl (by decide) tw_1227 dX10_count_126 rfl ?_
                  refine S_sipush (a := 349) dX10_count_129 rfl (by decide) (by decide) ?_
                  refine S_pick_t ((0 : Int) ≤ 349 ∧ (349 : Int) < 5736) (by decide) ?_
                  refine S_iald (N := 5736) qk_213 rfl dX10_count_132 rfl (fun g26 g27 => ?_)
                  exact S_iret dX10_count_133
                · refine S_ite (fun g28 => ?_) (fun g28 => ?_)
                  · refine S_tabIn (a0 := 8) (off := 128) (pc' := 134) dX10_count_6 g28 (by decide) (by decide) rfl (by decide) ?_
                    refine S_aload_n 0 dX10_count_134 rfl rfl rfl ?_
                    refine S_aload_n 0 dX10_count_135 rfl rfl rfl ?_
                    refine S_getr (j := 213) (o := 1) 1 qC_10 (by decide) (by decide) qk_212 rfl rfl (by decide) tw_1227 dX10_count_136 rfl ?_
                    refine S_sipush (a := 349) dX10_count_139 rfl (by decide) (by decide) ?_
                    refine S_pick_t ((0 : Int) ≤ 349 ∧ (349 : Int) < 5736) (by decide) ?_
                    refine S_iald (N := 5736) qk_213 rfl dX10_count_142 rfl (fun g29 g30 => ?_)
                    refine S_callV_i (as := [qi (h1.1 213 349)]) (st := []) (fun _ => rfl) (TX10_phaseOf (h1.1 213 349) h1) yv_X10_phaseOf tw_1522 qC_10 qk_212 (by decide) rfl rfl (Nat.le_of_ble_eq_true rfl) dX10_count_143 rfl (fun r31 h32 e33 => ?_)
                    exact S_iret dX10_count_146
                  · refine S_ite (fun g34 => ?_) (fun g34 => ?_)
                    · refine S_tabIn (a0 := 9) (off := 141) (pc' := 147) dX10_count_6 g34 (by decide) (by decide) rfl (by decide) ?_
                      refine S_aload_n 0 dX10_count_147 rfl rfl rfl ?_
                      refine S_aload_n 0 dX10_count_148 rfl rfl rfl ?_
                      refine S_getr (j := 213) (o := 1) 1 qC_10 (by decide) (by decide) qk_212 rfl rfl (by decide) tw_1227 dX10_count_149 rfl ?_
                      refine S_sipush (a := 349) dX10_count_152 rfl (by decide) (by decide) ?_
                      refine S_pick_t ((0 : Int) ≤ 349 ∧ (349 : Int) < 5736) (by decide) ?_
                      refine S_iald (N := 5736) qk_213 rfl dX10_count_155 rfl (fun g35 g36 => ?_)
                      refine S_callV_i (as := [qi (h1.1 213 349)]) (st := []) (fun _ => rfl) (TX10_moonOf (h1.1 213 349) h1) yv_X10_moonOf tw_1526 qC_10 qk_212 (by decide) rfl rfl (Nat.le_of_ble_eq_true rfl) dX10_count_156 rfl (fun r37 h38 e39 => ?_)
                      exact S_iret dX10_count_159
                    · refine S_ite (fun g40 => ?_) (fun g40 => ?_)
                      · refine S_tabIn (a0 := 10) (off := 154) (pc' := 160) dX10_count_6 g40 (by decide) (by decide) rfl (by decide) ?_
                        refine S_aload_n 0 dX10_count_160 rfl rfl rfl ?_
                        refine S_getr (j := 213) (o := 1) 1 qC_10 (by decide) (by decide) qk_212 rfl rfl (by decide) tw_1227 dX10_count_161 rfl ?_
                        refine S_sipush (a := 350) dX10_count_164 rfl (by decide) (by decide) ?_
                        refine S_pick_t ((0 : Int) ≤ 350 ∧ (350 : Int) < 5736) (by decide) ?_
                        refine S_iald (N := 5736) qk_213 rfl dX10_count_167 rfl (fun g41 g42 => ?_)
                        exact S_iret dX10_count_168
                      · refine S_ite (fun g43 => ?_) (fun g43 => ?_)
                        · refine S_tabIn (a0 := 11) (off := 163) (pc' := 169) dX10_count_6 g43 (by decide) (by decide) rfl (by decide) ?_
                          refine S_aload_n 0 dX10_count_169 rfl rfl rfl ?_
                          refine S_geti 5 qC_10 (by decide) (by decide) qk_212 tw_1231 dX10_count_170 rfl ?_
                          exact S_iret dX10_count_173
                        · refine S_ite (fun g44 => ?_) (fun g44 => ?_)
                          · refine S_tabIn (a0 := 12) (off := 168) (pc' := 174) dX10_count_6 g44 (by decide) (by decide) rfl (by decide) ?_
                            refine S_aload_n 0 dX10_count_174 rfl rfl rfl ?_
                            refine S_getr (j := 213) (o := 1) 1 qC_10 (by decide) (by decide) qk_212 rfl rfl (by decide) tw_1227 dX10_count_175 rfl ?_
                            refine S_iconst (a := 0) dX10_count_178 rfl (by decide) ?_
                            refine S_pick_t ((0 : Int) ≤ 0 ∧ (0 : Int) < 5736) (by decide) ?_
                            refine S_iald (N := 5736) qk_213 rfl dX10_count_179 rfl (fun g45 g46 => ?_)
                            exact S_iret dX10_count_180
                          · refine S_ite (fun g47 => ?_) (fun g47 => ?_)
                            · refine S_tabIn (a0 := 13) (off := 175) (pc' := 181) dX10_count_6 g47 (by decide) (by decide) rfl (by decide) ?_
                              refine S_aload_n 0 dX10_count_181 rfl rfl rfl ?_
                              refine S_callV_i (as := []) (st := []) (fun _ => rfl) (TX10_rocks h1) yv_X10_rocks tw_1848 qC_10 qk_212 (by decide) rfl rfl (Nat.le_of_ble_eq_true rfl) dX10_count_182 rfl (fun r48 h49 e50 => ?_)
                              exact S_iret dX10_count_185
                            · refine S_tabOut (pc' := 186) dX10_count_6 (by omega) (by decide) ?_
                              refine S_iconst (a := (-1)) dX10_count_186 rfl (by decide) ?_
                              exact S_iret dX10_count_187
def DX10_current (a1 : Int) (a2 : Int) (h : qH) : Option (Int × qH) := (qlt (qu h 212 0 0) fun h1 => (qbd (DX10_isCell a1 h1) fun r2 h3 => (if r2 = 0 then some ((-2), h3) else (qbd (DX10_within a2 0 (qw (h3.1 213 3 - 1)) h3) fun r7 h8 => (if r7 = 0 then some ((-2), h8) else (if 0 ≤ qw (qw (50 + qw (6 * a1)) + a2) ∧ qw (qw (50 + qw (6 * a1)) + a2) < 5736 then some (h8.1 213 (qw (qw (50 + qw (6 * a1)) + a2)).toNat, h8) else none))))))
set_option maxRecDepth 100000 in
theorem TX10_current {L : Nat} {xs : Nat → Int32} (a1 : Int) (a2 : Int) (h : qH) : qMet L xs yX10_current cX10_current 3 (some .int) 1 3 [qr 212, qi a1, qi a2] h (DX10_current a1 a2 h) := by
  refine qMet.of (by decide +kernel) (Or.inr (Or.inl ⟨rfl, rfl⟩)) (Nat.le_of_ble_eq_true rfl) ?_
  show qS L xs cX10_current "BottlePostModel" 3 3 1 0 [(0, qr 212), (1, qi a1), (2, qi a2)] [] h (DX10_current a1 a2 h)
  unfold DX10_current
  refine S_aload_n 0 dX10_current_0 rfl rfl rfl ?_
  refine S_iconst (a := 0) dX10_current_1 rfl (by decide) ?_
  refine S_puti 0 qC_10 (by decide) (by decide) rfl rfl qk_212 (by decide) tw_1226 dX10_current_2 rfl ?_
  refine S_lh (fun h1 => ?_)
  refine S_aload_n 0 dX10_current_5 rfl rfl rfl ?_
  refine S_iload_n 1 dX10_current_6 rfl rfl rfl ?_
  refine S_i2l dX10_current_7 rfl ?_
  refine S_callV_i (as := [ql a1]) (st := []) (fun _ => rfl) (TX10_isCell a1 h1) yv_X10_isCell tw_1469 qC_10 qk_212 (by decide) rfl rfl (Nat.le_of_ble_eq_true rfl) dX10_current_8 rfl (fun r2 h3 e4 => ?_)
  refine S_if_eq (tgt := 49) dX10_current_11 (by decide) rfl (fun _ => ?_) (fun _ => ?_)
  · refine S_bipush (a := (-2)) dX10_current_49 rfl (by decide) (by decide) ?_
    exact S_iret dX10_current_51
  · refine S_iload_n 2 dX10_current_14 rfl rfl rfl ?_
    refine S_i2l dX10_current_15 rfl ?_
    refine S_lconst (a := 0) dX10_current_16 rfl (by decide) (by decide) ?_
    refine S_aload_n 0 dX10_current_17 rfl rfl rfl ?_
    refine S_getr (j := 213) (o := 1) 1 qC_10 (by decide) (by decide) qk_212 rfl rfl (by decide) tw_1227 dX10_current_18 rfl ?_
    refine S_iconst (a := 3) dX10_current_21 rfl (by decide) ?_
    refine S_pick_t ((0 : Int) ≤ 3 ∧ (3 : Int) < 5736) (by decide) ?_
    refine S_iald (N := 5736) qk_213 rfl dX10_current_22 rfl (fun g5 g6 => ?_)
    refine S_iconst (a := 1) dX10_current_23 rfl (by decide) ?_
    refine S_isub dX10_current_24 rfl ?_
    refine S_i2l dX10_current_25 rfl ?_
    refine S_callS_i (as := [ql a2, ql 0, ql (qw (h3.1 213 3 - 1))]) (st := []) (fun _ => rfl) (TX10_within a2 0 (qw (h3.1 213 3 - 1)) h3) yv_X10_within tw_1352 (by decide) rfl rfl (Nat.le_of_ble_eq_true rfl) dX10_current_26 rfl (fun r7 h8 e9 => ?_)
    refine S_if_eq (tgt := 49) dX10_current_29 (by decide) rfl (fun _ => ?_) (fun _ => ?_)
    · refine S_bipush (a := (-2)) dX10_current_49 rfl (by decide) (by decide) ?_
      exact S_iret dX10_current_51
    · refine S_aload_n 0 dX10_current_32 rfl rfl rfl ?_
      refine S_getr (j := 213) (o := 1) 1 qC_10 (by decide) (by decide) qk_212 rfl rfl (by decide) tw_1227 dX10_current_33 rfl ?_
      refine S_bipush (a := 50) dX10_current_36 rfl (by decide) (by decide) ?_
      refine S_bipush (a := 6) dX10_current_38 rfl (by decide) (by decide) ?_
      refine S_iload_n 1 dX10_current_40 rfl rfl rfl ?_
      refine S_imul dX10_current_41 rfl ?_
      refine S_iadd dX10_current_42 rfl ?_
      refine S_iload_n 2 dX10_current_43 rfl rfl rfl ?_
      refine S_iadd dX10_current_44 rfl ?_
      refine S_iald (N := 5736) qk_213 rfl dX10_current_45 rfl (fun g10 g11 => ?_)
      refine S_goto (pc' := 51) dX10_current_46 (by decide) ?_
      exact S_iret dX10_current_51
