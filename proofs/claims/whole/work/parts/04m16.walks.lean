def DX10_takes_b37 (h : qH) : Option (Int × qH) := (qlt (h.1 212 10) fun v1 => (if ¬ h.1 212 11 = 0 then some (v1, h) else (qbd (DX10_next h) fun r2 h3 => some (v1, h3))))
set_option maxRecDepth 100000 in
theorem TX10_takes_b37 {L : Nat} {xs : Nat → Int32} (h : qH) : qS L xs cX10_takes "BottlePostModel" 4 8 1 37 [(0, qr 212)] [] h (DX10_takes_b37 h) := by
  unfold DX10_takes_b37
  refine S_aload_n 0 dX10_takes_37 rfl rfl rfl ?_
  refine S_geti 10 qC_10 (by decide) (by decide) qk_212 tw_1236 dX10_takes_38 rfl ?_
  refine S_istore_n (lv' := [(3, qi (h.1 212 10)), (0, qr 212)]) dX10_takes_41 rfl (by decide) rfl rfl ?_
  refine S_li (fun v1 => ?_)
  refine S_aload_n 1 dX10_takes_42 rfl rfl rfl ?_
  refine S_geti 11 qC_10 (by decide) (by decide) qk_212 tw_1237 dX10_takes_43 rfl ?_
  refine S_if_ne (tgt := 53) dX10_takes_46 (by decide) rfl (fun _ => ?_) (fun _ => ?_)
  · refine S_iload_n 0 dX10_takes_53 rfl rfl rfl ?_
    exact S_iret dX10_takes_54
  · refine S_aload_n 1 dX10_takes_49 rfl rfl rfl ?_
    refine S_callV_0 (as := []) (st := []) (fun _ => rfl) (TX10_next h) yv_X10_next tw_1355 qC_10 qk_212 (by decide) rfl rfl (Nat.le_of_ble_eq_true rfl) dX10_takes_50 rfl (fun r2 h3 e4 => ?_)
    refine S_iload_n 0 dX10_takes_53 rfl rfl rfl ?_
    exact S_iret dX10_takes_54
def DX10_takes (a1 : Int) (a2 : Int) (h : qH) : Option (Int × qH) := (qbd (DX10_is 31 h) fun r5 h6 => (if ¬ r5 = 0 then (qbd (DX10_within (h6.1 212 10) a1 a2 h6) fun r8 h9 => (if ¬ r8 = 0 then (DX10_takes_b37 h9) else (qbd (DX10_fails 3 h9) fun r11 h12 => (DX10_takes_b37 h12)))) else (qbd (DX10_fails 2 h6) fun r14 h15 => (DX10_takes_b37 h15))))
set_option maxRecDepth 100000 in
theorem TX10_takes {L : Nat} {xs : Nat → Int32} (a1 : Int) (a2 : Int) (h : qH) : qMet L xs yX10_takes cX10_takes 4 (some .int) 1 8 [qr 212, qi a1, qi a2] h (DX10_takes a1 a2 h) := by
  refine qMet.of (by decide +kernel) (Or.inr (Or.inl ⟨rfl, rfl⟩)) (Nat.le_of_ble_eq_true rfl) ?_
  show qS L xs cX10_takes "BottlePostModel" 4 8 1 0 [(0, qr 212), (1, qi a1), (2, qi a2)] [] h (DX10_takes a1 a2 h)
  unfold DX10_takes
  refine S_aload_n 0 dX10_takes_0 rfl rfl rfl ?_
  refine S_bipush (a := 31) dX10_takes_1 rfl (by decide) (by decide) ?_
  refine S_callV_i (as := [qi 31]) (st := []) (fun _ => rfl) (TX10_is 31 h) yv_X10_is tw_1381 qC_10 qk_212 (by decide) rfl rfl (Nat.le_of_ble_eq_true rfl) dX10_takes_3 rfl (fun r5 h6 e7 => ?_)
  refine S_if_ne (tgt := 17) dX10_takes_6 (by decide) rfl (fun _ => ?_) (fun _ => ?_)
  · refine S_aload_n 0 dX10_takes_17 rfl rfl rfl ?_
    refine S_geti 10 qC_10 (by decide) (by decide) qk_212 tw_1236 dX10_takes_18 rfl ?_
    refine S_i2l dX10_takes_21 rfl ?_
    refine S_iload_n 1 dX10_takes_22 rfl rfl rfl ?_
    refine S_i2l dX10_takes_23 rfl ?_
    refine S_iload_n 2 dX10_takes_24 rfl rfl rfl ?_
    refine S_i2l dX10_takes_25 rfl ?_
    refine S_callS_i (as := [ql (h6.1 212 10), ql a1, ql a2]) (st := []) (fun _ => rfl) (TX10_within (h6.1 212 10) a1 a2 h6) yv_X10_within tw_1352 (by decide) rfl rfl (Nat.le_of_ble_eq_true rfl) dX10_takes_26 rfl (fun r8 h9 e10 => ?_)
    refine S_if_ne (tgt := 37) dX10_takes_29 (by decide) rfl (fun _ => ?_) (fun _ => ?_)
    · refine S_sub [0] rfl ?_
      exact TX10_takes_b37 h9
    · refine S_aload_n 0 dX10_takes_32 rfl rfl rfl ?_
      refine S_iconst (a := 3) dX10_takes_33 rfl (by decide) ?_
      refine S_callV_0 (as := [qi 3]) (st := []) (fun _ => rfl) (TX10_fails 3 h9) yv_X10_fails tw_1385 qC_10 qk_212 (by decide) rfl rfl (Nat.le_of_ble_eq_true rfl) dX10_takes_34 rfl (fun r11 h12 e13 => ?_)
      refine S_sub [0] rfl ?_
      exact TX10_takes_b37 h12
  · refine S_aload_n 0 dX10_takes_9 rfl rfl rfl ?_
    refine S_iconst (a := 2) dX10_takes_10 rfl (by decide) ?_
    refine S_callV_0 (as := [qi 2]) (st := []) (fun _ => rfl) (TX10_fails 2 h6) yv_X10_fails tw_1385 qC_10 qk_212 (by decide) rfl rfl (Nat.le_of_ble_eq_true rfl) dX10_takes_11 rfl (fun r14 h15 e16 => ?_)
    refine S_goto (pc' := 37) dX10_takes_14 (by decide) ?_
    refine S_sub [0] rfl ?_
    exact TX10_takes_b37 h15
def DX10_takesCell_b84 (a2 : Int) (h : qH) : Option (Int × qH) := (qbd (DX10_takes 0 (qw (h.1 216 2 - 1)) h) fun r3 h4 => (if ¬ h4.1 212 11 = 0 then some (0, h4) else some (qw (qw (h4.1 216 1 * r3) + a2), h4)))
set_option maxRecDepth 100000 in
theorem TX10_takesCell_b84 {L : Nat} {xs : Nat → Int32} (a2 : Int) (h : qH) : qS L xs cX10_takesCell "BottlePostModel" 4 9 1 84 [(0, qr 212), (2, qi a2)] [] h (DX10_takesCell_b84 a2 h) := by
  unfold DX10_takesCell_b84
  refine S_aload_n 0 dX10_takesCell_84 rfl rfl rfl ?_
  refine S_iconst (a := 0) dX10_takesCell_85 rfl (by decide) ?_
  refine S_aload_n 0 dX10_takesCell_86 rfl rfl rfl ?_
  refine S_getr (j := 216) (o := 4) 4 qC_10 (by decide) (by decide) qk_212 rfl rfl (by decide) tw_1230 dX10_takesCell_87 rfl ?_
  refine S_iconst (a := 2) dX10_takesCell_90 rfl (by decide) ?_
  refine S_pick_t ((0 : Int) ≤ 2 ∧ (2 : Int) < 1912) (by decide) ?_
  refine S_iald (N := 1912) qk_216 rfl dX10_takesCell_91 rfl (fun g1 g2 => ?_)
  refine S_iconst (a := 1) dX10_takesCell_92 rfl (by decide) ?_
  refine S_isub dX10_takesCell_93 rfl ?_
  refine S_callV_i (as := [qi 0, qi (qw (h.1 216 2 - 1))]) (st := []) (fun _ => rfl) (TX10_takes 0 (qw (h.1 216 2 - 1)) h) yv_X10_takes tw_1389 qC_10 qk_212 (by decide) rfl rfl (Nat.le_of_ble_eq_true rfl) dX10_takesCell_94 rfl (fun r3 h4 e5 => ?_)
  refine S_istore_n (lv' := [(3, qi r3), (0, qr 212), (2, qi a2)]) dX10_takesCell_97 rfl (by decide) rfl rfl ?_
  refine S_aload_n 1 dX10_takesCell_98 rfl rfl rfl ?_
  refine S_geti 11 qC_10 (by decide) (by decide) qk_212 tw_1237 dX10_takesCell_99 rfl ?_
  refine S_if_ne (tgt := 118) dX10_takesCell_102 (by decide) rfl (fun _ => ?_) (fun _ => ?_)
  · refine S_iconst (a := 0) dX10_takesCell_118 rfl (by decide) ?_
    exact S_iret dX10_takesCell_119
  · refine S_aload_n 1 dX10_takesCell_105 rfl rfl rfl ?_
    refine S_getr (j := 216) (o := 4) 4 qC_10 (by decide) (by decide) qk_212 rfl rfl (by decide) tw_1230 dX10_takesCell_106 rfl ?_
    refine S_iconst (a := 1) dX10_takesCell_109 rfl (by decide) ?_
    refine S_pick_t ((0 : Int) ≤ 1 ∧ (1 : Int) < 1912) (by decide) ?_
    refine S_iald (N := 1912) qk_216 rfl dX10_takesCell_110 rfl (fun g6 g7 => ?_)
    refine S_iload_n 0 dX10_takesCell_111 rfl rfl rfl ?_
    refine S_imul dX10_takesCell_112 rfl ?_
    refine S_iload_n 2 dX10_takesCell_113 rfl rfl rfl ?_
    refine S_iadd dX10_takesCell_114 rfl ?_
    refine S_goto (pc' := 119) dX10_takesCell_115 (by decide) ?_
    exact S_iret dX10_takesCell_119
def DX10_takesCell (a1 : Int) (h : qH) : Option (Int × qH) := (qbd (DX10_takes 0 (qw (h.1 216 1 - 1)) h) fun r10 h11 => (if ¬ h11.1 212 11 = 0 then (DX10_takesCell_b84 r10 h11) else (if a1 = 0 then (DX10_takesCell_b84 r10 h11) else (qbd (DX10_is 31 h11) fun r13 h14 => (if r13 = 0 then (DX10_takesCell_b84 r10 h14) else (qbd (DX10_within (h14.1 212 10) 0 (qw (h14.1 216 2 - 1)) h14) fun r18 h19 => (if r18 = 0 then (DX10_takesCell_b84 r10 h19) else (if 0 ≤ qw (qw (14 + qw (h19.1 216 1 * h19.1 212 10)) + r10) ∧ qw (qw (14 + qw (h19.1 216 1 * h19.1 212 10)) + r10) < 1912 then (if h19.1 216 (qw (qw (14 + qw (h19.1 216 1 * h19.1 212 10)) + r10)).toNat = 0 then (DX10_takesCell_b84 r10 h19) else (qbd (DX10_fails 3 h19) fun r25 h26 => (DX10_takesCell_b84 r10 h26))) else none))))))))
set_option maxRecDepth 100000 in
theorem TX10_takesCell {L : Nat} {xs : Nat → Int32} (a1 : Int) (h : qH) : qMet L xs yX10_takesCell cX10_takesCell 4 (some .int) 1 9 [qr 212, qi a1] h (DX10_takesCell a1 h) := by
  refine qMet.of (by decide +kernel) (Or.inr (Or.inl ⟨rfl, rfl⟩)) (Nat.le_of_ble_eq_true rfl) ?_
  show qS L xs cX10_takesCell "BottlePostModel" 4 9 1 0 [(0, qr 212), (1, qi a1)] [] h (DX10_takesCell a1 h)
  unfold DX10_takesCell
  refine S_aload_n 0 dX10_takesCell_0 rfl rfl rfl ?_
  refine S_iconst (a := 0) dX10_takesCell_1 rfl (by decide) ?_
  refine S_aload_n 0 dX10_takesCell_2 rfl rfl rfl ?_
  refine S_getr (j := 216) (o := 4) 4 qC_10 (by decide) (by decide) qk_212 rfl rfl (by decide) tw_1230 dX10_takesCell_3 rfl ?_
  refine S_iconst (a := 1) dX10_takesCell_6 rfl (by decide) ?_
  refine S_pick_t ((0 : Int) ≤ 1 ∧ (1 : Int) < 1912) (by decide) ?_
  refine S_iald (N := 1912) qk_216 rfl dX10_takesCell_7 rfl (fun g8 g9 => ?_)
  refine S_iconst (a := 1) dX10_takesCell_8 rfl (by decide) ?_
  refine S_isub dX10_takesCell_9 rfl ?_
  refine S_callV_i (as := [qi 0, qi (qw (h.1 216 1 - 1))]) (st := []) (fun _ => rfl) (TX10_takes 0 (qw (h.1 216 1 - 1)) h) yv_X10_takes tw_1389 qC_10 qk_212 (by decide) rfl rfl (Nat.le_of_ble_eq_true rfl) dX10_takesCell_10 rfl (fun r10 h11 e12 => ?_)
  refine S_istore_n (lv' := [(2, qi r10), (0, qr 212), (1, qi a1)]) dX10_takesCell_13 rfl (by decide) rfl rfl ?_
  refine S_aload_n 1 dX10_takesCell_14 rfl rfl rfl ?_
  refine S_geti 11 qC_10 (by decide) (by decide) qk_212 tw_1237 dX10_takesCell_15 rfl ?_
  refine S_if_ne (tgt := 84) dX10_takesCell_18 (by decide) rfl (fun _ => ?_) (fun _ => ?_)
  · refine S_sub [1, 0] rfl ?_
    exact TX10_takesCell_b84 r10 h11
  · refine S_iload_n 2 dX10_takesCell_21 rfl rfl rfl ?_
    refine S_if_eq (tgt := 84) dX10_takesCell_22 (by decide) rfl (fun _ => ?_) (fun _ => ?_)
    · refine S_sub [1, 0] rfl ?_
      exact TX10_takesCell_b84 r10 h11
    · refine S_aload_n 1 dX10_takesCell_25 rfl rfl rfl ?_
      refine S_bipush (a := 31) dX10_takesCell_26 rfl (by decide) (by decide) ?_
      refine S_callV_i (as := [qi 31]) (st := []) (fun _ => rfl) (TX10_is 31 h11) yv_X10_is tw_1381 qC_10 qk_212 (by decide) rfl rfl (Nat.le_of_ble_eq_true rfl) dX10_takesCell_28 rfl (fun r13 h14 e15 => ?_)
      refine S_if_eq (tgt := 84) dX10_takesCell_31 (by decide) rfl (fun _ => ?_) (fun _ => ?_)
      · refine S_sub [1, 0] rfl ?_
        exact TX10_takesCell_b84 r10 h14
      · refine S_aload_n 1 dX10_takesCell_34 rfl rfl rfl ?_
        refine S_geti 10 qC_10 (by decide) (by decide) qk_212 tw_1236 dX10_takesCell_35 rfl ?_
        refine S_i2l dX10_takesCell_38 rfl ?_
        refine S_lconst (a := 0) dX10_takesCell_39 rfl (by decide) (by decide) ?_
        refine S_aload_n 1 dX10_takesCell_40 rfl rfl rfl ?_
        refine S_getr (j := 216) (o := 4) 4 qC_10 (by decide) (by decide) qk_212 rfl rfl (by decide) tw_1230 dX10_takesCell_41 rfl ?_
        refine S_iconst (a := 2) dX10_takesCell_44 rfl (by decide) ?_
        refine S_pick_t ((0 : Int) ≤ 2 ∧ (2 : Int) < 1912) (by decide) ?_
        refine S_iald (N := 1912) qk_216 rfl dX10_takesCell_45 rfl (fun g16 g17 => ?_)
        refine S_iconst (a := 1) dX10_takesCell_46 rfl (by decide) ?_
        refine S_isub dX10_takesCell_47 rfl ?_
        refine S_i2l dX10_takesCell_48 rfl ?_
        refine S_callS_i (as := [ql (h14.1 212 10), ql 0, ql (qw (h14.1 216 2 - 1))]) (st := []) (fun _ => rfl) (TX10_within (h14.1 212 10) 0 (qw (h14.1 216 2 - 1)) h14) yv_X10_within tw_1352 (by decide) rfl rfl (Nat.le_of_ble_eq_true rfl) dX10_takesCell_49 rfl (fun r18 h19 e20 => ?_)
        refine S_if_eq (tgt := 84) dX10_takesCell_52 (by decide) rfl (fun _ => ?_) (fun _ => ?_)
        · refine S_sub [1, 0] rfl ?_
          exact TX10_takesCell_b84 r10 h19
        · refine S_aload_n 1 dX10_takesCell_55 rfl rfl rfl ?_
          refine S_getr (j := 216) (o := 4) 4 qC_10 (by decide) (by decide) qk_212 rfl rfl (by decide) tw_1230 dX10_takesCell_56 rfl ?_
          refine S_bipush (a := 14) dX10_takesCell_59 rfl (by decide) (by decide) ?_
          refine S_aload_n 1 dX10_takesCell_61 rfl rfl rfl ?_
          refine S_getr (j := 216) (o := 4) 4 qC_10 (by decide) (by decide) qk_212 rfl rfl (by decide) tw_1230 dX10_takesCell_62 rfl ?_
          refine S_iconst (a := 1) dX10_takesCell_65 rfl (by decide) ?_
          refine S_pick_t ((0 : Int) ≤ 1 ∧ (1 : Int) < 1912) (by decide) ?_
          refine S_iald (N := 1912) qk_216 rfl dX10_takesCell_66 rfl (fun g21 g22 => ?_)
          refine S_aload_n 1 dX10_takesCell_67 rfl rfl rfl ?_
          refine S_geti 10 qC_10 (by decide) (by decide) qk_212 tw_1236 dX10_takesCell_68 rfl ?_
          refine S_imul dX10_takesCell_71 rfl ?_
          refine S_iadd dX10_takesCell_72 rfl ?_
          refine S_iload_n 0 dX10_takesCell_73 rfl rfl rfl ?_
          refine S_iadd dX10_takesCell_74 rfl ?_
          refine S_iald (N := 1912) qk_216 rfl dX10_takesCell_75 rfl (fun g23 g24 => ?_)
          refine S_if_eq (tgt := 84) dX10_takesCell_76 (by decide) rfl (fun _ => ?_) (fun _ => ?_)
          · refine S_sub [1, 0] rfl ?_
            exact TX10_takesCell_b84 r10 h19
          · refine S_aload_n 1 dX10_takesCell_79 rfl rfl rfl ?_
            refine S_iconst (a := 3) dX10_takesCell_80 rfl (by decide) ?_
            refine S_callV_0 (as := [qi 3]) (st := []) (fun _ => rfl) (TX10_fails 3 h19) yv_X10_fails tw_1385 qC_10 qk_212 (by decide) rfl rfl (Nat.le_of_ble_eq_true rfl) dX10_takesCell_81 rfl (fun r25 h26 e27 => ?_)
            refine S_sub [1, 0] rfl ?_
            exact TX10_takesCell_b84 r10 h26
def DX10_readCurrent_l12 : Nat → Int → Int → qH → Option (Int × qH)
  | 0, _, _, _ => none
  | n + 1, a1, a2, h => (if h.1 216 3 ≤ a2 then some (0, h) else (qbd (DX10_takes 0 4 h) fun r3 h4 => (if ¬ h4.1 212 11 = 0 then ((DX10_readCurrent_l12 n) a1 (qw (a2 + 1)) h4) else (if 0 ≤ qw (qw (50 + qw (6 * a1)) + a2) ∧ qw (qw (50 + qw (6 * a1)) + a2) < 1912 then qlt (qu h4 216 (qw (qw (50 + qw (6 * a1)) + a2)).toNat r3) fun h6 => ((DX10_readCurrent_l12 n) a1 (qw (a2 + 1)) h6) else none))))
set_option maxRecDepth 100000 in
theorem TX10_readCurrent_l12 {L : Nat} {xs : Nat → Int32} : ∀ (n : Nat) (a1 : Int) (a2 : Int) (h : qH), qS L xs cX10_readCurrent "BottlePostModel" 4 10 0 12 [(0, qr 212), (1, qi a1), (2, qi a2)] [] h (DX10_readCurrent_l12 n a1 a2 h) := by
  intro n
  induction n with
  | zero =>
    intro a1 a2 h
    exact S_none
  | succ n ih =>
    intro a1 a2 h
    rw [DX10_readCurrent_l12.eq_2]
    refine S_iload_n 2 dX10_readCurrent_12 rfl rfl rfl ?_
    refine S_aload_n 0 dX10_readCurrent_13 rfl rfl rfl ?_
    refine S_getr (j := 216) (o := 4) 4 qC_10 (by decide) (by decide) qk_212 rfl rfl (by decide) tw_1230 dX10_readCurrent_14 rfl ?_
    refine S_iconst (a := 3) dX10_readCurrent_17 rfl (by decide) ?_
    refine S_pick_t ((0 : Int) ≤ 3 ∧ (3 : Int) < 1912) (by decide) ?_
    refine S_iald (N := 1912) qk_216 rfl dX10_readCurrent_18 rfl (fun g1 g2 => ?_)
    refine S_icmp_ge (tgt := 57) dX10_readCurrent_19 (by decide) rfl (fun _ => ?_) (fun _ => ?_)
    · exact S_vret dX10_readCurrent_57
    · refine S_aload_n 0 dX10_readCurrent_22 rfl rfl rfl ?_
      refine S_iconst (a := 0) dX10_readCurrent_23 rfl (by decide) ?_
      refine S_iconst (a := 4) dX10_readCurrent_24 rfl (by decide) ?_
      refine S_callV_i (as := [qi 0, qi 4]) (st := []) (fun _ => rfl) (TX10_takes 0 4 h) yv_X10_takes tw_1389 qC_10 qk_212 (by decide) rfl rfl (Nat.le_of_ble_eq_true rfl) dX10_readCurrent_25 rfl (fun r3 h4 e5 => ?_)
      refine S_istore_n (lv' := [(3, qi r3), (0, qr 212), (1, qi a1), (2, qi a2)]) dX10_readCurrent_28 rfl (by decide) rfl rfl ?_
      refine S_aload_n 1 dX10_readCurrent_29 rfl rfl rfl ?_
      refine S_geti 11 qC_10 (by decide) (by decide) qk_212 tw_1237 dX10_readCurrent_30 rfl ?_
      refine S_if_ne (tgt := 51) dX10_readCurrent_33 (by decide) rfl (fun _ => ?_) (fun _ => ?_)
      · refine S_iinc (lv' := [(2, qi (qw (a2 + 1))), (3, qi r3), (0, qr 212), (1, qi a1)]) 3 dX10_readCurrent_51 rfl (by decide) rfl rfl ?_
        refine S_goto (pc' := 12) dX10_readCurrent_54 (by decide) ?_
        refine S_sub [2, 3, 0] rfl ?_
        exact ih a1 (qw (a2 + 1)) h4
      · refine S_aload_n 1 dX10_readCurrent_36 rfl rfl rfl ?_
        refine S_getr (j := 216) (o := 4) 4 qC_10 (by decide) (by decide) qk_212 rfl rfl (by decide) tw_1230 dX10_readCurrent_37 rfl ?_
        refine S_bipush (a := 50) dX10_readCurrent_40 rfl (by decide) (by decide) ?_
        refine S_bipush (a := 6) dX10_readCurrent_42 rfl (by decide) (by decide) ?_
        refine S_iload_n 2 dX10_readCurrent_44 rfl rfl rfl ?_
        refine S_imul dX10_readCurrent_45 rfl ?_
        refine S_iadd dX10_readCurrent_46 rfl ?_
        refine S_iload_n 3 dX10_readCurrent_47 rfl rfl rfl ?_
        refine S_iadd dX10_readCurrent_48 rfl ?_
        refine S_iload_n 0 dX10_readCurrent_49 rfl rfl rfl ?_
        refine S_iast (N := 1912) qk_216 rfl dX10_readCurrent_50 rfl (fun _ _ => ?_)
        refine S_lh (fun h6 => ?_)
        refine S_iinc (lv' := [(2, qi (qw (a2 + 1))), (3, qi r3), (0, qr 212), (1, qi a1)]) 3 dX10_readCurrent_51 rfl (by decide) rfl rfl ?_
        refine S_goto (pc' := 12) dX10_readCurrent_54 (by decide) ?_
        refine S_sub [2, 3, 0] rfl ?_
        exact ih a1 (qw (a2 + 1)) h6
def DX10_readCurrent (h : qH) : Option (Int × qH) := (qbd (DX10_next h) fun r7 h8 => (qbd (DX10_takesCell 0 h8) fun r10 h11 => (DX10_readCurrent_l12 LF r10 0 h11)))
set_option maxRecDepth 100000 in
theorem TX10_readCurrent {L : Nat} {xs : Nat → Int32} (h : qH) : qMet L xs yX10_readCurrent cX10_readCurrent 4 (none) 0 10 [qr 212] h (DX10_readCurrent h) := by
  refine qMet.of (by decide +kernel) (Or.inl ⟨rfl, rfl⟩) (Nat.le_of_ble_eq_true rfl) ?_
  show qS L xs cX10_readCurrent "BottlePostModel" 4 10 0 0 [(0, qr 212)] [] h (DX10_readCurrent h)
  unfold DX10_readCurrent
  refine S_aload_n 0 dX10_readCurrent_0 rfl rfl rfl ?_
  refine S_callV_0 (as := []) (st := []) (fun _ => rfl) (TX10_next h) yv_X10_next tw_1355 qC_10 qk_212 (by decide) rfl rfl (Nat.le_of_ble_eq_true rfl) dX10_readCurrent_1 rfl (fun r7 h8 e9 => ?_)
  refine S_aload_n 0 dX10_readCurrent_4 rfl rfl rfl ?_
  refine S_iconst (a := 0) dX10_readCurrent_5 rfl (by decide) ?_
  refine S_callV_i (as := [qi 0]) (st := []) (fun _ => rfl) (TX10_takesCell 0 h8) yv_X10_takesCell tw_1401 qC_10 qk_212 (by decide) rfl rfl (Nat.le_of_ble_eq_true rfl) dX10_readCurrent_6 rfl (fun r10 h11 e12 => ?_)
  refine S_istore_n (lv' := [(1, qi r10), (0, qr 212)]) dX10_readCurrent_9 rfl (by decide) rfl rfl ?_
  refine S_iconst (a := 0) dX10_readCurrent_10 rfl (by decide) ?_
  refine S_istore_n (lv' := [(2, qi 0), (1, qi r10), (0, qr 212)]) dX10_readCurrent_11 rfl (by decide) rfl rfl ?_
  refine S_sub [2, 1, 0] rfl ?_
  exact TX10_readCurrent_l12 LF r10 0 h11
def DX10_readLaw_b49 (a1 : Int) (a2 : Int) (h : qH) : Option (Int × qH) := (if h.1 212 11 = 0 then (if 0 ≤ qw (8 + a1) ∧ qw (8 + a1) < 1912 then qlt (qu h 216 (qw (8 + a1)).toNat 1) fun h1 => (if 0 ≤ qw (10 + a1) ∧ qw (10 + a1) < 1912 then qlt (qu h1 216 (qw (10 + a1)).toNat a2) fun h2 => (if 0 ≤ qw (12 + a1) ∧ qw (12 + a1) < 1912 then qlt (qu h2 216 (qw (12 + a1)).toNat (qw (h2.1 216 1011 - a2))) fun h5 => some (0, h5) else none) else none) else none) else some (0, h))
set_option maxRecDepth 100000 in
theorem TX10_readLaw_b49 {L : Nat} {xs : Nat → Int32} (a1 : Int) (a2 : Int) (h : qH) : qS L xs cX10_readLaw "BottlePostModel" 3 110 0 49 [(0, qr 212), (1, qi a1), (2, qi a2)] [] h (DX10_readLaw_b49 a1 a2 h) := by
  unfold DX10_readLaw_b49
  refine S_aload_n 0 dX10_readLaw_49 rfl rfl rfl ?_
  refine S_geti 11 qC_10 (by decide) (by decide) qk_212 tw_1237 dX10_readLaw_50 rfl ?_
  refine S_if_eq (tgt := 57) dX10_readLaw_53 (by decide) rfl (fun _ => ?_) (fun _ => ?_)
  · refine S_aload_n 0 dX10_readLaw_57 rfl rfl rfl ?_
    refine S_getr (j := 216) (o := 4) 4 qC_10 (by decide) (by decide) qk_212 rfl rfl (by decide) tw_1230 dX10_readLaw_58 rfl ?_
    refine S_bipush (a := 8) dX10_readLaw_61 rfl (by decide) (by decide) ?_
    refine S_iload_n 1 dX10_readLaw_63 rfl rfl rfl ?_
    refine S_iadd dX10_readLaw_64 rfl ?_
    refine S_iconst (a := 1) dX10_readLaw_65 rfl (by decide) ?_
    refine S_iast (N := 1912) qk_216 rfl dX10_readLaw_66 rfl (fun _ _ => ?_)
    refine S_lh (fun h1 => ?_)
    refine S_aload_n 0 dX10_readLaw_67 rfl rfl rfl ?_
    refine S_getr (j := 216) (o := 4) 4 qC_10 (by decide) (by decide) qk_212 rfl rfl (by decide) tw_1230 dX10_readLaw_68 rfl ?_
    refine S_bipush (a := 10) dX10_readLaw_71 rfl (by decide) (by decide) ?_
    refine S_iload_n 1 dX10_readLaw_73 rfl rfl rfl ?_
    refine S_iadd dX10_readLaw_74 rfl ?_
    refine S_iload_n 2 dX10_readLaw_75 rfl rfl rfl ?_
    refine S_iast (N := 1912) qk_216 rfl dX10_readLaw_76 rfl (fun _ _ => ?_)
    refine S_lh (fun h2 => ?_)
    refine S_aload_n 0 dX10_readLaw_77 rfl rfl rfl ?_
    refine S_getr (j := 216) (o := 4) 4 qC_10 (by decide) (by decide) qk_212 rfl rfl (by decide) tw_1230 dX10_readLaw_78 rfl ?_
    refine S_bipush (a := 12) dX10_readLaw_81 rfl (by decide) (by decide) ?_
    refine S_iload_n 1 dX10_readLaw_83 rfl rfl rfl ?_
    refine S_iadd dX10_readLaw_84 rfl ?_
    refine S_aload_n 0 dX10_readLaw_85 rfl rfl rfl ?_
    refine S_getr (j := 216) (o := 4) 4 qC_10 (by decide) (by decide) qk_212 rfl rfl (by decide) tw_1230 dX10_readLaw_86 rfl ?_
    refine S_sipush (a := 1011) dX10_readLaw_89 rfl (by decide) (by decide) ?_
    refine S_pick_t ((0 : Int) ≤ 1011 ∧ (1011 : Int) < 1912) (by decide) ?_
    refine S_iald (N := 1912) qk_216 rfl dX10_readLaw_92 rfl (fun g3 g4 => ?_)
    refine S_iload_n 2 dX10_readLaw_93 rfl rfl rfl ?_
    refine S_isub dX10_readLaw_94 rfl ?_
    refine S_iast (N := 1912) qk_216 rfl dX10_readLaw_95 rfl (fun _ _ => ?_)
    refine S_lh (fun h5 => ?_)
    exact S_vret dX10_readLaw_96
  · exact S_vret dX10_readLaw_56
def DX10_readLaw_b18 (a1 : Int) (h : qH) : Option (Int × qH) := (qlt (h.1 216 1011) fun v8 => (qlt (qu h 212 15 a1) fun h9 => (if ¬ a1 = 0 then (qbd (RX10_readTruth 0 h9) fun r10 h11 => (DX10_readLaw_b49 a1 v8 h11)) else (qbd (RX10_readSum 0 h9) fun r13 h14 => (DX10_readLaw_b49 a1 v8 h14)))))
set_option maxRecDepth 100000 in
theorem TX10_readLaw_b18 {L : Nat} {xs : Nat → Int32} (a1 : Int) (h : qH) : qS L xs cX10_readLaw "BottlePostModel" 3 110 0 18 [(0, qr 212), (1, qi a1)] [] h (DX10_readLaw_b18 a1 h) := by
  unfold DX10_readLaw_b18
  refine S_aload_n 0 dX10_readLaw_18 rfl rfl rfl ?_
  refine S_getr (j := 216) (o := 4) 4 qC_10 (by decide) (by decide) qk_212 rfl rfl (by decide) tw_1230 dX10_readLaw_19 rfl ?_
  refine S_sipush (a := 1011) dX10_readLaw_22 rfl (by decide) (by decide) ?_
  refine S_pick_t ((0 : Int) ≤ 1011 ∧ (1011 : Int) < 1912) (by decide) ?_
  refine S_iald (N := 1912) qk_216 rfl dX10_readLaw_25 rfl (fun g6 g7 => ?_)
  refine S_istore_n (lv' := [(2, qi (h.1 216 1011)), (0, qr 212), (1, qi a1)]) dX10_readLaw_26 rfl (by decide) rfl rfl ?_
  refine S_li (fun v8 => ?_)
  refine S_aload_n 1 dX10_readLaw_27 rfl rfl rfl ?_
  refine S_iload_n 2 dX10_readLaw_28 rfl rfl rfl ?_
  refine S_puti 15 qC_10 (by decide) (by decide) rfl rfl qk_212 (by decide) tw_1241 dX10_readLaw_29 rfl ?_
  refine S_lh (fun h9 => ?_)
  refine S_iload_n 2 dX10_readLaw_32 rfl rfl rfl ?_
  refine S_if_ne (tgt := 44) dX10_readLaw_33 (by decide) rfl (fun _ => ?_) (fun _ => ?_)
  · refine S_aload_n 1 dX10_readLaw_44 rfl rfl rfl ?_
    refine S_iconst (a := 0) dX10_readLaw_45 rfl (by decide) ?_
    refine S_callV_0 (as := [qi 0]) (st := []) (fun _ => rfl) (TRX10_readTruth 0 h9) yv_X10_readTruth tw_1445 qC_10 qk_212 (by decide) rfl rfl (Nat.le_of_ble_eq_true rfl) dX10_readLaw_46 rfl (fun r10 h11 e12 => ?_)
    refine S_sub [1, 2, 0] rfl ?_
    exact TX10_readLaw_b49 a1 v8 h11
  · refine S_aload_n 1 dX10_readLaw_36 rfl rfl rfl ?_
    refine S_iconst (a := 0) dX10_readLaw_37 rfl (by decide) ?_
    refine S_callV_0 (as := [qi 0]) (st := []) (fun _ => rfl) (TRX10_readSum 0 h9) yv_X10_readSum tw_1419 qC_10 qk_212 (by decide) rfl rfl (Nat.le_of_ble_eq_true rfl) dX10_readLaw_38 rfl (fun r13 h14 e15 => ?_)
    refine S_goto (pc' := 49) dX10_readLaw_41 (by decide) ?_
    refine S_sub [1, 2, 0] rfl ?_
    exact TX10_readLaw_b49 a1 v8 h14
def DX10_readLaw (a1 : Int) (h : qH) : Option (Int × qH) := (qbd (DX10_next h) fun r16 h17 => (qbd (DX10_eats 41 h17) fun r19 h20 => (if ¬ r19 = 0 then (DX10_readLaw_b18 a1 h20) else (qbd (DX10_fails 2 h20) fun r22 h23 => (DX10_readLaw_b18 a1 h23)))))
set_option maxRecDepth 100000 in
theorem TX10_readLaw {L : Nat} {xs : Nat → Int32} (a1 : Int) (h : qH) : qMet L xs yX10_readLaw cX10_readLaw 3 (none) 0 110 [qr 212, qi a1] h (DX10_readLaw a1 h) := by
  refine qMet.of (by decide +kernel) (Or.inl ⟨rfl, rfl⟩) (Nat.le_of_ble_eq_true rfl) ?_
  show qS L xs cX10_readLaw "BottlePostModel" 3 110 0 0 [(0, qr 212), (1, qi a1)] [] h (DX10_readLaw a1 h)
  unfold DX10_readLaw
  refine S_aload_n 0 dX10_readLaw_0 rfl rfl rfl ?_
  refine S_callV_0 (as := []) (st := []) (fun _ => rfl) (TX10_next h) yv_X10_next tw_1355 qC_10 qk_212 (by decide) rfl rfl (Nat.le_of_ble_eq_true rfl) dX10_readLaw_1 rfl (fun r16 h17 e18 => ?_)
  refine S_aload_n 0 dX10_readLaw_4 rfl rfl rfl ?_
  refine S_bipush (a := 41) dX10_readLaw_5 rfl (by decide) (by decide) ?_
  refine S_callV_i (as := [qi 41]) (st := []) (fun _ => rfl) (TX10_eats 41 h17) yv_X10_eats tw_1377 qC_10 qk_212 (by decide) rfl rfl (Nat.le_of_ble_eq_true rfl) dX10_readLaw_7 rfl (fun r19 h20 e21 => ?_)
  refine S_if_ne (tgt := 18) dX10_readLaw_10 (by decide) rfl (fun _ => ?_) (fun _ => ?_)
  · exact TX10_readLaw_b18 a1 h20
  · refine S_aload_n 0 dX10_readLaw_13 rfl rfl rfl ?_
    refine S_iconst (a := 2) dX10_readLaw_14 rfl (by decide) ?_
    refine S_callV_0 (as := [qi 2]) (st := []) (fun _ => rfl) (TX10_fails 2 h20) yv_X10_fails tw_1385 qC_10 qk_212 (by decide) rfl rfl (Nat.le_of_ble_eq_true rfl) dX10_readLaw_15 rfl (fun r22 h23 e24 => ?_)
    exact TX10_readLaw_b18 a1 h23
def DX10_readMoon_b26 (a1 : Int) (h : qH) : Option (Int × qH) := (qbd (DX10_takes 0 a1 h) fun r1 h2 => (if h2.1 212 11 = 0 then (qlt (qu h2 216 5 a1) fun h4 => (qlt (qu h4 216 6 r1) fun h5 => some (0, h5))) else some (0, h2)))
set_option maxRecDepth 100000 in
theorem TX10_readMoon_b26 {L : Nat} {xs : Nat → Int32} (a1 : Int) (h : qH) : qS L xs cX10_readMoon "BottlePostModel" 3 9 0 26 [(0, qr 212), (1, qi a1)] [] h (DX10_readMoon_b26 a1 h) := by
  unfold DX10_readMoon_b26
  refine S_aload_n 0 dX10_readMoon_26 rfl rfl rfl ?_
  refine S_iconst (a := 0) dX10_readMoon_27 rfl (by decide) ?_
  refine S_iload_n 1 dX10_readMoon_28 rfl rfl rfl ?_
  refine S_callV_i (as := [qi 0, qi a1]) (st := []) (fun _ => rfl) (TX10_takes 0 a1 h) yv_X10_takes tw_1389 qC_10 qk_212 (by decide) rfl rfl (Nat.le_of_ble_eq_true rfl) dX10_readMoon_29 rfl (fun r1 h2 e3 => ?_)
  refine S_istore_n (lv' := [(2, qi r1), (0, qr 212), (1, qi a1)]) dX10_readMoon_32 rfl (by decide) rfl rfl ?_
  refine S_aload_n 1 dX10_readMoon_33 rfl rfl rfl ?_
  refine S_geti 11 qC_10 (by decide) (by decide) qk_212 tw_1237 dX10_readMoon_34 rfl ?_
  refine S_if_eq (tgt := 41) dX10_readMoon_37 (by decide) rfl (fun _ => ?_) (fun _ => ?_)
  · refine S_aload_n 1 dX10_readMoon_41 rfl rfl rfl ?_
    refine S_getr (j := 216) (o := 4) 4 qC_10 (by decide) (by decide) qk_212 rfl rfl (by decide) tw_1230 dX10_readMoon_42 rfl ?_
    refine S_iconst (a := 5) dX10_readMoon_45 rfl (by decide) ?_
    refine S_iload_n 2 dX10_readMoon_46 rfl rfl rfl ?_
    refine S_pick_t ((0 : Int) ≤ 5 ∧ (5 : Int) < 1912) (by decide) ?_
    refine S_iast (N := 1912) qk_216 rfl dX10_readMoon_47 rfl (fun _ _ => ?_)
    refine S_lh (fun h4 => ?_)
    refine S_aload_n 1 dX10_readMoon_48 rfl rfl rfl ?_
    refine S_getr (j := 216) (o := 4) 4 qC_10 (by decide) (by decide) qk_212 rfl rfl (by decide) tw_1230 dX10_readMoon_49 rfl ?_
    refine S_bipush (a := 6) dX10_readMoon_52 rfl (by decide) (by decide) ?_
    refine S_iload_n 0 dX10_readMoon_54 rfl rfl rfl ?_
    refine S_pick_t ((0 : Int) ≤ 6 ∧ (6 : Int) < 1912) (by decide) ?_
    refine S_iast (N := 1912) qk_216 rfl dX10_readMoon_55 rfl (fun _ _ => ?_)
    refine S_lh (fun h5 => ?_)
    exact S_vret dX10_readMoon_56
  · exact S_vret dX10_readMoon_40
def DX10_readMoon (h : qH) : Option (Int × qH) := (qbd (DX10_next h) fun r6 h7 => (qbd (DX10_takes 2 30 h7) fun r9 h10 => (qbd (DX10_eats 10 h10) fun r12 h13 => (if ¬ r12 = 0 then (DX10_readMoon_b26 r9 h13) else (qbd (DX10_fails 2 h13) fun r15 h16 => (DX10_readMoon_b26 r9 h16))))))
set_option maxRecDepth 100000 in
theorem TX10_readMoon {L : Nat} {xs : Nat → Int32} (h : qH) : qMet L xs yX10_readMoon cX10_readMoon 3 (none) 0 9 [qr 212] h (DX10_readMoon h) := by
  refine qMet.of (by decide +kernel) (Or.inl ⟨rfl, rfl⟩) (Nat.le_of_ble_eq_true rfl) ?_
  show qS L xs cX10_readMoon "BottlePostModel" 3 9 0 0 [(0, qr 212)] [] h (DX10_readMoon h)
  unfold DX10_readMoon
  refine S_aload_n 0 dX10_readMoon_0 rfl rfl rfl ?_
  refine S_callV_0 (as := []) (st := []) (fun _ => rfl) (TX10_next h) yv_X10_next tw_1355 qC_10 qk_212 (by decide) rfl rfl (Nat.le_of_ble_eq_true rfl) dX10_readMoon_1 rfl (fun r6 h7 e8 => ?_)
  refine S_aload_n 0 dX10_readMoon_4 rfl rfl rfl ?_
  refine S_iconst (a := 2) dX10_readMoon_5 rfl (by decide) ?_
  refine S_bipush (a := 30) dX10_readMoon_6 rfl (by decide) (by decide) ?_
  refine S_callV_i (as := [qi 2, qi 30]) (st := []) (fun _ => rfl) (TX10_takes 2 30 h7) yv_X10_takes tw_1389 qC_10 qk_212 (by decide) rfl rfl (Nat.le_of_ble_eq_true rfl) dX10_readMoon_8 rfl (fun r9 h10 e11 => ?_)
  refine S_istore_n (lv' := [(1, qi r9), (0, qr 212)]) dX10_readMoon_11 rfl (by decide) rfl rfl ?_
  refine S_aload_n 1 dX10_readMoon_12 rfl rfl rfl ?_
  refine S_bipush (a := 10) dX10_readMoon_13 rfl (by decide) (by decide) ?_
  refine S_callV_i (as := [qi 10]) (st := []) (fun _ => rfl) (TX10_eats 10 h10) yv_X10_eats tw_1377 qC_10 qk_212 (by decide) rfl rfl (Nat.le_of_ble_eq_true rfl) dX10_readMoon_15 rfl (fun r12 h13 e14 => ?_)
  refine S_if_ne (tgt := 26) dX10_readMoon_18 (by decide) rfl (fun _ => ?_) (fun _ => ?_)
  · refine S_sub [1, 0] rfl ?_
    exact TX10_readMoon_b26 r9 h13
  · refine S_aload_n 1 dX10_readMoon_21 rfl rfl rfl ?_
    refine S_iconst (a := 2) dX10_readMoon_22 rfl (by decide) ?_
    refine S_callV_0 (as := [qi 2]) (st := []) (fun _ => rfl) (TX10_fails 2 h13) yv_X10_fails tw_1385 qC_10 qk_212 (by decide) rfl rfl (Nat.le_of_ble_eq_true rfl) dX10_readMoon_23 rfl (fun r15 h16 e17 => ?_)
    refine S_sub [1, 0] rfl ?_
    exact TX10_readMoon_b26 r9 h16
def DX10_readShore_b176 (a1 : Int) (a2 : Int) (a3 : Int) (a4 : Int) (h : qH) : Option (Int × qH) := (if h.1 212 11 = 0 then (if 0 ≤ qw (14 + a2) ∧ qw (14 + a2) < 1912 then qlt (qu h 216 (qw (14 + a2)).toNat (qw (10 + a1))) fun h1 => (if 0 ≤ qw (266 + a1) ∧ qw (266 + a1) < 1912 then qlt (qu h1 216 (qw (266 + a1)).toNat a2) fun h2 => (if 0 ≤ qw (272 + a1) ∧ qw (272 + a1) < 1912 then qlt (qu h2 216 (qw (272 + a1)).toNat a3) fun h3 => (if 0 ≤ qw (278 + a1) ∧ qw (278 + a1) < 1912 then qlt (qu h3 216 (qw (278 + a1)).toNat a4) fun h4 => (qlt (qu h4 216 4 (qw (h4.1 216 4 + 1))) fun h7 => some (0, h7)) else none) else none) else none) else none) else some (0, h))
set_option maxRecDepth 100000 in
theorem TX10_readShore_b176 {L : Nat} {xs : Nat → Int32} (a1 : Int) (a2 : Int) (a3 : Int) (a4 : Int) (h : qH) : qS L xs cX10_readShore "BottlePostModel" 7 10 0 176 [(0, qr 212), (1, qi a1), (2, qi a2), (3, qi a3), (4, qi a4)] [] h (DX10_readShore_b176 a1 a2 a3 a4 h) := by
  unfold DX10_readShore_b176
  refine S_aload_n 0 dX10_readShore_176 rfl rfl rfl ?_
  refine S_geti 11 qC_10 (by decide) (by decide) qk_212 tw_1237 dX10_readShore_177 rfl ?_
  refine S_if_eq (tgt := 184) dX10_readShore_180 (by decide) rfl (fun _ => ?_) (fun _ => ?_)
  · refine S_aload_n 0 dX10_readShore_184 rfl rfl rfl ?_
    refine S_getr (j := 216) (o := 4) 4 qC_10 (by decide) (by decide) qk_212 rfl rfl (by decide) tw_1230 dX10_readShore_185 rfl ?_
    refine S_bipush (a := 14) dX10_readShore_188 rfl (by decide) (by decide) ?_
    refine S_iload_n 2 dX10_readShore_190 rfl rfl rfl ?_
    refine S_iadd dX10_readShore_191 rfl ?_
    refine S_bipush (a := 10) dX10_readShore_192 rfl (by decide) (by decide) ?_
    refine S_iload_n 1 dX10_readShore_194 rfl rfl rfl ?_
    refine S_iadd dX10_readShore_195 rfl ?_
    refine S_iast (N := 1912) qk_216 rfl dX10_readShore_196 rfl (fun _ _ => ?_)
    refine S_lh (fun h1 => ?_)
    refine S_aload_n 0 dX10_readShore_197 rfl rfl rfl ?_
    refine S_getr (j := 216) (o := 4) 4 qC_10 (by decide) (by decide) qk_212 rfl rfl (by decide) tw_1230 dX10_readShore_198 rfl ?_
    refine S_sipush (a := 266) dX10_readShore_201 rfl (by decide) (by decide) ?_
    refine S_iload_n 1 dX10_readShore_204 rfl rfl rfl ?_
    refine S_iadd dX10_readShore_205 rfl ?_
    refine S_iload_n 2 dX10_readShore_206 rfl rfl rfl ?_
    refine S_iast (N := 1912) qk_216 rfl dX10_readShore_207 rfl (fun _ _ => ?_)
    refine S_lh (fun h2 => ?_)
    refine S_aload_n 0 dX10_readShore_208 rfl rfl rfl ?_
    refine S_getr (j := 216) (o := 4) 4 qC_10 (by decide) (by decide) qk_212 rfl rfl (by decide) tw_1230 dX10_readShore_209 rfl ?_
    refine S_sipush (a := 272) dX10_readShore_212 rfl (by decide) (by decide) ?_
    refine S_iload_n 1 dX10_readShore_215 rfl rfl rfl ?_
    refine S_iadd dX10_readShore_216 rfl ?_
    refine S_iload_n 3 dX10_readShore_217 rfl rfl rfl ?_
    refine S_iast (N := 1912) qk_216 rfl dX10_readShore_218 rfl (fun _ _ => ?_)
    refine S_lh (fun h3 => ?_)
    refine S_aload_n 0 dX10_readShore_219 rfl rfl rfl ?_
    refine S_getr (j := 216) (o := 4) 4 qC_10 (by decide) (by decide) qk_212 rfl rfl (by decide) tw_1230 dX10_readShore_220 rfl ?_
    refine S_sipush (a := 278) dX10_readShore_223 rfl (by decide) (by decide) ?_
    refine S_iload_n 1 dX10_readShore_226 rfl rfl rfl ?_
    refine S_iadd dX10_readShore_227 rfl ?_
    refine S_iload 4 dX10_readShore_228 rfl rfl ?_
    refine S_iast (N := 1912) qk_216 rfl dX10_readShore_230 rfl (fun _ _ => ?_)
    refine S_lh (fun h4 => ?_)
    refine S_aload_n 0 dX10_readShore_231 rfl rfl rfl ?_
    refine S_getr (j := 216) (o := 4) 4 qC_10 (by decide) (by decide) qk_212 rfl rfl (by decide) tw_1230 dX10_readShore_232 rfl ?_
    refine S_iconst (a := 4) dX10_readShore_235 rfl (by decide) ?_
    refine S_dup2 dX10_readShore_236 rfl rfl rfl ?_
    refine S_pick_t ((0 : Int) ≤ 4 ∧ (4 : Int) < 1912) (by decide) ?_
    refine S_iald (N := 1912) qk_216 rfl dX10_readShore_237 rfl (fun g5 g6 => ?_)
    refine S_iconst (a := 1) dX10_readShore_238 rfl (by decide) ?_
    refine S_iadd dX10_readShore_239 rfl ?_
    refine S_pick_t ((0 : Int) ≤ 4 ∧ (4 : Int) < 1912) (by decide) ?_
    refine S_iast (N := 1912) qk_216 rfl dX10_readShore_240 rfl (fun _ _ => ?_)
    refine S_lh (fun h7 => ?_)
    exact S_vret dX10_readShore_241
  · exact S_vret dX10_readShore_183
def DX10_readShore_b139 (k118 : Int → Int → Int → Int → Int → qH → Option (Int × qH)) (a1 : Int) (a2 : Int) (a3 : Int) (a4 : Int) (h : qH) : Option (Int × qH) := (qbd (DX10_takes 0 (qw (h.1 216 3 - 1)) h) fun r10 h11 => (if ¬ h11.1 212 11 = 0 then (k118 a1 a2 a3 a4 1 h11) else (qlt (qor a4 (qshl 1 r10)) fun v13 => (k118 a1 a2 a3 v13 1 h11))))
set_option maxRecDepth 100000 in
theorem TX10_readShore_b139 {L : Nat} {xs : Nat → Int32} (k118 : Int → Int → Int → Int → Int → qH → Option (Int × qH)) (hk118 : ∀ (a1 : Int) (a2 : Int) (a3 : Int) (a4 : Int) (a5 : Int) (h : qH), qS L xs cX10_readShore "BottlePostModel" 7 10 0 118 [(0, qr 212), (1, qi a1), (2, qi a2), (3, qi a3), (4, qi a4), (5, qi a5)] [] h (k118 a1 a2 a3 a4 a5 h)) (a1 : Int) (a2 : Int) (a3 : Int) (a4 : Int) (h : qH) : qS L xs cX10_readShore "BottlePostModel" 7 10 0 139 [(0, qr 212), (1, qi a1), (2, qi a2), (3, qi a3), (4, qi a4)] [] h (DX10_readShore_b139 k118 a1 a2 a3 a4 h) := by
  unfold DX10_readShore_b139
  refine S_aload_n 0 dX10_readShore_139 rfl rfl rfl ?_
  refine S_iconst (a := 0) dX10_readShore_140 rfl (by decide) ?_
  refine S_aload_n 0 dX10_readShore_141 rfl rfl rfl ?_
  refine S_getr (j := 216) (o := 4) 4 qC_10 (by decide) (by decide) qk_212 rfl rfl (by decide) tw_1230 dX10_readShore_142 rfl ?_
  refine S_iconst (a := 3) dX10_readShore_145 rfl (by decide) ?_
  refine S_pick_t ((0 : Int) ≤ 3 ∧ (3 : Int) < 1912) (by decide) ?_
  refine S_iald (N := 1912) qk_216 rfl dX10_readShore_146 rfl (fun g8 g9 => ?_)
  refine S_iconst (a := 1) dX10_readShore_147 rfl (by decide) ?_
  refine S_isub dX10_readShore_148 rfl ?_
  refine S_callV_i (as := [qi 0, qi (qw (h.1 216 3 - 1))]) (st := []) (fun _ => rfl) (TX10_takes 0 (qw (h.1 216 3 - 1)) h) yv_X10_takes tw_1389 qC_10 qk_212 (by decide) rfl rfl (Nat.le_of_ble_eq_true rfl) dX10_readShore_149 rfl (fun r10 h11 e12 => ?_)
  refine S_istore (lv' := [(6, qi r10), (0, qr 212), (1, qi a1), (2, qi a2), (3, qi a3), (4, qi a4)]) dX10_readShore_152 (by decide) rfl rfl ?_
  refine S_aload_n 1 dX10_readShore_154 rfl rfl rfl ?_
  refine S_geti 11 qC_10 (by decide) (by decide) qk_212 tw_1237 dX10_readShore_155 rfl ?_
  refine S_if_ne (tgt := 170) dX10_readShore_158 (by decide) rfl (fun _ => ?_) (fun _ => ?_)
  · refine S_iconst (a := 1) dX10_readShore_170 rfl (by decide) ?_
    refine S_istore (lv' := [(5, qi 1), (6, qi r10), (0, qr 212), (1, qi a1), (2, qi a2), (3, qi a3), (4, qi a4)]) dX10_readShore_171 (by decide) rfl rfl ?_
    refine S_goto (pc' := 118) dX10_readShore_173 (by decide) ?_
    refine S_sub [2, 3, 4, 5, 6, 0] rfl ?_
    exact hk118 a1 a2 a3 a4 1 h11
  · refine S_iload 5 dX10_readShore_161 rfl rfl ?_
    refine S_iconst (a := 1) dX10_readShore_163 rfl (by decide) ?_
    refine S_iload 0 dX10_readShore_164 rfl rfl ?_
    refine S_ishl dX10_readShore_166 rfl ?_
    refine S_ior dX10_readShore_167 rfl ?_
    refine S_istore (lv' := [(4, qi (qor a4 (qshl 1 r10))), (6, qi r10), (0, qr 212), (1, qi a1), (2, qi a2), (3, qi a3)]) dX10_readShore_168 (by decide) rfl rfl ?_
    refine S_li (fun v13 => ?_)
    refine S_iconst (a := 1) dX10_readShore_170 rfl (by decide) ?_
    refine S_istore (lv' := [(5, qi 1), (4, qi v13), (6, qi r10), (0, qr 212), (1, qi a1), (2, qi a2), (3, qi a3)]) dX10_readShore_171 (by decide) rfl rfl ?_
    refine S_goto (pc' := 118) dX10_readShore_173 (by decide) ?_
    refine S_sub [3, 4, 5, 6, 1, 0] rfl ?_
    exact hk118 a1 a2 a3 v13 1 h11
def DX10_readShore_l118 : Nat → Int → Int → Int → Int → Int → qH → Option (Int × qH)
  | 0, _, _, _, _, _, _ => none
  | n + 1, a1, a2, a3, a4, a5, h => (if ¬ h.1 212 11 = 0 then (DX10_readShore_b176 a1 a2 a3 a4 h) else (if a5 = 0 then (DX10_readShore_b139 (DX10_readShore_l118 n) a1 a2 a3 a4 h) else (qbd (DX10_is 31 h) fun r14 h15 => (if r14 = 0 then (DX10_readShore_b176 a1 a2 a3 a4 h15) else (DX10_readShore_b139 (DX10_readShore_l118 n) a1 a2 a3 a4 h15)))))
set_option maxRecDepth 100000 in
theorem TX10_readShore_l118 {L : Nat} {xs : Nat → Int32} : ∀ (n : Nat) (a1 : Int) (a2 : Int) (a3 : Int) (a4 : Int) (a5 : Int) (h : qH), qS L xs cX10_readShore "BottlePostModel" 7 10 0 118 [(0, qr 212), (1, qi a1), (2, qi a2), (3, qi a3), (4, qi a4), (5, qi a5)] [] h (DX10_readShore_l118 n a1 a2 a3 a4 a5 h) := by
  intro n
  induction n with
  | zero =>
    intro a1 a2 a3 a4 a5 h
    exact S_none
  | succ n ih =>
    intro a1 a2 a3 a4 a5 h
    rw [DX10_readShore_l118.eq_2]
    refine S_aload_n 0 dX10_readShore_118 rfl rfl rfl ?_
    refine S_geti 11 qC_10 (by decide) (by decide) qk_212 tw_1237 dX10_readShore_119 rfl ?_
    refine S_if_ne (tgt := 176) dX10_readShore_122 (by decide) rfl (fun _ => ?_) (fun _ => ?_)
    · refine S_sub [0, 1, 2, 3, 4] rfl ?_
      exact TX10_readShore_b176 a1 a2 a3 a4 h
    · refine S_iload 5 dX10_readShore_125 rfl rfl ?_
      refine S_if_eq (tgt := 139) dX10_readShore_127 (by decide) rfl (fun _ => ?_) (fun _ => ?_)
      · refine S_sub [0, 1, 2, 3, 4] rfl ?_
        exact TX10_readShore_b139 (DX10_readShore_l118 n) ih a1 a2 a3 a4 h
      · refine S_aload_n 0 dX10_readShore_130 rfl rfl rfl ?_
        refine S_bipush (a := 31) dX10_readShore_131 rfl (by decide) (by decide) ?_
        refine S_callV_i (as := [qi 31]) (st := []) (fun _ => rfl) (TX10_is 31 h) yv_X10_is tw_1381 qC_10 qk_212 (by decide) rfl rfl (Nat.le_of_ble_eq_true rfl) dX10_readShore_133 rfl (fun r14 h15 e16 => ?_)
        refine S_if_eq (tgt := 176) dX10_readShore_136 (by decide) rfl (fun _ => ?_) (fun _ => ?_)
        · refine S_sub [0, 1, 2, 3, 4] rfl ?_
          exact TX10_readShore_b176 a1 a2 a3 a4 h15
        · refine S_sub [0, 1, 2, 3, 4] rfl ?_
          exact TX10_readShore_b139 (DX10_readShore_l118 n) ih a1 a2 a3 a4 h15
def DX10_readShore_b99 (a1 : Int) (a2 : Int) (a3 : Int) (h : qH) : Option (Int × qH) := (qbd (DX10_eats 5 h) fun r17 h18 => (if ¬ r17 = 0 then (DX10_readShore_l118 LF a1 a2 a3 0 0 h18) else (qbd (DX10_fails 2 h18) fun r20 h21 => (DX10_readShore_l118 LF a1 a2 a3 0 0 h21))))
set_option maxRecDepth 100000 in
theorem TX10_readShore_b99 {L : Nat} {xs : Nat → Int32} (a1 : Int) (a2 : Int) (a3 : Int) (h : qH) : qS L xs cX10_readShore "BottlePostModel" 7 10 0 99 [(0, qr 212), (1, qi a1), (2, qi a2), (3, qi a3)] [] h (DX10_readShore_b99 a1 a2 a3 h) := by
  unfold DX10_readShore_b99
  refine S_aload_n 0 dX10_readShore_99 rfl rfl rfl ?_
  refine S_iconst (a := 5) dX10_readShore_100 rfl (by decide) ?_
  refine S_callV_i (as := [qi 5]) (st := []) (fun _ => rfl) (TX10_eats 5 h) yv_X10_eats tw_1377 qC_10 qk_212 (by decide) rfl rfl (Nat.le_of_ble_eq_true rfl) dX10_readShore_101 rfl (fun r17 h18 e19 => ?_)
  refine S_if_ne (tgt := 112) dX10_readShore_104 (by decide) rfl (fun _ => ?_) (fun _ => ?_)
  · refine S_iconst (a := 0) dX10_readShore_112 rfl (by decide) ?_
    refine S_istore (lv' := [(4, qi 0), (0, qr 212), (1, qi a1), (2, qi a2), (3, qi a3)]) dX10_readShore_113 (by decide) rfl rfl ?_
    refine S_iconst (a := 0) dX10_readShore_115 rfl (by decide) ?_
    refine S_istore (lv' := [(5, qi 0), (4, qi 0), (0, qr 212), (1, qi a1), (2, qi a2), (3, qi a3)]) dX10_readShore_116 (by decide) rfl rfl ?_
    refine S_sub [2, 3, 4, 5, 1, 0] rfl ?_
    exact TX10_readShore_l118 LF a1 a2 a3 0 0 h18
  · refine S_aload_n 0 dX10_readShore_107 rfl rfl rfl ?_
    refine S_iconst (a := 2) dX10_readShore_108 rfl (by decide) ?_
    refine S_callV_0 (as := [qi 2]) (st := []) (fun _ => rfl) (TX10_fails 2 h18) yv_X10_fails tw_1385 qC_10 qk_212 (by decide) rfl rfl (Nat.le_of_ble_eq_true rfl) dX10_readShore_109 rfl (fun r20 h21 e22 => ?_)
    refine S_iconst (a := 0) dX10_readShore_112 rfl (by decide) ?_
    refine S_istore (lv' := [(4, qi 0), (0, qr 212), (1, qi a1), (2, qi a2), (3, qi a3)]) dX10_readShore_113 (by decide) rfl rfl ?_
    refine S_iconst (a := 0) dX10_readShore_115 rfl (by decide) ?_
    refine S_istore (lv' := [(5, qi 0), (4, qi 0), (0, qr 212), (1, qi a1), (2, qi a2), (3, qi a3)]) dX10_readShore_116 (by decide) rfl rfl ?_
    refine S_sub [2, 3, 4, 5, 1, 0] rfl ?_
    exact TX10_readShore_l118 LF a1 a2 a3 0 0 h21
def DX10_readShore_b78 (a1 : Int) (a2 : Int) (h : qH) : Option (Int × qH) := (qlt (qw (qw (h.1 212 9 - 12) + 1)) fun v23 => (if ¬ h.1 212 11 = 0 then (DX10_readShore_b99 a1 a2 v23 h) else (qbd (DX10_next h) fun r24 h25 => (DX10_readShore_b99 a1 a2 v23 h25))))
set_option maxRecDepth 100000 in
theorem TX10_readShore_b78 {L : Nat} {xs : Nat → Int32} (a1 : Int) (a2 : Int) (h : qH) : qS L xs cX10_readShore "BottlePostModel" 7 10 0 78 [(0, qr 212), (1, qi a1), (2, qi a2)] [] h (DX10_readShore_b78 a1 a2 h) := by
  unfold DX10_readShore_b78
  refine S_aload_n 0 dX10_readShore_78 rfl rfl rfl ?_
  refine S_geti 9 qC_10 (by decide) (by decide) qk_212 tw_1235 dX10_readShore_79 rfl ?_
  refine S_bipush (a := 12) dX10_readShore_82 rfl (by decide) (by decide) ?_
  refine S_isub dX10_readShore_84 rfl ?_
  refine S_iconst (a := 1) dX10_readShore_85 rfl (by decide) ?_
  refine S_iadd dX10_readShore_86 rfl ?_
  refine S_istore_n (lv' := [(3, qi (qw (qw (h.1 212 9 - 12) + 1))), (0, qr 212), (1, qi a1), (2, qi a2)]) dX10_readShore_87 rfl (by decide) rfl rfl ?_
  refine S_li (fun v23 => ?_)
  refine S_aload_n 1 dX10_readShore_88 rfl rfl rfl ?_
  refine S_geti 11 qC_10 (by decide) (by decide) qk_212 tw_1237 dX10_readShore_89 rfl ?_
  refine S_if_ne (tgt := 99) dX10_readShore_92 (by decide) rfl (fun _ => ?_) (fun _ => ?_)
  · refine S_sub [1, 2, 3, 0] rfl ?_
    exact TX10_readShore_b99 a1 a2 v23 h
  · refine S_aload_n 1 dX10_readShore_95 rfl rfl rfl ?_
    refine S_callV_0 (as := []) (st := []) (fun _ => rfl) (TX10_next h) yv_X10_next tw_1355 qC_10 qk_212 (by decide) rfl rfl (Nat.le_of_ble_eq_true rfl) dX10_readShore_96 rfl (fun r24 h25 e26 => ?_)
    refine S_sub [1, 2, 3, 0] rfl ?_
    exact TX10_readShore_b99 a1 a2 v23 h25
def DX10_readShore_b49 (a1 : Int) (a2 : Int) (h : qH) : Option (Int × qH) := (if ¬ h.1 212 11 = 0 then (DX10_readShore_b78 a1 a2 h) else (qbd (DX10_within (h.1 212 9) 12 15 h) fun r27 h28 => (if ¬ r27 = 0 then (DX10_readShore_b78 a1 a2 h28) else (qbd (DX10_fails 2 h28) fun r30 h31 => (DX10_readShore_b78 a1 a2 h31)))))
set_option maxRecDepth 100000 in
theorem TX10_readShore_b49 {L : Nat} {xs : Nat → Int32} (a1 : Int) (a2 : Int) (h : qH) : qS L xs cX10_readShore "BottlePostModel" 7 10 0 49 [(0, qr 212), (1, qi a1), (2, qi a2)] [] h (DX10_readShore_b49 a1 a2 h) := by
  unfold DX10_readShore_b49
  refine S_aload_n 0 dX10_readShore_49 rfl rfl rfl ?_
  refine S_geti 11 qC_10 (by decide) (by decide) qk_212 tw_1237 dX10_readShore_50 rfl ?_
  refine S_if_ne (tgt := 78) dX10_readShore_53 (by decide) rfl (fun _ => ?_) (fun _ => ?_)
  · exact TX10_readShore_b78 a1 a2 h
  · refine S_aload_n 0 dX10_readShore_56 rfl rfl rfl ?_
    refine S_geti 9 qC_10 (by decide) (by decide) qk_212 tw_1235 dX10_readShore_57 rfl ?_
    refine S_i2l dX10_readShore_60 rfl ?_
    refine S_ldc2 (a := 12) dX10_readShore_61 rfl (by rw [show Int64.ofInt 12 = (12 : Int64) from by decide]; exact tw_1409) (by decide) ?_
    refine S_ldc2 (a := 15) dX10_readShore_64 rfl (by rw [show Int64.ofInt 15 = (15 : Int64) from by decide]; exact tw_1410) (by decide) ?_
    refine S_callS_i (as := [ql (h.1 212 9), ql 12, ql 15]) (st := []) (fun _ => rfl) (TX10_within (h.1 212 9) 12 15 h) yv_X10_within tw_1352 (by decide) rfl rfl (Nat.le_of_ble_eq_true rfl) dX10_readShore_67 rfl (fun r27 h28 e29 => ?_)
    refine S_if_ne (tgt := 78) dX10_readShore_70 (by decide) rfl (fun _ => ?_) (fun _ => ?_)
    · exact TX10_readShore_b78 a1 a2 h28
    · refine S_aload_n 0 dX10_readShore_73 rfl rfl rfl ?_
      refine S_iconst (a := 2) dX10_readShore_74 rfl (by decide) ?_
      refine S_callV_0 (as := [qi 2]) (st := []) (fun _ => rfl) (TX10_fails 2 h28) yv_X10_fails tw_1385 qC_10 qk_212 (by decide) rfl rfl (Nat.le_of_ble_eq_true rfl) dX10_readShore_75 rfl (fun r30 h31 e32 => ?_)
      exact TX10_readShore_b78 a1 a2 h31
def DX10_readShore_b18 (a1 : Int) (h : qH) : Option (Int × qH) := (if h.1 212 11 = 0 then (qbd (DX10_next h) fun r33 h34 => (qbd (DX10_takesCell 1 h34) fun r36 h37 => (qbd (DX10_eats 4 h37) fun r39 h40 => (if ¬ r39 = 0 then (DX10_readShore_b49 a1 r36 h40) else (qbd (DX10_fails 2 h40) fun r42 h43 => (DX10_readShore_b49 a1 r36 h43)))))) else some (0, h))
set_option maxRecDepth 100000 in
theorem TX10_readShore_b18 {L : Nat} {xs : Nat → Int32} (a1 : Int) (h : qH) : qS L xs cX10_readShore "BottlePostModel" 7 10 0 18 [(0, qr 212), (1, qi a1)] [] h (DX10_readShore_b18 a1 h) := by
  unfold DX10_readShore_b18
  refine S_aload_n 0 dX10_readShore_18 rfl rfl rfl ?_
  refine S_geti 11 qC_10 (by decide) (by decide) qk_212 tw_1237 dX10_readShore_19 rfl ?_
  refine S_if_eq (tgt := 26) dX10_readShore_22 (by decide) rfl (fun _ => ?_) (fun _ => ?_)
  · refine S_aload_n 0 dX10_readShore_26 rfl rfl rfl ?_
    refine S_callV_0 (as := []) (st := []) (fun _ => rfl) (TX10_next h) yv_X10_next tw_1355 qC_10 qk_212 (by decide) rfl rfl (Nat.le_of_ble_eq_true rfl) dX10_readShore_27 rfl (fun r33 h34 e35 => ?_)
    refine S_aload_n 0 dX10_readShore_30 rfl rfl rfl ?_
    refine S_iconst (a := 1) dX10_readShore_31 rfl (by decide) ?_
    refine S_callV_i (as := [qi 1]) (st := []) (fun _ => rfl) (TX10_takesCell 1 h34) yv_X10_takesCell tw_1401 qC_10 qk_212 (by decide) rfl rfl (Nat.le_of_ble_eq_true rfl) dX10_readShore_32 rfl (fun r36 h37 e38 => ?_)
    refine S_istore_n (lv' := [(2, qi r36), (0, qr 212), (1, qi a1)]) dX10_readShore_35 rfl (by decide) rfl rfl ?_
    refine S_aload_n 1 dX10_readShore_36 rfl rfl rfl ?_
    refine S_iconst (a := 4) dX10_readShore_37 rfl (by decide) ?_
    refine S_callV_i (as := [qi 4]) (st := []) (fun _ => rfl) (TX10_eats 4 h37) yv_X10_eats tw_1377 qC_10 qk_212 (by decide) rfl rfl (Nat.le_of_ble_eq_true rfl) dX10_readShore_38 rfl (fun r39 h40 e41 => ?_)
    refine S_if_ne (tgt := 49) dX10_readShore_41 (by decide) rfl (fun _ => ?_) (fun _ => ?_)
    · refine S_sub [1, 2, 0] rfl ?_
      exact TX10_readShore_b49 a1 r36 h40
    · refine S_aload_n 1 dX10_readShore_44 rfl rfl rfl ?_
      refine S_iconst (a := 2) dX10_readShore_45 rfl (by decide) ?_
      refine S_callV_0 (as := [qi 2]) (st := []) (fun _ => rfl) (TX10_fails 2 h40) yv_X10_fails tw_1385 qC_10 qk_212 (by decide) rfl rfl (Nat.le_of_ble_eq_true rfl) dX10_readShore_46 rfl (fun r42 h43 e44 => ?_)
      refine S_sub [1, 2, 0] rfl ?_
      exact TX10_readShore_b49 a1 r36 h43
  · exact S_vret dX10_readShore_25
def DX10_readShore (h : qH) : Option (Int × qH) := (qlt (h.1 216 4) fun v47 => (if ¬ v47 = 6 then (DX10_readShore_b18 v47 h) else (qbd (DX10_fails 4 h) fun r48 h49 => (DX10_readShore_b18 v47 h49))))
set_option maxRecDepth 100000 in
theorem TX10_readShore {L : Nat} {xs : Nat → Int32} (h : qH) : qMet L xs yX10_readShore cX10_readShore 7 (none) 0 10 [qr 212] h (DX10_readShore h) := by
  refine qMet.of (by decide +kernel) (Or.inl ⟨rfl, rfl⟩) (Nat.le_of_ble_eq_true rfl) ?_
  show qS L xs cX10_readShore "BottlePostModel" 7 10 0 0 [(0, qr 212)] [] h (DX10_readShore h)
  unfold DX10_readShore
  refine S_aload_n 0 dX10_readShore_0 rfl rfl rfl ?_
  refine S_getr (j := 216) (o := 4) 4 qC_10 (by decide) (by decide) qk_212 rfl rfl (by decide) tw_1230 dX10_readShore_1 rfl ?_
  refine S_iconst (a := 4) dX10_readShore_4 rfl (by decide) ?_
  refine S_pick_t ((0 : Int) ≤ 4 ∧ (4 : Int) < 1912) (by decide) ?_
  refine S_iald (N := 1912) qk_216 rfl dX10_readShore_5 rfl (fun g45 g46 => ?_)
  refine S_istore_n (lv' := [(1, qi (h.1 216 4)), (0, qr 212)]) dX10_readShore_6 rfl (by decide) rfl rfl ?_
  refine S_li (fun v47 => ?_)
  refine S_iload_n 0 dX10_readShore_7 rfl rfl rfl ?_
  refine S_bipush (a := 6) dX10_readShore_8 rfl (by decide) (by decide) ?_
  refine S_icmp_ne (tgt := 18) dX10_readShore_10 (by decide) rfl (fun _ => ?_) (fun _ => ?_)
  · refine S_sub [1, 0] rfl ?_
    exact TX10_readShore_b18 v47 h
  · refine S_aload_n 1 dX10_readShore_13 rfl rfl rfl ?_
    refine S_iconst (a := 4) dX10_readShore_14 rfl (by decide) ?_
    refine S_callV_0 (as := [qi 4]) (st := []) (fun _ => rfl) (TX10_fails 4 h) yv_X10_fails tw_1385 qC_10 qk_212 (by decide) rfl rfl (Nat.le_of_ble_eq_true rfl) dX10_readShore_15 rfl (fun r48 h49 e50 => ?_)
    refine S_sub [1, 0] rfl ?_
    exact TX10_readShore_b18 v47 h49
def DX10_readLine_b83 (h : qH) : Option (Int × qH) := (qbd (DX10_readLaw (qw (h.1 212 9 - 7)) h) fun r1 h2 => some (0, h2))
set_option maxRecDepth 100000 in
theorem TX10_readLine_b83 {L : Nat} {xs : Nat → Int32} (h : qH) : qS L xs cX10_readLine "BottlePostModel" 2 111 0 83 [(0, qr 212)] [] h (DX10_readLine_b83 h) := by
  unfold DX10_readLine_b83
  refine S_aload_n 0 dX10_readLine_83 rfl rfl rfl ?_
  refine S_aload_n 0 dX10_readLine_84 rfl rfl rfl ?_
  refine S_geti 9 qC_10 (by decide) (by decide) qk_212 tw_1235 dX10_readLine_85 rfl ?_
  refine S_bipush (a := 7) dX10_readLine_88 rfl (by decide) (by decide) ?_
  refine S_isub dX10_readLine_90 rfl ?_
  refine S_callV_0 (as := [qi (qw (h.1 212 9 - 7))]) (st := []) (fun _ => rfl) (TX10_readLaw (qw (h.1 212 9 - 7)) h) yv_X10_readLaw tw_1415 qC_10 qk_212 (by decide) rfl rfl (Nat.le_of_ble_eq_true rfl) dX10_readLine_91 rfl (fun r1 h2 e3 => ?_)
  refine S_goto (pc' := 153) dX10_readLine_94 (by decide) ?_
  exact S_vret dX10_readLine_153
def DX10_readLine (h : qH) : Option (Int × qH) := (qbd (DX10_eats 2 h) fun r4 h5 => (if r4 = 0 then (qbd (DX10_is 3 h5) fun r7 h8 => (if r7 = 0 then (qbd (DX10_is 6 h8) fun r10 h11 => (if r10 = 0 then (qbd (DX10_is 7 h11) fun r13 h14 => (if ¬ r13 = 0 then (DX10_readLine_b83 h14) else (qbd (DX10_is 8 h14) fun r16 h17 => (if r16 = 0 then (qbd (DX10_is 9 h17) fun r19 h20 => (if r19 = 0 then (qbd (DX10_eats 11 h20) fun r22 h23 => (if r22 = 0 then (qbd (DX10_fails 2 h23) fun r25 h26 => some (0, h26)) else (qbd (DX10_takes 1 99 h23) fun r28 h29 => (if ¬ h29.1 212 11 = 0 then some (0, h29) else (qlt (qu h29 216 7 r28) fun h31 => some (0, h31)))))) else (qbd (DX10_readMoon h20) fun r32 h33 => some (0, h33)))) else (DX10_readLine_b83 h17))))) else (qbd (DX10_readCurrent h11) fun r35 h36 => some (0, h36)))) else (qbd (DX10_readShore h8) fun r38 h39 => some (0, h39)))) else (qbd (DX10_takesCell 1 h5) fun r41 h42 => (if ¬ h42.1 212 11 = 0 then some (0, h42) else (if 0 ≤ qw (14 + r41) ∧ qw (14 + r41) < 1912 then qlt (qu h42 216 (qw (14 + r41)).toNat 1) fun h44 => some (0, h44) else none)))))
set_option maxRecDepth 100000 in
theorem TX10_readLine {L : Nat} {xs : Nat → Int32} (h : qH) : qMet L xs yX10_readLine cX10_readLine 2 (none) 0 111 [qr 212] h (DX10_readLine h) := by
  refine qMet.of (by decide +kernel) (Or.inl ⟨rfl, rfl⟩) (Nat.le_of_ble_eq_true rfl) ?_
  show qS L xs cX10_readLine "BottlePostModel" 2 111 0 0 [(0, qr 212)] [] h (DX10_readLine h)
  unfold DX10_readLine
  refine S_aload_n 0 dX10_readLine_0 rfl rfl rfl ?_
  refine S_iconst (a := 2) dX10_readLine_1 rfl (by decide) ?_
  refine S_callV_i (as := [qi 2]) (st := []) (fun _ => rfl) (TX10_eats 2 h) yv_X10_eats tw_1377 qC_10 qk_212 (by decide) rfl rfl (Nat.le_of_ble_eq_true rfl) dX10_readLine_2 rfl (fun r4 h5 e6 => ?_)
  refine S_if_eq (tgt := 34) dX10_readLine_5 (by decide) rfl (fun _ => ?_) (fun _ => ?_)
  · refine S_aload_n 0 dX10_readLine_34 rfl rfl rfl ?_
    refine S_iconst (a := 3) dX10_readLine_35 rfl (by decide) ?_
    refine S_callV_i (as := [qi 3]) (st := []) (fun _ => rfl) (TX10_is 3 h5) yv_X10_is tw_1381 qC_10 qk_212 (by decide) rfl rfl (Nat.le_of_ble_eq_true rfl) dX10_readLine_36 rfl (fun r7 h8 e9 => ?_)
    refine S_if_eq (tgt := 49) dX10_readLine_39 (by decide) rfl (fun _ => ?_) (fun _ => ?_)
    · refine S_aload_n 0 dX10_readLine_49 rfl rfl rfl ?_
      refine S_bipush (a := 6) dX10_readLine_50 rfl (by decide) (by decide) ?_
      refine S_callV_i (as := [qi 6]) (st := []) (fun _ => rfl) (TX10_is 6 h8) yv_X10_is tw_1381 qC_10 qk_212 (by decide) rfl rfl (Nat.le_of_ble_eq_true rfl) dX10_readLine_52 rfl (fun r10 h11 e12 => ?_)
      refine S_if_eq (tgt := 65) dX10_readLine_55 (by decide) rfl (fun _ => ?_) (fun _ => ?_)
      · refine S_aload_n 0 dX10_readLine_65 rfl rfl rfl ?_
        refine S_bipush (a := 7) dX10_readLine_66 rfl (by decide) (by decide) ?_
        refine S_callV_i (as := [qi 7]) (st := []) (fun _ => rfl) (TX10_is 7 h11) yv_X10_is tw_1381 qC_10 qk_212 (by decide) rfl rfl (Nat.le_of_ble_eq_true rfl) dX10_readLine_68 rfl (fun r13 h14 e15 => ?_)
        refine S_if_ne (tgt := 83) dX10_readLine_71 (by decide) rfl (fun _ => ?_) (fun _ => ?_)
        · exact TX10_readLine_b83 h14
        · refine S_aload_n 0 dX10_readLine_74 rfl rfl rfl ?_
          refine S_bipush (a := 8) dX10_readLine_75 rfl (by decide) (by decide) ?_
          refine S_callV_i (as := [qi 8]) (st := []) (fun _ => rfl) (TX10_is 8 h14) yv_X10_is tw_1381 qC_10 qk_212 (by decide) rfl rfl (Nat.le_of_ble_eq_true rfl) dX10_readLine_77 rfl (fun r16 h17 e18 => ?_)
          refine S_if_eq (tgt := 97) dX10_readLine_80 (by decide) rfl (fun _ => ?_) (fun _ => ?_)
          · refine S_aload_n 0 dX10_readLine_97 rfl rfl rfl ?_
            refine S_bipush (a := 9) dX10_readLine_98 rfl (by decide) (by decide) ?_
            refine S_callV_i (as := [qi 9]) (st := []) (fun _ => rfl) (TX10_is 9 h17) yv_X10_is tw_1381 qC_10 qk_212 (by decide) rfl rfl (Nat.le_of_ble_eq_true rfl) dX10_readLine_100 rfl (fun r19 h20 e21 => ?_)
            refine S_if_eq (tgt := 113) dX10_readLine_103 (by decide) rfl (fun _ => ?_) (fun _ => ?_)
            · refine S_aload_n 0 dX10_readLine_113 rfl rfl rfl ?_
              refine S_bipush (a := 11) dX10_readLine_114 rfl (by decide) (by decide) ?_
              refine S_callV_i (as := [qi 11]) (st := []) (fun _ => rfl) (TX10_eats 11 h20) yv_X10_eats tw_1377 qC_10 qk_212 (by decide) rfl rfl (Nat.le_of_ble_eq_true rfl) dX10_readLine_116 rfl (fun r22 h23 e24 => ?_)
              refine S_if_eq (tgt := 148) dX10_readLine_119 (by decide) rfl (fun _ => ?_) (fun _ => ?_)
              · refine S_aload_n 0 dX10_readLine_148 rfl rfl rfl ?_
                refine S_iconst (a := 2) dX10_readLine_149 rfl (by decide) ?_
                refine S_callV_0 (as := [qi 2]) (st := []) (fun _ => rfl) (TX10_fails 2 h23) yv_X10_fails tw_1385 qC_10 qk_212 (by decide) rfl rfl (Nat.le_of_ble_eq_true rfl) dX10_readLine_150 rfl (fun r25 h26 e27 => ?_)
                exact S_vret dX10_readLine_153
              · refine S_aload_n 0 dX10_readLine_122 rfl rfl rfl ?_
                refine S_iconst (a := 1) dX10_readLine_123 rfl (by decide) ?_
                refine S_bipush (a := 99) dX10_readLine_124 rfl (by decide) (by decide) ?_
                refine S_callV_i (as := [qi 1, qi 99]) (st := []) (fun _ => rfl) (TX10_takes 1 99 h23) yv_X10_takes tw_1389 qC_10 qk_212 (by decide) rfl rfl (Nat.le_of_ble_eq_true rfl) dX10_readLine_126 rfl (fun r28 h29 e30 => ?_)
                refine S_istore_n (lv' := [(1, qi r28), (0, qr 212)]) dX10_readLine_129 rfl (by decide) rfl rfl ?_
                refine S_aload_n 1 dX10_readLine_130 rfl rfl rfl ?_
                refine S_geti 11 qC_10 (by decide) (by decide) qk_212 tw_1237 dX10_readLine_131 rfl ?_
                refine S_if_ne (tgt := 145) dX10_readLine_134 (by decide) rfl (fun _ => ?_) (fun _ => ?_)
                · refine S_goto (pc' := 153) dX10_readLine_145 (by decide) ?_
                  exact S_vret dX10_readLine_153
                · refine S_aload_n 1 dX10_readLine_137 rfl rfl rfl ?_
                  refine S_getr (j := 216) (o := 4) 4 qC_10 (by decide) (by decide) qk_212 rfl rfl (by decide) tw_1230 dX10_readLine_138 rfl ?_
                  refine S_bipush (a := 7) dX10_readLine_141 rfl (by decide) (by decide) ?_
                  refine S_iload_n 0 dX10_readLine_143 rfl rfl rfl ?_
                  refine S_pick_t ((0 : Int) ≤ 7 ∧ (7 : Int) < 1912) (by decide) ?_
                  refine S_iast (N := 1912) qk_216 rfl dX10_readLine_144 rfl (fun _ _ => ?_)
                  refine S_lh (fun h31 => ?_)
                  refine S_goto (pc' := 153) dX10_readLine_145 (by decide) ?_
                  exact S_vret dX10_readLine_153
            · refine S_aload_n 0 dX10_readLine_106 rfl rfl rfl ?_
              refine S_callV_0 (as := []) (st := []) (fun _ => rfl) (TX10_readMoon h20) yv_X10_readMoon tw_1457 qC_10 qk_212 (by decide) rfl rfl (Nat.le_of_ble_eq_true rfl) dX10_readLine_107 rfl (fun r32 h33 e34 => ?_)
              refine S_goto (pc' := 153) dX10_readLine_110 (by decide) ?_
              exact S_vret dX10_readLine_153
          · exact TX10_readLine_b83 h17
      · refine S_aload_n 0 dX10_readLine_58 rfl rfl rfl ?_
        refine S_callV_0 (as := []) (st := []) (fun _ => rfl) (TX10_readCurrent h11) yv_X10_readCurrent tw_1411 qC_10 qk_212 (by decide) rfl rfl (Nat.le_of_ble_eq_true rfl) dX10_readLine_59 rfl (fun r35 h36 e37 => ?_)
        refine S_goto (pc' := 153) dX10_readLine_62 (by decide) ?_
        exact S_vret dX10_readLine_153
    · refine S_aload_n 0 dX10_readLine_42 rfl rfl rfl ?_
      refine S_callV_0 (as := []) (st := []) (fun _ => rfl) (TX10_readShore h8) yv_X10_readShore tw_1405 qC_10 qk_212 (by decide) rfl rfl (Nat.le_of_ble_eq_true rfl) dX10_readLine_43 rfl (fun r38 h39 e40 => ?_)
      refine S_goto (pc' := 153) dX10_readLine_46 (by decide) ?_
      exact S_vret dX10_readLine_153
  · refine S_aload_n 0 dX10_readLine_8 rfl rfl rfl ?_
    refine S_iconst (a := 1) dX10_readLine_9 rfl (by decide) ?_
    refine S_callV_i (as := [qi 1]) (st := []) (fun _ => rfl) (TX10_takesCell 1 h5) yv_X10_takesCell tw_1401 qC_10 qk_212 (by decide) rfl rfl (Nat.le_of_ble_eq_true rfl) dX10_readLine_10 rfl (fun r41 h42 e43 => ?_)
    refine S_istore_n (lv' := [(1, qi r41), (0, qr 212)]) dX10_readLine_13 rfl (by decide) rfl rfl ?_
    refine S_aload_n 1 dX10_readLine_14 rfl rfl rfl ?_
    refine S_geti 11 qC_10 (by decide) (by decide) qk_212 tw_1237 dX10_readLine_15 rfl ?_
    refine S_if_ne (tgt := 31) dX10_readLine_18 (by decide) rfl (fun _ => ?_) (fun _ => ?_)
    · refine S_goto (pc' := 153) dX10_readLine_31 (by decide) ?_
      exact S_vret dX10_readLine_153
    · refine S_aload_n 1 dX10_readLine_21 rfl rfl rfl ?_
      refine S_getr (j := 216) (o := 4) 4 qC_10 (by decide) (by decide) qk_212 rfl rfl (by decide) tw_1230 dX10_readLine_22 rfl ?_
      refine S_bipush (a := 14) dX10_readLine_25 rfl (by decide) (by decide) ?_
      refine S_iload_n 0 dX10_readLine_27 rfl rfl rfl ?_
      refine S_iadd dX10_readLine_28 rfl ?_
      refine S_iconst (a := 1) dX10_readLine_29 rfl (by decide) ?_
      refine S_iast (N := 1912) qk_216 rfl dX10_readLine_30 rfl (fun _ _ => ?_)
      refine S_lh (fun h44 => ?_)
      refine S_goto (pc' := 153) dX10_readLine_31 (by decide) ?_
      exact S_vret dX10_readLine_153
def DX10_relay_b46 (a1 : Int) (a2 : Int) (a3 : Int) (h : qH) : Option (Int × qH) := (qlt (qu h 212 28 1000000) fun h1 => (qlt (qu h1 212 29 1000000) fun h2 => (qlt (qu h2 220 0 a1) fun h3 => (qbd (RX10_goesRelay a2 0 (qshl 1 a1) 0 h3) fun r4 h5 => (if ¬ h5.1 212 28 = 1000000 then (if ¬ a3 = 0 then (if ¬ a3 = 1 then (if h5.1 212 29 < qw (a3 - 10) then some ((-1), h5) else (if 0 ≤ qw (a3 - 10) ∧ qw (a3 - 10) < 6 then some (h5.1 221 (qw (a3 - 10)).toNat, h5) else none)) else some (h5.1 212 29, h5)) else some (h5.1 212 28, h5)) else some ((-1), h5))))))
set_option maxRecDepth 100000 in
theorem TX10_relay_b46 {L : Nat} {xs : Nat → Int32} (a1 : Int) (a2 : Int) (a3 : Int) (h : qH) : qS L xs cX10_relay "BottlePostModel" 4 111 1 46 [(0, qr 212), (1, qi a1), (2, qi a2), (3, qi a3)] [] h (DX10_relay_b46 a1 a2 a3 h) := by
  unfold DX10_relay_b46
  refine S_aload_n 0 dX10_relay_46 rfl rfl rfl ?_
  refine S_ldcw (a := 1000000) dX10_relay_47 rfl (by rw [show Int32.ofInt 1000000 = (1000000 : Int32) from by decide]; exact tw_1695) (by decide) ?_
  refine S_puti 28 qC_10 (by decide) (by decide) rfl rfl qk_212 (by decide) tw_1254 dX10_relay_50 rfl ?_
  refine S_lh (fun h1 => ?_)
  refine S_aload_n 0 dX10_relay_53 rfl rfl rfl ?_
  refine S_ldcw (a := 1000000) dX10_relay_54 rfl (by rw [show Int32.ofInt 1000000 = (1000000 : Int32) from by decide]; exact tw_1695) (by decide) ?_
  refine S_puti 29 qC_10 (by decide) (by decide) rfl rfl qk_212 (by decide) tw_1255 dX10_relay_57 rfl ?_
  refine S_lh (fun h2 => ?_)
  refine S_aload_n 0 dX10_relay_60 rfl rfl rfl ?_
  refine S_getr (j := 220) (o := 8) 26 qC_10 (by decide) (by decide) qk_212 rfl rfl (by decide) tw_1252 dX10_relay_61 rfl ?_
  refine S_iconst (a := 0) dX10_relay_64 rfl (by decide) ?_
  refine S_iload_n 1 dX10_relay_65 rfl rfl rfl ?_
  refine S_pick_t ((0 : Int) ≤ 0 ∧ (0 : Int) < 6) (by decide) ?_
  refine S_iast (N := 6) qk_220 rfl dX10_relay_66 rfl (fun _ _ => ?_)
  refine S_lh (fun h3 => ?_)
  refine S_aload_n 0 dX10_relay_67 rfl rfl rfl ?_
  refine S_iload_n 2 dX10_relay_68 rfl rfl rfl ?_
  refine S_iconst (a := 0) dX10_relay_69 rfl (by decide) ?_
  refine S_iconst (a := 1) dX10_relay_70 rfl (by decide) ?_
  refine S_iload_n 1 dX10_relay_71 rfl rfl rfl ?_
  refine S_ishl dX10_relay_72 rfl ?_
  refine S_iconst (a := 0) dX10_relay_73 rfl (by decide) ?_
  refine S_callV_0 (as := [qi a2, qi 0, qi (qshl 1 a1), qi 0]) (st := []) (fun _ => rfl) (TRX10_goesRelay a2 0 (qshl 1 a1) 0 h3) yv_X10_goesRelay tw_1742 qC_10 qk_212 (by decide) rfl rfl (Nat.le_of_ble_eq_true rfl) dX10_relay_74 rfl (fun r4 h5 e6 => ?_)
  refine S_aload_n 0 dX10_relay_77 rfl rfl rfl ?_
  refine S_geti 28 qC_10 (by decide) (by decide) qk_212 tw_1254 dX10_relay_78 rfl ?_
  refine S_ldcw (a := 1000000) dX10_relay_81 rfl (by rw [show Int32.ofInt 1000000 = (1000000 : Int32) from by decide]; exact tw_1695) (by decide) ?_
  refine S_icmp_ne (tgt := 89) dX10_relay_84 (by decide) rfl (fun _ => ?_) (fun _ => ?_)
  · refine S_iload_n 3 dX10_relay_89 rfl rfl rfl ?_
    refine S_if_ne (tgt := 100) dX10_relay_90 (by decide) rfl (fun _ => ?_) (fun _ => ?_)
    · refine S_iload_n 3 dX10_relay_100 rfl rfl rfl ?_
      refine S_iconst (a := 1) dX10_relay_101 rfl (by decide) ?_
      refine S_icmp_ne (tgt := 112) dX10_relay_102 (by decide) rfl (fun _ => ?_) (fun _ => ?_)
      · refine S_iload_n 3 dX10_relay_112 rfl rfl rfl ?_
        refine S_bipush (a := 10) dX10_relay_113 rfl (by decide) (by decide) ?_
        refine S_isub dX10_relay_115 rfl ?_
        refine S_aload_n 0 dX10_relay_116 rfl rfl rfl ?_
        refine S_geti 29 qC_10 (by decide) (by decide) qk_212 tw_1255 dX10_relay_117 rfl ?_
        refine S_icmp_gt (tgt := 135) dX10_relay_120 (by decide) rfl (fun _ => ?_) (fun _ => ?_)
        · refine S_iconst (a := (-1)) dX10_relay_135 rfl (by decide) ?_
          exact S_iret dX10_relay_136
        · refine S_aload_n 0 dX10_relay_123 rfl rfl rfl ?_
          refine S_getr (j := 221) (o := 9) 27 qC_10 (by decide) (by decide) qk_212 rfl rfl (by decide) tw_1253 dX10_relay_124 rfl ?_
          refine S_iload_n 3 dX10_relay_127 rfl rfl rfl ?_
          refine S_bipush (a := 10) dX10_relay_128 rfl (by decide) (by decide) ?_
          refine S_isub dX10_relay_130 rfl ?_
          refine S_iald (N := 6) qk_221 rfl dX10_relay_131 rfl (fun g7 g8 => ?_)
          refine S_goto (pc' := 136) dX10_relay_132 (by decide) ?_
          exact S_iret dX10_relay_136
      · refine S_aload_n 0 dX10_relay_105 rfl rfl rfl ?_
        refine S_geti 29 qC_10 (by decide) (by decide) qk_212 tw_1255 dX10_relay_106 rfl ?_
        refine S_goto (pc' := 136) dX10_relay_109 (by decide) ?_
        exact S_iret dX10_relay_136
    · refine S_aload_n 0 dX10_relay_93 rfl rfl rfl ?_
      refine S_geti 28 qC_10 (by decide) (by decide) qk_212 tw_1254 dX10_relay_94 rfl ?_
      refine S_goto (pc' := 136) dX10_relay_97 (by decide) ?_
      exact S_iret dX10_relay_136
  · refine S_iconst (a := (-1)) dX10_relay_87 rfl (by decide) ?_
    exact S_iret dX10_relay_88
def DX10_relay (a1 : Int) (a2 : Int) (a3 : Int) (h : qH) : Option (Int × qH) := (qlt (qu h 212 0 0) fun h9 => (qbd (DX10_noThrow a1 a2 h9) fun r10 h11 => (if ¬ r10 = 0 then some ((-2), h11) else (if a2 = (-1) then some ((-2), h11) else (qbd (DX10_within a3 0 1 h11) fun r13 h14 => (if ¬ r13 = 0 then (DX10_relay_b46 a1 a2 a3 h14) else (qbd (DX10_within a3 10 15 h14) fun r16 h17 => (if ¬ r16 = 0 then (DX10_relay_b46 a1 a2 a3 h17) else some ((-2), h17)))))))))
set_option maxRecDepth 100000 in
theorem TX10_relay {L : Nat} {xs : Nat → Int32} (a1 : Int) (a2 : Int) (a3 : Int) (h : qH) : qMet L xs yX10_relay cX10_relay 4 (some .int) 1 111 [qr 212, qi a1, qi a2, qi a3] h (DX10_relay a1 a2 a3 h) := by
  refine qMet.of (by decide +kernel) (Or.inr (Or.inl ⟨rfl, rfl⟩)) (Nat.le_of_ble_eq_true rfl) ?_
  show qS L xs cX10_relay "BottlePostModel" 4 111 1 0 [(0, qr 212), (1, qi a1), (2, qi a2), (3, qi a3)] [] h (DX10_relay a1 a2 a3 h)
  unfold DX10_relay
  refine S_aload_n 0 dX10_relay_0 rfl rfl rfl ?_
  refine S_iconst (a := 0) dX10_relay_1 rfl (by decide) ?_
  refine S_puti 0 qC_10 (by decide) (by decide) rfl rfl qk_212 (by decide) tw_1226 dX10_relay_2 rfl ?_
  refine S_lh (fun h9 => ?_)
  refine S_aload_n 0 dX10_relay_5 rfl rfl rfl ?_
  refine S_iload_n 1 dX10_relay_6 rfl rfl rfl ?_
  refine S_iload_n 2 dX10_relay_7 rfl rfl rfl ?_
  refine S_callV_i (as := [qi a1, qi a2]) (st := []) (fun _ => rfl) (TX10_noThrow a1 a2 h9) yv_X10_noThrow tw_1713 qC_10 qk_212 (by decide) rfl rfl (Nat.le_of_ble_eq_true rfl) dX10_relay_8 rfl (fun r10 h11 e12 => ?_)
  refine S_if_ne (tgt := 43) dX10_relay_11 (by decide) rfl (fun _ => ?_) (fun _ => ?_)
  · refine S_bipush (a := (-2)) dX10_relay_43 rfl (by decide) (by decide) ?_
    exact S_iret dX10_relay_45
  · refine S_iload_n 2 dX10_relay_14 rfl rfl rfl ?_
    refine S_iconst (a := (-1)) dX10_relay_15 rfl (by decide) ?_
    refine S_icmp_eq (tgt := 43) dX10_relay_16 (by decide) rfl (fun _ => ?_) (fun _ => ?_)
    · refine S_bipush (a := (-2)) dX10_relay_43 rfl (by decide) (by decide) ?_
      exact S_iret dX10_relay_45
    · refine S_iload_n 3 dX10_relay_19 rfl rfl rfl ?_
      refine S_i2l dX10_relay_20 rfl ?_
      refine S_lconst (a := 0) dX10_relay_21 rfl (by decide) (by decide) ?_
      refine S_lconst (a := 1) dX10_relay_22 rfl (by decide) (by decide) ?_
      refine S_callS_i (as := [ql a3, ql 0, ql 1]) (st := []) (fun _ => rfl) (TX10_within a3 0 1 h11) yv_X10_within tw_1352 (by decide) rfl rfl (Nat.le_of_ble_eq_true rfl) dX10_relay_23 rfl (fun r13 h14 e15 => ?_)
      refine S_if_ne (tgt := 46) dX10_relay_26 (by decide) rfl (fun _ => ?_) (fun _ => ?_)
      · exact TX10_relay_b46 a1 a2 a3 h14
      · refine S_iload_n 3 dX10_relay_29 rfl rfl rfl ?_
        refine S_i2l dX10_relay_30 rfl ?_
        refine S_ldc2 (a := 10) dX10_relay_31 rfl (by rw [show Int64.ofInt 10 = (10 : Int64) from by decide]; exact tw_1633) (by decide) ?_
        refine S_ldc2 (a := 15) dX10_relay_34 rfl (by rw [show Int64.ofInt 15 = (15 : Int64) from by decide]; exact tw_1410) (by decide) ?_
        refine S_callS_i (as := [ql a3, ql 10, ql 15]) (st := []) (fun _ => rfl) (TX10_within a3 10 15 h14) yv_X10_within tw_1352 (by decide) rfl rfl (Nat.le_of_ble_eq_true rfl) dX10_relay_37 rfl (fun r16 h17 e18 => ?_)
        refine S_if_ne (tgt := 46) dX10_relay_40 (by decide) rfl (fun _ => ?_) (fun _ => ?_)
        · exact TX10_relay_b46 a1 a2 a3 h17
        · refine S_bipush (a := (-2)) dX10_relay_43 rfl (by decide) (by decide) ?_
          exact S_iret dX10_relay_45
def DX10_restore_l32 : Nat → Int → Int → qH → Option (Int × qH)
  | 0, _, _, _ => none
  | n + 1, a1, a2, h => (if 1912 ≤ a2 then (qlt (qu h 213 350 0) fun h1 => some (0, h1)) else (if 0 ≤ qw (qw (1912 * qw (a1 + 1)) + a2) ∧ qw (qw (1912 * qw (a1 + 1)) + a2) < 5736 then (if 0 ≤ a2 ∧ a2 < 5736 then qlt (qu h 213 a2.toNat (h.1 213 (qw (qw (1912 * qw (a1 + 1)) + a2)).toNat)) fun h4 => ((DX10_restore_l32 n) a1 (qw (a2 + 1)) h4) else none) else none))
set_option maxRecDepth 100000 in
theorem TX10_restore_l32 {L : Nat} {xs : Nat → Int32} : ∀ (n : Nat) (a1 : Int) (a2 : Int) (h : qH), qS L xs cX10_restore "BottlePostModel" 3 2 1 32 [(0, qr 212), (1, qi a1), (2, qi a2)] [] h (DX10_restore_l32 n a1 a2 h) := by
  intro n
  induction n with
  | zero =>
    intro a1 a2 h
    exact S_none
  | succ n ih =>
    intro a1 a2 h
    rw [DX10_restore_l32.eq_2]
    refine S_iload_n 2 dX10_restore_32 rfl rfl rfl ?_
    refine S_sipush (a := 1912) dX10_restore_33 rfl (by decide) (by decide) ?_
    refine S_icmp_ge (tgt := 65) dX10_restore_36 (by decide) rfl (fun _ => ?_) (fun _ => ?_)
    · refine S_aload_n 0 dX10_restore_65 rfl rfl rfl ?_
      refine S_getr (j := 213) (o := 1) 1 qC_10 (by decide) (by decide) qk_212 rfl rfl (by decide) tw_1227 dX10_restore_66 rfl ?_
      refine S_sipush (a := 350) dX10_restore_69 rfl (by decide) (by decide) ?_
      refine S_iconst (a := 0) dX10_restore_72 rfl (by decide) ?_
      refine S_pick_t ((0 : Int) ≤ 350 ∧ (350 : Int) < 5736) (by decide) ?_
      refine S_iast (N := 5736) qk_213 rfl dX10_restore_73 rfl (fun _ _ => ?_)
      refine S_lh (fun h1 => ?_)
      refine S_iconst (a := 0) dX10_restore_74 rfl (by decide) ?_
      exact S_iret dX10_restore_75
    · refine S_aload_n 0 dX10_restore_39 rfl rfl rfl ?_
      refine S_getr (j := 213) (o := 1) 1 qC_10 (by decide) (by decide) qk_212 rfl rfl (by decide) tw_1227 dX10_restore_40 rfl ?_
      refine S_iload_n 2 dX10_restore_43 rfl rfl rfl ?_
      refine S_aload_n 0 dX10_restore_44 rfl rfl rfl ?_
      refine S_getr (j := 213) (o := 1) 1 qC_10 (by decide) (by decide) qk_212 rfl rfl (by decide) tw_1227 dX10_restore_45 rfl ?_
      refine S_sipush (a := 1912) dX10_restore_48 rfl (by decide) (by decide) ?_
      refine S_iload_n 1 dX10_restore_51 rfl rfl rfl ?_
      refine S_iconst (a := 1) dX10_restore_52 rfl (by decide) ?_
      refine S_iadd dX10_restore_53 rfl ?_
      refine S_imul dX10_restore_54 rfl ?_
      refine S_iload_n 2 dX10_restore_55 rfl rfl rfl ?_
      refine S_iadd dX10_restore_56 rfl ?_
      refine S_iald (N := 5736) qk_213 rfl dX10_restore_57 rfl (fun g2 g3 => ?_)
      refine S_iast (N := 5736) qk_213 rfl dX10_restore_58 rfl (fun _ _ => ?_)
      refine S_lh (fun h4 => ?_)
      refine S_iinc (lv' := [(2, qi (qw (a2 + 1))), (0, qr 212), (1, qi a1)]) 2 dX10_restore_59 rfl (by decide) rfl rfl ?_
      refine S_goto (pc' := 32) dX10_restore_62 (by decide) ?_
      refine S_sub [1, 2, 0] rfl ?_
      exact ih a1 (qw (a2 + 1)) h4
def DX10_restore (a1 : Int) (h : qH) : Option (Int × qH) := (qlt (qu h 212 0 0) fun h5 => (qbd (DX10_within a1 0 1 h5) fun r6 h7 => (if ¬ r6 = 0 then (if 0 ≤ a1 ∧ a1 < 2 then (if ¬ h7.1 214 a1.toNat = 0 then (DX10_restore_l32 LF a1 0 h7) else some ((-5), h7)) else none) else some ((-2), h7))))
set_option maxRecDepth 100000 in
theorem TX10_restore {L : Nat} {xs : Nat → Int32} (a1 : Int) (h : qH) : qMet L xs yX10_restore cX10_restore 3 (some .int) 1 2 [qr 212, qi a1] h (DX10_restore a1 h) := by
  refine qMet.of (by decide +kernel) (Or.inr (Or.inl ⟨rfl, rfl⟩)) (Nat.le_of_ble_eq_true rfl) ?_
  show qS L xs cX10_restore "BottlePostModel" 3 2 1 0 [(0, qr 212), (1, qi a1)] [] h (DX10_restore a1 h)
  unfold DX10_restore
  refine S_aload_n 0 dX10_restore_0 rfl rfl rfl ?_
  refine S_iconst (a := 0) dX10_restore_1 rfl (by decide) ?_
  refine S_puti 0 qC_10 (by decide) (by decide) rfl rfl qk_212 (by decide) tw_1226 dX10_restore_2 rfl ?_
  refine S_lh (fun h5 => ?_)
  refine S_iload_n 1 dX10_restore_5 rfl rfl rfl ?_
  refine S_i2l dX10_restore_6 rfl ?_
  refine S_lconst (a := 0) dX10_restore_7 rfl (by decide) (by decide) ?_
  refine S_lconst (a := 1) dX10_restore_8 rfl (by decide) (by decide) ?_
  refine S_callS_i (as := [ql a1, ql 0, ql 1]) (st := []) (fun _ => rfl) (TX10_within a1 0 1 h5) yv_X10_within tw_1352 (by decide) rfl rfl (Nat.le_of_ble_eq_true rfl) dX10_restore_9 rfl (fun r6 h7 e8 => ?_)
  refine S_if_ne (tgt := 18) dX10_restore_12 (by decide) rfl (fun _ => ?_) (fun _ => ?_)
  · refine S_aload_n 0 dX10_restore_18 rfl rfl rfl ?_
    refine S_getr (j := 214) (o := 2) 2 qC_10 (by decide) (by decide) qk_212 rfl rfl (by decide) tw_1228 dX10_restore_19 rfl ?_
    refine S_iload_n 1 dX10_restore_22 rfl rfl rfl ?_
    refine S_zald (N := 2) qk_214 rfl dX10_restore_23 rfl (fun g9 g10 => ?_)
    refine S_if_ne (tgt := 30) dX10_restore_24 (by decide) rfl (fun _ => ?_) (fun _ => ?_)
    · refine S_iconst (a := 0) dX10_restore_30 rfl (by decide) ?_
      refine S_istore_n (lv' := [(2, qi 0), (0, qr 212), (1, qi a1)]) dX10_restore_31 rfl (by decide) rfl rfl ?_
      refine S_sub [1, 2, 0] rfl ?_
      exact TX10_restore_l32 LF a1 0 h7
    · refine S_bipush (a := (-5)) dX10_restore_27 rfl (by decide) (by decide) ?_
      exact S_iret dX10_restore_29
  · refine S_bipush (a := (-2)) dX10_restore_15 rfl (by decide) (by decide) ?_
    exact S_iret dX10_restore_17
def DX10_sea_l193 : Nat → Int → qH → Option (Int × qH)
  | 0, _, _ => none
  | n + 1, a2, h => (if 1912 ≤ a2 then some (h.1 213 0, h) else (if 0 ≤ a2 ∧ a2 < 1912 then (if 0 ≤ a2 ∧ a2 < 5736 then qlt (qu h 213 a2.toNat (h.1 216 a2.toNat)) fun h5 => ((DX10_sea_l193 n) (qw (a2 + 1)) h5) else none) else none))
set_option maxRecDepth 100000 in
theorem TX10_sea_l193 {L : Nat} {xs : Nat → Int32} : ∀ (n : Nat) (a2 : Int) (h : qH), qS L xs cX10_sea "BottlePostModel" 3 112 1 193 [(0, qr 212), (2, qi a2)] [] h (DX10_sea_l193 n a2 h) := by
  intro n
  induction n with
  | zero =>
    intro a2 h
    exact S_none
  | succ n ih =>
    intro a2 h
    rw [DX10_sea_l193.eq_2]
    refine S_iload_n 1 dX10_sea_193 rfl rfl rfl ?_
    refine S_sipush (a := 1912) dX10_sea_194 rfl (by decide) (by decide) ?_
    refine S_icmp_ge (tgt := 218) dX10_sea_197 (by decide) rfl (fun _ => ?_) (fun _ => ?_)
    · refine S_aload_n 0 dX10_sea_218 rfl rfl rfl ?_
      refine S_getr (j := 213) (o := 1) 1 qC_10 (by decide) (by decide) qk_212 rfl rfl (by decide) tw_1227 dX10_sea_219 rfl ?_
      refine S_iconst (a := 0) dX10_sea_222 rfl (by decide) ?_
      refine S_pick_t ((0 : Int) ≤ 0 ∧ (0 : Int) < 5736) (by decide) ?_
      refine S_iald (N := 5736) qk_213 rfl dX10_sea_223 rfl (fun g1 g2 => ?_)
      exact S_iret dX10_sea_224
    · refine S_aload_n 0 dX10_sea_200 rfl rfl rfl ?_
      refine S_getr (j := 213) (o := 1) 1 qC_10 (by decide) (by decide) qk_212 rfl rfl (by decide) tw_1227 dX10_sea_201 rfl ?_
      refine S_iload_n 1 dX10_sea_204 rfl rfl rfl ?_
      refine S_aload_n 0 dX10_sea_205 rfl rfl rfl ?_
      refine S_getr (j := 216) (o := 4) 4 qC_10 (by decide) (by decide) qk_212 rfl rfl (by decide) tw_1230 dX10_sea_206 rfl ?_
      refine S_iload_n 1 dX10_sea_209 rfl rfl rfl ?_
      refine S_iald (N := 1912) qk_216 rfl dX10_sea_210 rfl (fun g3 g4 => ?_)
      refine S_iast (N := 5736) qk_213 rfl dX10_sea_211 rfl (fun _ _ => ?_)
      refine S_lh (fun h5 => ?_)
      refine S_iinc (lv' := [(2, qi (qw (a2 + 1))), (0, qr 212)]) 1 dX10_sea_212 rfl (by decide) rfl rfl ?_
      refine S_goto (pc' := 193) dX10_sea_215 (by decide) ?_
      refine S_sub [1, 0] rfl ?_
      exact ih (qw (a2 + 1)) h5
def DX10_sea_b173 (b0 : Int) (h : qH) : Option (Int × qH) := (qlt (qu h 212 14 b0) fun h6 => (if h6.1 212 11 = 0 then (DX10_sea_l193 LF 0 h6) else some (qw ((-30) - h6.1 212 11), h6)))
set_option maxRecDepth 100000 in
theorem TX10_sea_b173 {L : Nat} {xs : Nat → Int32} (b0 : Int) (h : qH) : qS L xs cX10_sea "BottlePostModel" 3 112 1 173 [(0, qr 212)] [qi b0, qr 212] h (DX10_sea_b173 b0 h) := by
  unfold DX10_sea_b173
  refine S_puti 14 qC_10 (by decide) (by decide) rfl rfl qk_212 (by decide) tw_1240 dX10_sea_173 rfl ?_
  refine S_lh (fun h6 => ?_)
  refine S_aload_n 0 dX10_sea_176 rfl rfl rfl ?_
  refine S_geti 11 qC_10 (by decide) (by decide) qk_212 tw_1237 dX10_sea_177 rfl ?_
  refine S_if_eq (tgt := 191) dX10_sea_180 (by decide) rfl (fun _ => ?_) (fun _ => ?_)
  · refine S_iconst (a := 0) dX10_sea_191 rfl (by decide) ?_
    refine S_istore_n (lv' := [(2, qi 0), (0, qr 212)]) dX10_sea_192 rfl (by decide) rfl rfl ?_
    refine S_sub [1, 0] rfl ?_
    exact TX10_sea_l193 LF 0 h6
  · refine S_bipush (a := (-30)) dX10_sea_183 rfl (by decide) (by decide) ?_
    refine S_aload_n 0 dX10_sea_185 rfl rfl rfl ?_
    refine S_geti 11 qC_10 (by decide) (by decide) qk_212 tw_1237 dX10_sea_186 rfl ?_
    refine S_isub dX10_sea_189 rfl ?_
    exact S_iret dX10_sea_190
def DX10_sea_b149 (h : qH) : Option (Int × qH) := (qlt (qu h 212 13 (h.1 212 11)) fun h7 => (if ¬ h7.1 212 11 = 0 then (DX10_sea_b173 (h7.1 212 12) h7) else (DX10_sea_b173 (-1) h7)))
set_option maxRecDepth 100000 in
theorem TX10_sea_b149 {L : Nat} {xs : Nat → Int32} (h : qH) : qS L xs cX10_sea "BottlePostModel" 3 112 1 149 [(0, qr 212)] [] h (DX10_sea_b149 h) := by
  unfold DX10_sea_b149
  refine S_aload_n 0 dX10_sea_149 rfl rfl rfl ?_
  refine S_aload_n 0 dX10_sea_150 rfl rfl rfl ?_
  refine S_geti 11 qC_10 (by decide) (by decide) qk_212 tw_1237 dX10_sea_151 rfl ?_
  refine S_puti 13 qC_10 (by decide) (by decide) rfl rfl qk_212 (by decide) tw_1239 dX10_sea_154 rfl ?_
  refine S_lh (fun h7 => ?_)
  refine S_aload_n 0 dX10_sea_157 rfl rfl rfl ?_
  refine S_aload_n 0 dX10_sea_158 rfl rfl rfl ?_
  refine S_geti 11 qC_10 (by decide) (by decide) qk_212 tw_1237 dX10_sea_159 rfl ?_
  refine S_if_ne (tgt := 169) dX10_sea_162 (by decide) rfl (fun _ => ?_) (fun _ => ?_)
  · refine S_aload_n 0 dX10_sea_169 rfl rfl rfl ?_
    refine S_geti 12 qC_10 (by decide) (by decide) qk_212 tw_1238 dX10_sea_170 rfl ?_
    exact TX10_sea_b173 (h7.1 212 12) h7
  · refine S_iconst (a := (-1)) dX10_sea_165 rfl (by decide) ?_
    refine S_goto (pc' := 173) dX10_sea_166 (by decide) ?_
    exact TX10_sea_b173 (-1) h7
def DX10_sea_l122 : Nat → qH → Option (Int × qH)
  | 0, _ => none
  | n + 1, h => (if ¬ h.1 212 11 = 0 then (DX10_sea_b149 h) else (if h.1 212 9 = 32 then (DX10_sea_b149 h) else (qbd (DX10_readLine h) fun r8 h9 => (qbd (DX10_ends h9) fun r11 h12 => ((DX10_sea_l122 n) h12)))))
set_option maxRecDepth 100000 in
theorem TX10_sea_l122 {L : Nat} {xs : Nat → Int32} : ∀ (n : Nat) (h : qH), qS L xs cX10_sea "BottlePostModel" 3 112 1 122 [(0, qr 212)] [] h (DX10_sea_l122 n h) := by
  intro n
  induction n with
  | zero =>
    intro h
    exact S_none
  | succ n ih =>
    intro h
    rw [DX10_sea_l122.eq_2]
    refine S_aload_n 0 dX10_sea_122 rfl rfl rfl ?_
    refine S_geti 11 qC_10 (by decide) (by decide) qk_212 tw_1237 dX10_sea_123 rfl ?_
    refine S_if_ne (tgt := 149) dX10_sea_126 (by decide) rfl (fun _ => ?_) (fun _ => ?_)
    · exact TX10_sea_b149 h
    · refine S_aload_n 0 dX10_sea_129 rfl rfl rfl ?_
      refine S_geti 9 qC_10 (by decide) (by decide) qk_212 tw_1235 dX10_sea_130 rfl ?_
      refine S_bipush (a := 32) dX10_sea_133 rfl (by decide) (by decide) ?_
      refine S_icmp_eq (tgt := 149) dX10_sea_135 (by decide) rfl (fun _ => ?_) (fun _ => ?_)
      · exact TX10_sea_b149 h
      · refine S_aload_n 0 dX10_sea_138 rfl rfl rfl ?_
        refine S_callV_0 (as := []) (st := []) (fun _ => rfl) (TX10_readLine h) yv_X10_readLine tw_1397 qC_10 qk_212 (by decide) rfl rfl (Nat.le_of_ble_eq_true rfl) dX10_sea_139 rfl (fun r8 h9 e10 => ?_)
        refine S_aload_n 0 dX10_sea_142 rfl rfl rfl ?_
        refine S_callV_0 (as := []) (st := []) (fun _ => rfl) (TX10_ends h9) yv_X10_ends tw_1393 qC_10 qk_212 (by decide) rfl rfl (Nat.le_of_ble_eq_true rfl) dX10_sea_143 rfl (fun r11 h12 e13 => ?_)
        refine S_goto (pc' := 122) dX10_sea_146 (by decide) ?_
        exact ih h12
def DX10_sea_b105 (h : qH) : Option (Int × qH) := (qbd (DX10_takes 1 6 h) fun r14 h15 => (qlt (qu h15 216 3 r14) fun h17 => (qbd (DX10_ends h17) fun r18 h19 => (DX10_sea_l122 LF h19))))
set_option maxRecDepth 100000 in
theorem TX10_sea_b105 {L : Nat} {xs : Nat → Int32} (h : qH) : qS L xs cX10_sea "BottlePostModel" 3 112 1 105 [(0, qr 212)] [] h (DX10_sea_b105 h) := by
  unfold DX10_sea_b105
  refine S_aload_n 0 dX10_sea_105 rfl rfl rfl ?_
  refine S_getr (j := 216) (o := 4) 4 qC_10 (by decide) (by decide) qk_212 rfl rfl (by decide) tw_1230 dX10_sea_106 rfl ?_
  refine S_iconst (a := 3) dX10_sea_109 rfl (by decide) ?_
  refine S_aload_n 0 dX10_sea_110 rfl rfl rfl ?_
  refine S_iconst (a := 1) dX10_sea_111 rfl (by decide) ?_
  refine S_bipush (a := 6) dX10_sea_112 rfl (by decide) (by decide) ?_
  refine S_callV_i (as := [qi 1, qi 6]) (st := [qi 3, qr 216]) (fun _ => rfl) (TX10_takes 1 6 h) yv_X10_takes tw_1389 qC_10 qk_212 (by decide) rfl rfl (Nat.le_of_ble_eq_true rfl) dX10_sea_114 rfl (fun r14 h15 e16 => ?_)
  refine S_pick_t ((0 : Int) ≤ 3 ∧ (3 : Int) < 1912) (by decide) ?_
  refine S_iast (N := 1912) qk_216 rfl dX10_sea_117 rfl (fun _ _ => ?_)
  refine S_lh (fun h17 => ?_)
  refine S_aload_n 0 dX10_sea_118 rfl rfl rfl ?_
  refine S_callV_0 (as := []) (st := []) (fun _ => rfl) (TX10_ends h17) yv_X10_ends tw_1393 qC_10 qk_212 (by decide) rfl rfl (Nat.le_of_ble_eq_true rfl) dX10_sea_119 rfl (fun r18 h19 e20 => ?_)
  exact TX10_sea_l122 LF h19
def DX10_sea_b66 (h : qH) : Option (Int × qH) := (qbd (DX10_takes 2 6 h) fun r21 h22 => (qlt (qu h22 216 1 r21) fun h24 => (qbd (DX10_takes 2 6 h24) fun r25 h26 => (qlt (qu h26 216 2 r25) fun h28 => (qbd (DX10_eats 1 h28) fun r29 h30 => (if ¬ r29 = 0 then (DX10_sea_b105 h30) else (qbd (DX10_fails 2 h30) fun r32 h33 => (DX10_sea_b105 h33))))))))
set_option maxRecDepth 100000 in
theorem TX10_sea_b66 {L : Nat} {xs : Nat → Int32} (h : qH) : qS L xs cX10_sea "BottlePostModel" 3 112 1 66 [(0, qr 212)] [] h (DX10_sea_b66 h) := by
  unfold DX10_sea_b66
  refine S_aload_n 0 dX10_sea_66 rfl rfl rfl ?_
  refine S_getr (j := 216) (o := 4) 4 qC_10 (by decide) (by decide) qk_212 rfl rfl (by decide) tw_1230 dX10_sea_67 rfl ?_
  refine S_iconst (a := 1) dX10_sea_70 rfl (by decide) ?_
  refine S_aload_n 0 dX10_sea_71 rfl rfl rfl ?_
  refine S_iconst (a := 2) dX10_sea_72 rfl (by decide) ?_
  refine S_bipush (a := 6) dX10_sea_73 rfl (by decide) (by decide) ?_
  refine S_callV_i (as := [qi 2, qi 6]) (st := [qi 1, qr 216]) (fun _ => rfl) (TX10_takes 2 6 h) yv_X10_takes tw_1389 qC_10 qk_212 (by decide) rfl rfl (Nat.le_of_ble_eq_true rfl) dX10_sea_75 rfl (fun r21 h22 e23 => ?_)
  refine S_pick_t ((0 : Int) ≤ 1 ∧ (1 : Int) < 1912) (by decide) ?_
  refine S_iast (N := 1912) qk_216 rfl dX10_sea_78 rfl (fun _ _ => ?_)
  refine S_lh (fun h24 => ?_)
  refine S_aload_n 0 dX10_sea_79 rfl rfl rfl ?_
  refine S_getr (j := 216) (o := 4) 4 qC_10 (by decide) (by decide) qk_212 rfl rfl (by decide) tw_1230 dX10_sea_80 rfl ?_
  refine S_iconst (a := 2) dX10_sea_83 rfl (by decide) ?_
  refine S_aload_n 0 dX10_sea_84 rfl rfl rfl ?_
  refine S_iconst (a := 2) dX10_sea_85 rfl (by decide) ?_
  refine S_bipush (a := 6) dX10_sea_86 rfl (by decide) (by decide) ?_
  refine S_callV_i (as := [qi 2, qi 6]) (st := [qi 2, qr 216]) (fun _ => rfl) (TX10_takes 2 6 h24) yv_X10_takes tw_1389 qC_10 qk_212 (by decide) rfl rfl (Nat.le_of_ble_eq_true rfl) dX10_sea_88 rfl (fun r25 h26 e27 => ?_)
  refine S_pick_t ((0 : Int) ≤ 2 ∧ (2 : Int) < 1912) (by decide) ?_
  refine S_iast (N := 1912) qk_216 rfl dX10_sea_91 rfl (fun _ _ => ?_)
  refine S_lh (fun h28 => ?_)
  refine S_aload_n 0 dX10_sea_92 rfl rfl rfl ?_
  refine S_iconst (a := 1) dX10_sea_93 rfl (by decide) ?_
  refine S_callV_i (as := [qi 1]) (st := []) (fun _ => rfl) (TX10_eats 1 h28) yv_X10_eats tw_1377 qC_10 qk_212 (by decide) rfl rfl (Nat.le_of_ble_eq_true rfl) dX10_sea_94 rfl (fun r29 h30 e31 => ?_)
  refine S_if_ne (tgt := 105) dX10_sea_97 (by decide) rfl (fun _ => ?_) (fun _ => ?_)
  · exact TX10_sea_b105 h30
  · refine S_aload_n 0 dX10_sea_100 rfl rfl rfl ?_
    refine S_iconst (a := 2) dX10_sea_101 rfl (by decide) ?_
    refine S_callV_0 (as := [qi 2]) (st := []) (fun _ => rfl) (TX10_fails 2 h30) yv_X10_fails tw_1385 qC_10 qk_212 (by decide) rfl rfl (Nat.le_of_ble_eq_true rfl) dX10_sea_102 rfl (fun r32 h33 e34 => ?_)
    exact TX10_sea_b105 h33
def DX10_sea (a1 : Int) (h : qH) : Option (Int × qH) := (qlt (qu h 212 0 0) fun h35 => (qbd (DX10_within a1 0 (h35.1 212 5) h35) fun r36 h37 => (if ¬ r36 = 0 then (qlt (qu h37 212 8 a1) fun h39 => (qlt (qu h39 212 5 0) fun h40 => (qlt (qu h40 212 7 0) fun h41 => (qlt (qu h41 212 11 0) fun h42 => (qbd (DX10_plain 216 1912 h42) fun r43 h44 => (qbd (DX10_next h44) fun r46 h47 => (qbd (DX10_eats 0 h47) fun r49 h50 => (if ¬ r49 = 0 then (DX10_sea_b66 h50) else (qbd (DX10_fails 2 h50) fun r52 h53 => (DX10_sea_b66 h53)))))))))) else some ((-3), h37))))
set_option maxRecDepth 100000 in
theorem TX10_sea {L : Nat} {xs : Nat → Int32} (a1 : Int) (h : qH) : qMet L xs yX10_sea cX10_sea 3 (some .int) 1 112 [qr 212, qi a1] h (DX10_sea a1 h) := by
  refine qMet.of (by decide +kernel) (Or.inr (Or.inl ⟨rfl, rfl⟩)) (Nat.le_of_ble_eq_true rfl) ?_
  show qS L xs cX10_sea "BottlePostModel" 3 112 1 0 [(0, qr 212), (1, qi a1)] [] h (DX10_sea a1 h)
  unfold DX10_sea
  refine S_aload_n 0 dX10_sea_0 rfl rfl rfl ?_
  refine S_iconst (a := 0) dX10_sea_1 rfl (by decide) ?_
  refine S_puti 0 qC_10 (by decide) (by decide) rfl rfl qk_212 (by decide) tw_1226 dX10_sea_2 rfl ?_
  refine S_lh (fun h35 => ?_)
  refine S_iload_n 1 dX10_sea_5 rfl rfl rfl ?_
  refine S_i2l dX10_sea_6 rfl ?_
  refine S_lconst (a := 0) dX10_sea_7 rfl (by decide) (by decide) ?_
  refine S_aload_n 0 dX10_sea_8 rfl rfl rfl ?_
  refine S_geti 5 qC_10 (by decide) (by decide) qk_212 tw_1231 dX10_sea_9 rfl ?_
  refine S_i2l dX10_sea_12 rfl ?_
  refine S_callS_i (as := [ql a1, ql 0, ql (h35.1 212 5)]) (st := []) (fun _ => rfl) (TX10_within a1 0 (h35.1 212 5) h35) yv_X10_within tw_1352 (by decide) rfl rfl (Nat.le_of_ble_eq_true rfl) dX10_sea_13 rfl (fun r36 h37 e38 => ?_)
  refine S_if_ne (tgt := 22) dX10_sea_16 (by decide) rfl (fun _ => ?_) (fun _ => ?_)
  · refine S_aload_n 0 dX10_sea_22 rfl rfl rfl ?_
    refine S_iload_n 1 dX10_sea_23 rfl rfl rfl ?_
    refine S_puti 8 qC_10 (by decide) (by decide) rfl rfl qk_212 (by decide) tw_1234 dX10_sea_24 rfl ?_
    refine S_lh (fun h39 => ?_)
    refine S_aload_n 0 dX10_sea_27 rfl rfl rfl ?_
    refine S_iconst (a := 0) dX10_sea_28 rfl (by decide) ?_
    refine S_puti 5 qC_10 (by decide) (by decide) rfl rfl qk_212 (by decide) tw_1231 dX10_sea_29 rfl ?_
    refine S_lh (fun h40 => ?_)
    refine S_aload_n 0 dX10_sea_32 rfl rfl rfl ?_
    refine S_iconst (a := 0) dX10_sea_33 rfl (by decide) ?_
    refine S_puti 7 qC_10 (by decide) (by decide) rfl rfl qk_212 (by decide) tw_1233 dX10_sea_34 rfl ?_
    refine S_lh (fun h41 => ?_)
    refine S_aload_n 0 dX10_sea_37 rfl rfl rfl ?_
    refine S_iconst (a := 0) dX10_sea_38 rfl (by decide) ?_
    refine S_puti 11 qC_10 (by decide) (by decide) rfl rfl qk_212 (by decide) tw_1237 dX10_sea_39 rfl ?_
    refine S_lh (fun h42 => ?_)
    refine S_aload_n 0 dX10_sea_42 rfl rfl rfl ?_
    refine S_getr (j := 216) (o := 4) 4 qC_10 (by decide) (by decide) qk_212 rfl rfl (by decide) tw_1230 dX10_sea_43 rfl ?_
    refine S_callS_0 (as := [qr 216]) (st := []) (fun _ => rfl) (TX10_plain 216 1912 qk_216 (by decide) h42) yv_X10_plain tw_1223 (by decide) rfl rfl (Nat.le_of_ble_eq_true rfl) dX10_sea_46 rfl (fun r43 h44 e45 => ?_)
    refine S_aload_n 0 dX10_sea_49 rfl rfl rfl ?_
    refine S_callV_0 (as := []) (st := []) (fun _ => rfl) (TX10_next h44) yv_X10_next tw_1355 qC_10 qk_212 (by decide) rfl rfl (Nat.le_of_ble_eq_true rfl) dX10_sea_50 rfl (fun r46 h47 e48 => ?_)
    refine S_aload_n 0 dX10_sea_53 rfl rfl rfl ?_
    refine S_iconst (a := 0) dX10_sea_54 rfl (by decide) ?_
    refine S_callV_i (as := [qi 0]) (st := []) (fun _ => rfl) (TX10_eats 0 h47) yv_X10_eats tw_1377 qC_10 qk_212 (by decide) rfl rfl (Nat.le_of_ble_eq_true rfl) dX10_sea_55 rfl (fun r49 h50 e51 => ?_)
    refine S_if_ne (tgt := 66) dX10_sea_58 (by decide) rfl (fun _ => ?_) (fun _ => ?_)
    · refine S_sub [0] rfl ?_
      exact TX10_sea_b66 h50
    · refine S_aload_n 0 dX10_sea_61 rfl rfl rfl ?_
      refine S_iconst (a := 2) dX10_sea_62 rfl (by decide) ?_
      refine S_callV_0 (as := [qi 2]) (st := []) (fun _ => rfl) (TX10_fails 2 h50) yv_X10_fails tw_1385 qC_10 qk_212 (by decide) rfl rfl (Nat.le_of_ble_eq_true rfl) dX10_sea_63 rfl (fun r52 h53 e54 => ?_)
      refine S_sub [0] rfl ?_
      exact TX10_sea_b66 h53
  · refine S_bipush (a := (-3)) dX10_sea_19 rfl (by decide) (by decide) ?_
    exact S_iret dX10_sea_21
