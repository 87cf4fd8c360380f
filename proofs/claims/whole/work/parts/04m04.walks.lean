def DX6_missing (i0 : Nat) (h : qH) : Option (Int × qH) := (if ¬ h.1 i0 1 = (-1) then some (0, h) else some (1, h))
set_option maxRecDepth 100000 in
theorem TX6_missing {L : Nat} {xs : Nat → Int32} (i0 : Nat) (t0 : qK i0 = (6, 3)) (h : qH) : qMet L xs yX6_missing cX6_missing 1 (some .boolean) 4 1 [qr i0] h (DX6_missing i0 h) := by
  refine qMet.of (by decide +kernel) (Or.inr (Or.inr (Or.inr (Or.inr (Or.inl ⟨rfl, rfl⟩))))) (Nat.le_of_ble_eq_true rfl) ?_
  show qS L xs cX6_missing "BottlePost$Tray" 1 1 4 0 [(0, qr i0)] [] h (DX6_missing i0 h)
  unfold DX6_missing
  refine S_aload_n 0 dX6_missing_0 rfl rfl rfl ?_
  refine S_geti 1 qC_6 (by decide) (by decide) t0 tw_367 dX6_missing_1 rfl ?_
  refine S_iconst (a := (-1)) dX6_missing_4 rfl (by decide) ?_
  refine S_icmp_ne (tgt := 12) dX6_missing_5 (by decide) rfl (fun _ => ?_) (fun _ => ?_)
  · refine S_iconst (a := 0) dX6_missing_12 rfl (by decide) ?_
    exact S_zretl (by decide) dX6_missing_13
  · refine S_iconst (a := 1) dX6_missing_8 rfl (by decide) ?_
    refine S_goto (pc' := 13) dX6_missing_9 (by decide) ?_
    exact S_zretl (by decide) dX6_missing_13
def DX9_judge_b78 (a1 : Int) (a2 : Int) (a3 : Int) (b0 : Int) (h : qH) : Option (Int × qH) := (if a2 = 0 then (if b0 = 0 then some (a3, h) else some ((-1), h)) else (if a2 = 1 then (if b0 = 0 then (if 0 ≤ a1 ∧ a1 < 4 then (qbd (DX6_numberAt (168 + 2 * a1.toNat) a3 h) fun r5 h6 => (qbd (DX9_whyNotDone 34 r5 h6) fun r8 h9 => some (r8, h9))) else none) else some (0, h)) else (if a2 = 2 then some (h.1 34 1, h) else (qbd (DX7_countOf 34 2 h) fun r12 h13 => some (r12, h13)))))
set_option maxRecDepth 100000 in
theorem TX9_judge_b78 {L : Nat} {xs : Nat → Int32} (a1 : Int) (a2 : Int) (a3 : Int) (b0 : Int) (h : qH) : qS L xs cX9_judge "BottlePost" 5 9 1 78 [(0, qr 0), (1, qi a1), (2, qi a2), (3, qi a3)] [qi b0] h (DX9_judge_b78 a1 a2 a3 b0 h) := by
  unfold DX9_judge_b78
  refine S_istore (lv' := [(4, qi b0), (0, qr 0), (1, qi a1), (2, qi a2), (3, qi a3)]) dX9_judge_78 (by decide) rfl rfl ?_
  refine S_iload_n 3 dX9_judge_80 rfl rfl rfl ?_
  refine S_ite (fun g1 => ?_) (fun g1 => ?_)
  · refine S_tabIn (a0 := 0) (off := 27) (pc' := 108) dX9_judge_81 g1 (by decide) (by decide) rfl (by decide) ?_
    refine S_iload 0 dX9_judge_108 rfl rfl ?_
    refine S_if_eq (tgt := 117) dX9_judge_110 (by decide) rfl (fun _ => ?_) (fun _ => ?_)
    · refine S_iload_n 4 dX9_judge_117 rfl rfl rfl ?_
      exact S_iret dX9_judge_118
    · refine S_iconst (a := (-1)) dX9_judge_113 rfl (by decide) ?_
      refine S_goto (pc' := 118) dX9_judge_114 (by decide) ?_
      exact S_iret dX9_judge_118
  · refine S_ite (fun g2 => ?_) (fun g2 => ?_)
    · refine S_tabIn (a0 := 1) (off := 38) (pc' := 119) dX9_judge_81 g2 (by decide) (by decide) rfl (by decide) ?_
      refine S_iload 0 dX9_judge_119 rfl rfl ?_
      refine S_if_eq (tgt := 128) dX9_judge_121 (by decide) rfl (fun _ => ?_) (fun _ => ?_)
      · refine S_aload_n 1 dX9_judge_128 rfl rfl rfl ?_
        refine S_aload_n 1 dX9_judge_129 rfl rfl rfl ?_
        refine S_getr (j := 34) (o := 34) 6 qC_9 (by decide) (by decide) qk_0 rfl rfl (by decide) tw_387 dX9_judge_130 rfl ?_
        refine S_aload_n 1 dX9_judge_133 rfl rfl rfl ?_
        refine S_getr (j := 164) (o := 164) 12 qC_9 (by decide) (by decide) qk_0 rfl rfl (by decide) tw_393 dX9_judge_134 rfl ?_
        refine S_iload_n 2 dX9_judge_137 rfl rfl rfl ?_
        refine S_aald (j := (168 + 2 * a1.toNat)) (C := "BottlePost$Tray") (N := 4) qk_164 (by decide) (by decide) (fun _ => rfl) rfl dX9_judge_138 rfl (fun g3 g4 => (qel_164 g3 g4).2) (fun g3 g4 => ?_)
        refine S_iload_n 4 dX9_judge_139 rfl rfl rfl ?_
        refine S_callV_l (as := [qi a3]) (st := [qr 34, qr 0]) (fun _ => rfl) (TX6_numberAt (168 + 2 * a1.toNat) a3 (qel_164 g3 g4).1 h) yv_X6_numberAt tw_952 qC_6 (qel_164 g3 g4).1 (by decide) rfl rfl (Nat.le_of_ble_eq_true rfl) dX9_judge_140 rfl (fun r5 h6 e7 => ?_)
        refine S_callV_i (as := [qr 34, ql r5]) (st := []) (fun _ => rfl) (TX9_whyNotDone 34 r5 qk_34 h6) yv_X9_whyNotDone tw_956 qC_9 qk_0 (by decide) rfl rfl (Nat.le_of_ble_eq_true rfl) dX9_judge_143 rfl (fun r8 h9 e10 => ?_)
        exact S_iret dX9_judge_146
      · refine S_iconst (a := 0) dX9_judge_124 rfl (by decide) ?_
        refine S_goto (pc' := 146) dX9_judge_125 (by decide) ?_
        exact S_iret dX9_judge_146
    · refine S_ite (fun g11 => ?_) (fun g11 => ?_)
      · refine S_tabIn (a0 := 2) (off := 66) (pc' := 147) dX9_judge_81 g11 (by decide) (by decide) rfl (by decide) ?_
        refine S_aload_n 1 dX9_judge_147 rfl rfl rfl ?_
        refine S_getr (j := 34) (o := 34) 6 qC_9 (by decide) (by decide) qk_0 rfl rfl (by decide) tw_387 dX9_judge_148 rfl ?_
        refine S_geti 1 qC_7 (by decide) (by decide) qk_34 tw_274 dX9_judge_151 rfl ?_
        exact S_iret dX9_judge_154
      · refine S_tabOut (pc' := 155) dX9_judge_81 (by omega) (by decide) ?_
        refine S_aload_n 1 dX9_judge_155 rfl rfl rfl ?_
        refine S_getr (j := 34) (o := 34) 6 qC_9 (by decide) (by decide) qk_0 rfl rfl (by decide) tw_387 dX9_judge_156 rfl ?_
        refine S_iconst (a := 2) dX9_judge_159 rfl (by decide) ?_
        refine S_callV_i (as := [qi 2]) (st := []) (fun _ => rfl) (TX7_countOf 34 2 qk_34 h) yv_X7_countOf tw_869 qC_7 qk_34 (by decide) rfl rfl (Nat.le_of_ble_eq_true rfl) dX9_judge_160 rfl (fun r12 h13 e14 => ?_)
        exact S_iret dX9_judge_163
def DX9_judge (a1 : Int) (a2 : Int) (h : qH) : Option (Int × qH) := (qbd (DX9_isTray a1 h) fun r15 h16 => (if r15 = 0 then some ((-2), h16) else (if a2 < 0 then some ((-2), h16) else (if a2 ≤ 3 then (if 0 ≤ a1 ∧ a1 < 4 then (qbd (DX6_missing (168 + 2 * a1.toNat) h16) fun r20 h21 => (if r20 = 0 then (qbd (DX7_takeFrom 34 24 h21) fun r23 h24 => (if 0 ≤ a1 ∧ a1 < 4 then (qbd (DX9_doAll 34 (168 + 2 * a1.toNat) h24) fun r28 h29 => (if 0 ≤ a1 ∧ a1 < 4 then (if r28 < h29.1 (168 + 2 * a1.toNat) 2 then (DX9_judge_b78 a1 a2 r28 0 h29) else (DX9_judge_b78 a1 a2 r28 1 h29)) else none)) else none)) else some ((-6), h21))) else none) else some ((-2), h16)))))
set_option maxRecDepth 100000 in
theorem TX9_judge {L : Nat} {xs : Nat → Int32} (a1 : Int) (a2 : Int) (h : qH) : qMet L xs yX9_judge cX9_judge 5 (some .int) 1 9 [qr 0, qi a1, qi a2] h (DX9_judge a1 a2 h) := by
  refine qMet.of (by decide +kernel) (Or.inr (Or.inl ⟨rfl, rfl⟩)) (Nat.le_of_ble_eq_true rfl) ?_
  show qS L xs cX9_judge "BottlePost" 5 9 1 0 [(0, qr 0), (1, qi a1), (2, qi a2)] [] h (DX9_judge a1 a2 h)
  unfold DX9_judge
  refine S_iload_n 1 dX9_judge_0 rfl rfl rfl ?_
  refine S_callS_i (as := [qi a1]) (st := []) (fun _ => rfl) (TX9_isTray a1 h) yv_X9_isTray tw_940 (by decide) rfl rfl (Nat.le_of_ble_eq_true rfl) dX9_judge_1 rfl (fun r15 h16 e17 => ?_)
  refine S_if_eq (tgt := 16) dX9_judge_4 (by decide) rfl (fun _ => ?_) (fun _ => ?_)
  · refine S_bipush (a := (-2)) dX9_judge_16 rfl (by decide) (by decide) ?_
    exact S_iret dX9_judge_18
  · refine S_iload_n 2 dX9_judge_7 rfl rfl rfl ?_
    refine S_if_lt (tgt := 16) dX9_judge_8 (by decide) rfl (fun _ => ?_) (fun _ => ?_)
    · refine S_bipush (a := (-2)) dX9_judge_16 rfl (by decide) (by decide) ?_
      exact S_iret dX9_judge_18
    · refine S_iload_n 2 dX9_judge_11 rfl rfl rfl ?_
      refine S_iconst (a := 3) dX9_judge_12 rfl (by decide) ?_
      refine S_icmp_le (tgt := 19) dX9_judge_13 (by decide) rfl (fun _ => ?_) (fun _ => ?_)
      · refine S_aload_n 0 dX9_judge_19 rfl rfl rfl ?_
        refine S_getr (j := 164) (o := 164) 12 qC_9 (by decide) (by decide) qk_0 rfl rfl (by decide) tw_393 dX9_judge_20 rfl ?_
        refine S_iload_n 1 dX9_judge_23 rfl rfl rfl ?_
        refine S_aald (j := (168 + 2 * a1.toNat)) (C := "BottlePost$Tray") (N := 4) qk_164 (by decide) (by decide) (fun _ => rfl) rfl dX9_judge_24 rfl (fun g18 g19 => (qel_164 g18 g19).2) (fun g18 g19 => ?_)
        refine S_callV_i (as := []) (st := []) (fun _ => rfl) (TX6_missing (168 + 2 * a1.toNat) (qel_164 g18 g19).1 h16) yv_X6_missing tw_943 qC_6 (qel_164 g18 g19).1 (by decide) rfl rfl (Nat.le_of_ble_eq_true rfl) dX9_judge_25 rfl (fun r20 h21 e22 => ?_)
        refine S_if_eq (tgt := 34) dX9_judge_28 (by decide) rfl (fun _ => ?_) (fun _ => ?_)
        · refine S_aload_n 0 dX9_judge_34 rfl rfl rfl ?_
          refine S_getr (j := 34) (o := 34) 6 qC_9 (by decide) (by decide) qk_0 rfl rfl (by decide) tw_387 dX9_judge_35 rfl ?_
          refine S_aload_n 0 dX9_judge_38 rfl rfl rfl ?_
          refine S_getr (j := 24) (o := 24) 5 qC_9 (by decide) (by decide) qk_0 rfl rfl (by decide) tw_386 dX9_judge_39 rfl ?_
          refine S_callV_0 (as := [qr 24]) (st := []) (fun _ => rfl) (TX7_takeFrom 34 24 qk_34 qk_24 h21) yv_X7_takeFrom tw_947 qC_7 qk_34 (by decide) rfl rfl (Nat.le_of_ble_eq_true rfl) dX9_judge_42 rfl (fun r23 h24 e25 => ?_)
          refine S_aload_n 0 dX9_judge_45 rfl rfl rfl ?_
          refine S_aload_n 0 dX9_judge_46 rfl rfl rfl ?_
          refine S_getr (j := 34) (o := 34) 6 qC_9 (by decide) (by decide) qk_0 rfl rfl (by decide) tw_387 dX9_judge_47 rfl ?_
          refine S_aload_n 0 dX9_judge_50 rfl rfl rfl ?_
          refine S_getr (j := 164) (o := 164) 12 qC_9 (by decide) (by decide) qk_0 rfl rfl (by decide) tw_393 dX9_judge_51 rfl ?_
          refine S_iload_n 1 dX9_judge_54 rfl rfl rfl ?_
          refine S_aald (j := (168 + 2 * a1.toNat)) (C := "BottlePost$Tray") (N := 4) qk_164 (by decide) (by decide) (fun _ => rfl) rfl dX9_judge_55 rfl (fun g26 g27 => (qel_164 g26 g27).2) (fun g26 g27 => ?_)
          refine S_callV_i (as := [qr 34, qr (168 + 2 * a1.toNat)]) (st := []) (fun _ => rfl) (TX9_doAll 34 (168 + 2 * a1.toNat) qk_34 (qel_164 g26 g27).1 h24) yv_X9_doAll tw_948 qC_9 qk_0 (by decide) rfl rfl (Nat.le_of_ble_eq_true rfl) dX9_judge_56 rfl (fun r28 h29 e30 => ?_)
          refine S_istore_n (lv' := [(3, qi r28), (0, qr 0), (1, qi a1), (2, qi a2)]) dX9_judge_59 rfl (by decide) rfl rfl ?_
          refine S_iload_n 0 dX9_judge_60 rfl rfl rfl ?_
          refine S_aload_n 1 dX9_judge_61 rfl rfl rfl ?_
          refine S_getr (j := 164) (o := 164) 12 qC_9 (by decide) (by decide) qk_0 rfl rfl (by decide) tw_393 dX9_judge_62 rfl ?_
          refine S_iload_n 2 dX9_judge_65 rfl rfl rfl ?_
          refine S_aald (j := (168 + 2 * a1.toNat)) (C := "BottlePost$Tray") (N := 4) qk_164 (by decide) (by decide) (fun _ => rfl) rfl dX9_judge_66 rfl (fun g31 g32 => (qel_164 g31 g32).2) (fun g31 g32 => ?_)
          refine S_geti 2 qC_6 (by decide) (by decide) (qel_164 g31 g32).1 tw_370 dX9_judge_67 rfl ?_
          refine S_icmp_lt (tgt := 77) dX9_judge_70 (by decide) rfl (fun _ => ?_) (fun _ => ?_)
          · refine S_iconst (a := 0) dX9_judge_77 rfl (by decide) ?_
            refine S_sub [1, 2, 3, 0] rfl ?_
            exact TX9_judge_b78 a1 a2 r28 0 h29
          · refine S_iconst (a := 1) dX9_judge_73 rfl (by decide) ?_
            refine S_goto (pc' := 78) dX9_judge_74 (by decide) ?_
            refine S_sub [1, 2, 3, 0] rfl ?_
            exact TX9_judge_b78 a1 a2 r28 1 h29
        · refine S_bipush (a := (-6)) dX9_judge_31 rfl (by decide) (by decide) ?_
          exact S_iret dX9_judge_33
      · refine S_bipush (a := (-2)) dX9_judge_16 rfl (by decide) (by decide) ?_
        exact S_iret dX9_judge_18
def DX9_keeper_b19 (a1 : Int) (a2 : Int) (a3 : Int) (a4 : Int) (b0 : Int) (h : qH) : Option (Int × qH) := (if ¬ b0 = (-2) then (if a4 < 0 then some ((-3), h) else (if a4 ≤ 30 then (if b0 = 0 then (qbd (DX2_outcome a1 a2 a3 (qw (h.1 24 2 + a4)) h) fun r1 h2 => (qbd (DX2_keeperOf r1 h2) fun r4 h5 => some (r4, h5))) else some (b0, h)) else some ((-3), h))) else some ((-2), h))
set_option maxRecDepth 100000 in
theorem TX9_keeper_b19 {L : Nat} {xs : Nat → Int32} (a1 : Int) (a2 : Int) (a3 : Int) (a4 : Int) (b0 : Int) (h : qH) : qS L xs cX9_keeper "BottlePost" 6 7 1 19 [(0, qr 0), (1, qi a1), (2, qi a2), (3, qi a3), (4, qi a4)] [qi b0] h (DX9_keeper_b19 a1 a2 a3 a4 b0 h) := by
  unfold DX9_keeper_b19
  refine S_istore (lv' := [(5, qi b0), (0, qr 0), (1, qi a1), (2, qi a2), (3, qi a3), (4, qi a4)]) dX9_keeper_19 (by decide) rfl rfl ?_
  refine S_iload 0 dX9_keeper_21 rfl rfl ?_
  refine S_bipush (a := (-2)) dX9_keeper_23 rfl (by decide) (by decide) ?_
  refine S_icmp_ne (tgt := 31) dX9_keeper_25 (by decide) rfl (fun _ => ?_) (fun _ => ?_)
  · refine S_iload 5 dX9_keeper_31 rfl rfl ?_
    refine S_if_lt (tgt := 43) dX9_keeper_33 (by decide) rfl (fun _ => ?_) (fun _ => ?_)
    · refine S_bipush (a := (-3)) dX9_keeper_43 rfl (by decide) (by decide) ?_
      exact S_iret dX9_keeper_45
    · refine S_iload 5 dX9_keeper_36 rfl rfl ?_
      refine S_bipush (a := 30) dX9_keeper_38 rfl (by decide) (by decide) ?_
      refine S_icmp_le (tgt := 46) dX9_keeper_40 (by decide) rfl (fun _ => ?_) (fun _ => ?_)
      · refine S_iload 0 dX9_keeper_46 rfl rfl ?_
        refine S_if_eq (tgt := 54) dX9_keeper_48 (by decide) rfl (fun _ => ?_) (fun _ => ?_)
        · refine S_aload_n 1 dX9_keeper_54 rfl rfl rfl ?_
          refine S_getr (j := 4) (o := 4) 3 qC_9 (by decide) (by decide) qk_0 rfl rfl (by decide) tw_384 dX9_keeper_55 rfl ?_
          refine S_iload_n 2 dX9_keeper_58 rfl rfl rfl ?_
          refine S_iload_n 3 dX9_keeper_59 rfl rfl rfl ?_
          refine S_iload_n 4 dX9_keeper_60 rfl rfl rfl ?_
          refine S_aload_n 1 dX9_keeper_61 rfl rfl rfl ?_
          refine S_getr (j := 24) (o := 24) 5 qC_9 (by decide) (by decide) qk_0 rfl rfl (by decide) tw_386 dX9_keeper_62 rfl ?_
          refine S_geti 2 qC_7 (by decide) (by decide) qk_24 tw_276 dX9_keeper_65 rfl ?_
          refine S_iload 5 dX9_keeper_68 rfl rfl ?_
          refine S_iadd dX9_keeper_70 rfl ?_
          refine S_callV_i (as := [qi a1, qi a2, qi a3, qi (qw (h.1 24 2 + a4))]) (st := []) (fun _ => rfl) (TX2_outcome a1 a2 a3 (qw (h.1 24 2 + a4)) h) yv_X2_outcome tw_1022 qC_2 qk_4 (by decide) rfl rfl (Nat.le_of_ble_eq_true rfl) dX9_keeper_71 rfl (fun r1 h2 e3 => ?_)
          refine S_callS_i (as := [qi r1]) (st := []) (fun _ => rfl) (TX2_keeperOf r1 h2) yv_X2_keeperOf tw_1027 (by decide) rfl rfl (Nat.le_of_ble_eq_true rfl) dX9_keeper_74 rfl (fun r4 h5 e6 => ?_)
          exact S_iret dX9_keeper_77
        · refine S_iload 0 dX9_keeper_51 rfl rfl ?_
          exact S_iret dX9_keeper_53
      · refine S_bipush (a := (-3)) dX9_keeper_43 rfl (by decide) (by decide) ?_
        exact S_iret dX9_keeper_45
  · refine S_bipush (a := (-2)) dX9_keeper_28 rfl (by decide) (by decide) ?_
    exact S_iret dX9_keeper_30
def DX9_keeper (a1 : Int) (a2 : Int) (a3 : Int) (a4 : Int) (h : qH) : Option (Int × qH) := (if ¬ a2 = (-1) then (qbd (DX9_pairCode a1 a2 h) fun r7 h8 => (DX9_keeper_b19 a1 a2 a3 a4 r7 h8)) else (qbd (DX9_throwerCode a1 h) fun r10 h11 => (DX9_keeper_b19 a1 a2 a3 a4 r10 h11)))
set_option maxRecDepth 100000 in
theorem TX9_keeper {L : Nat} {xs : Nat → Int32} (a1 : Int) (a2 : Int) (a3 : Int) (a4 : Int) (h : qH) : qMet L xs yX9_keeper cX9_keeper 6 (some .int) 1 7 [qr 0, qi a1, qi a2, qi a3, qi a4] h (DX9_keeper a1 a2 a3 a4 h) := by
  refine qMet.of (by decide +kernel) (Or.inr (Or.inl ⟨rfl, rfl⟩)) (Nat.le_of_ble_eq_true rfl) ?_
  show qS L xs cX9_keeper "BottlePost" 6 7 1 0 [(0, qr 0), (1, qi a1), (2, qi a2), (3, qi a3), (4, qi a4)] [] h (DX9_keeper a1 a2 a3 a4 h)
  unfold DX9_keeper
  refine S_iload_n 2 dX9_keeper_0 rfl rfl rfl ?_
  refine S_iconst (a := (-1)) dX9_keeper_1 rfl (by decide) ?_
  refine S_icmp_ne (tgt := 13) dX9_keeper_2 (by decide) rfl (fun _ => ?_) (fun _ => ?_)
  · refine S_aload_n 0 dX9_keeper_13 rfl rfl rfl ?_
    refine S_iload_n 1 dX9_keeper_14 rfl rfl rfl ?_
    refine S_iload_n 2 dX9_keeper_15 rfl rfl rfl ?_
    refine S_callV_i (as := [qi a1, qi a2]) (st := []) (fun _ => rfl) (TX9_pairCode a1 a2 h) yv_X9_pairCode tw_1018 qC_9 qk_0 (by decide) rfl rfl (Nat.le_of_ble_eq_true rfl) dX9_keeper_16 rfl (fun r7 h8 e9 => ?_)
    exact TX9_keeper_b19 a1 a2 a3 a4 r7 h8
  · refine S_aload_n 0 dX9_keeper_5 rfl rfl rfl ?_
    refine S_iload_n 1 dX9_keeper_6 rfl rfl rfl ?_
    refine S_callV_i (as := [qi a1]) (st := []) (fun _ => rfl) (TX9_throwerCode a1 h) yv_X9_throwerCode tw_1014 qC_9 qk_0 (by decide) rfl rfl (Nat.le_of_ble_eq_true rfl) dX9_keeper_7 rfl (fun r10 h11 e12 => ?_)
    refine S_goto (pc' := 19) dX9_keeper_10 (by decide) ?_
    exact TX9_keeper_b19 a1 a2 a3 a4 r10 h11
def DX9_keepers_l17 : Nat → Int → Int → Int → qH → Option (Int × qH)
  | 0, _, _, _, _ => none
  | n + 1, a1, a2, a3, h => (if h.1 5 14 ≤ a3 then some (a2, h) else (qbd (DX2_outcome a3 (-1) 0 (qw (h.1 24 2 + a1)) h) fun r1 h2 => (qbd (DX2_keeperOf r1 h2) fun r4 h5 => (if r4 = (-1) then ((DX9_keepers_l17 n) a1 a2 (qw (a3 + 1)) h5) else (qlt (qor a2 (qshl 1 r4)) fun v7 => ((DX9_keepers_l17 n) a1 v7 (qw (a3 + 1)) h5))))))
set_option maxRecDepth 100000 in
theorem TX9_keepers_l17 {L : Nat} {xs : Nat → Int32} : ∀ (n : Nat) (a1 : Int) (a2 : Int) (a3 : Int) (h : qH), qS L xs cX9_keepers "BottlePost" 5 7 1 17 [(0, qr 0), (1, qi a1), (2, qi a2), (3, qi a3)] [] h (DX9_keepers_l17 n a1 a2 a3 h) := by
  intro n
  induction n with
  | zero =>
    intro a1 a2 a3 h
    exact S_none
  | succ n ih =>
    intro a1 a2 a3 h
    rw [DX9_keepers_l17.eq_2]
    refine S_iload_n 3 dX9_keepers_17 rfl rfl rfl ?_
    refine S_aload_n 0 dX9_keepers_18 rfl rfl rfl ?_
    refine S_getr (j := 5) (o := 5) 4 qC_9 (by decide) (by decide) qk_0 rfl rfl (by decide) tw_385 dX9_keepers_19 rfl ?_
    refine S_geti 14 qC_1 (by decide) (by decide) qk_5 tw_87 dX9_keepers_22 rfl ?_
    refine S_icmp_ge (tgt := 71) dX9_keepers_25 (by decide) rfl (fun _ => ?_) (fun _ => ?_)
    · refine S_iload_n 2 dX9_keepers_71 rfl rfl rfl ?_
      exact S_iret dX9_keepers_72
    · refine S_aload_n 0 dX9_keepers_28 rfl rfl rfl ?_
      refine S_getr (j := 4) (o := 4) 3 qC_9 (by decide) (by decide) qk_0 rfl rfl (by decide) tw_384 dX9_keepers_29 rfl ?_
      refine S_iload_n 3 dX9_keepers_32 rfl rfl rfl ?_
      refine S_iconst (a := (-1)) dX9_keepers_33 rfl (by decide) ?_
      refine S_iconst (a := 0) dX9_keepers_34 rfl (by decide) ?_
      refine S_aload_n 0 dX9_keepers_35 rfl rfl rfl ?_
      refine S_getr (j := 24) (o := 24) 5 qC_9 (by decide) (by decide) qk_0 rfl rfl (by decide) tw_386 dX9_keepers_36 rfl ?_
      refine S_geti 2 qC_7 (by decide) (by decide) qk_24 tw_276 dX9_keepers_39 rfl ?_
      refine S_iload_n 1 dX9_keepers_42 rfl rfl rfl ?_
      refine S_iadd dX9_keepers_43 rfl ?_
      refine S_callV_i (as := [qi a3, qi (-1), qi 0, qi (qw (h.1 24 2 + a1))]) (st := []) (fun _ => rfl) (TX2_outcome a3 (-1) 0 (qw (h.1 24 2 + a1)) h) yv_X2_outcome tw_1022 qC_2 qk_4 (by decide) rfl rfl (Nat.le_of_ble_eq_true rfl) dX9_keepers_44 rfl (fun r1 h2 e3 => ?_)
      refine S_callS_i (as := [qi r1]) (st := []) (fun _ => rfl) (TX2_keeperOf r1 h2) yv_X2_keeperOf tw_1027 (by decide) rfl rfl (Nat.le_of_ble_eq_true rfl) dX9_keepers_47 rfl (fun r4 h5 e6 => ?_)
      refine S_istore (lv' := [(4, qi r4), (0, qr 0), (1, qi a1), (2, qi a2), (3, qi a3)]) dX9_keepers_50 (by decide) rfl rfl ?_
      refine S_iload 0 dX9_keepers_52 rfl rfl ?_
      refine S_iconst (a := (-1)) dX9_keepers_54 rfl (by decide) ?_
      refine S_icmp_eq (tgt := 65) dX9_keepers_55 (by decide) rfl (fun _ => ?_) (fun _ => ?_)
      · refine S_iinc (lv' := [(3, qi (qw (a3 + 1))), (4, qi r4), (0, qr 0), (1, qi a1), (2, qi a2)]) 4 dX9_keepers_65 rfl (by decide) rfl rfl ?_
        refine S_goto (pc' := 17) dX9_keepers_68 (by decide) ?_
        refine S_sub [2, 3, 4, 0] rfl ?_
        exact ih a1 a2 (qw (a3 + 1)) h5
      · refine S_iload_n 3 dX9_keepers_58 rfl rfl rfl ?_
        refine S_iconst (a := 1) dX9_keepers_59 rfl (by decide) ?_
        refine S_iload 0 dX9_keepers_60 rfl rfl ?_
        refine S_ishl dX9_keepers_62 rfl ?_
        refine S_ior dX9_keepers_63 rfl ?_
        refine S_istore_n (lv' := [(2, qi (qor a2 (qshl 1 r4))), (4, qi r4), (0, qr 0), (1, qi a1), (3, qi a3)]) dX9_keepers_64 rfl (by decide) rfl rfl ?_
        refine S_li (fun v7 => ?_)
        refine S_iinc (lv' := [(3, qi (qw (a3 + 1))), (2, qi v7), (4, qi r4), (0, qr 0), (1, qi a1)]) 4 dX9_keepers_65 rfl (by decide) rfl rfl ?_
        refine S_goto (pc' := 17) dX9_keepers_68 (by decide) ?_
        refine S_sub [3, 4, 1, 0] rfl ?_
        exact ih a1 v7 (qw (a3 + 1)) h5
def DX9_keepers (a1 : Int) (h : qH) : Option (Int × qH) := (if a1 < 0 then some ((-3), h) else (if a1 ≤ 30 then (DX9_keepers_l17 LF a1 0 0 h) else some ((-3), h)))
set_option maxRecDepth 100000 in
theorem TX9_keepers {L : Nat} {xs : Nat → Int32} (a1 : Int) (h : qH) : qMet L xs yX9_keepers cX9_keepers 5 (some .int) 1 7 [qr 0, qi a1] h (DX9_keepers a1 h) := by
  refine qMet.of (by decide +kernel) (Or.inr (Or.inl ⟨rfl, rfl⟩)) (Nat.le_of_ble_eq_true rfl) ?_
  show qS L xs cX9_keepers "BottlePost" 5 7 1 0 [(0, qr 0), (1, qi a1)] [] h (DX9_keepers a1 h)
  unfold DX9_keepers
  refine S_iload_n 1 dX9_keepers_0 rfl rfl rfl ?_
  refine S_if_lt (tgt := 10) dX9_keepers_1 (by decide) rfl (fun _ => ?_) (fun _ => ?_)
  · refine S_bipush (a := (-3)) dX9_keepers_10 rfl (by decide) (by decide) ?_
    exact S_iret dX9_keepers_12
  · refine S_iload_n 1 dX9_keepers_4 rfl rfl rfl ?_
    refine S_bipush (a := 30) dX9_keepers_5 rfl (by decide) (by decide) ?_
    refine S_icmp_le (tgt := 13) dX9_keepers_7 (by decide) rfl (fun _ => ?_) (fun _ => ?_)
    · refine S_iconst (a := 0) dX9_keepers_13 rfl (by decide) ?_
      refine S_istore_n (lv' := [(2, qi 0), (0, qr 0), (1, qi a1)]) dX9_keepers_14 rfl (by decide) rfl rfl ?_
      refine S_iconst (a := 0) dX9_keepers_15 rfl (by decide) ?_
      refine S_istore_n (lv' := [(3, qi 0), (2, qi 0), (0, qr 0), (1, qi a1)]) dX9_keepers_16 rfl (by decide) rfl rfl ?_
      refine S_sub [2, 3, 1, 0] rfl ?_
      exact TX9_keepers_l17 LF a1 0 0 h
    · refine S_bipush (a := (-3)) dX9_keepers_10 rfl (by decide) (by decide) ?_
      exact S_iret dX9_keepers_12
def DX3_commit (h : qH) : Option (Int × qH) := (if 10 ≤ h.1 44 2 then (qbd (DJ9_floorMod_7cf53 (qw (h.1 44 1 + 1)) 11 h) fun r1 h2 => (qlt (qu h2 44 1 r1) fun h4 => some (0, h4))) else (qlt (qu h 44 2 (qw (h.1 44 2 + 1))) fun h5 => some (0, h5)))
set_option maxRecDepth 100000 in
theorem TX3_commit {L : Nat} {xs : Nat → Int32} (h : qH) : qMet L xs yX3_commit cX3_commit 1 (none) 0 2 [qr 44] h (DX3_commit h) := by
  refine qMet.of (by decide +kernel) (Or.inl ⟨rfl, rfl⟩) (Nat.le_of_ble_eq_true rfl) ?_
  show qS L xs cX3_commit "BottlePost$Past" 1 2 0 0 [(0, qr 44)] [] h (DX3_commit h)
  unfold DX3_commit
  refine S_aload_n 0 dX3_commit_0 rfl rfl rfl ?_
  refine S_geti 2 qC_3 (by decide) (by decide) qk_44 tw_295 dX3_commit_1 rfl ?_
  refine S_bipush (a := 10) dX3_commit_4 rfl (by decide) (by decide) ?_
  refine S_icmp_ge (tgt := 22) dX3_commit_6 (by decide) rfl (fun _ => ?_) (fun _ => ?_)
  · refine S_aload_n 0 dX3_commit_22 rfl rfl rfl ?_
    refine S_aload_n 0 dX3_commit_23 rfl rfl rfl ?_
    refine S_geti 1 qC_3 (by decide) (by decide) qk_44 tw_294 dX3_commit_24 rfl ?_
    refine S_iconst (a := 1) dX3_commit_27 rfl (by decide) ?_
    refine S_iadd dX3_commit_28 rfl ?_
    refine S_bipush (a := 11) dX3_commit_29 rfl (by decide) (by decide) ?_
    refine S_callS_i (as := [qi (qw (h.1 44 1 + 1)), qi 11]) (st := [qr 44]) (fun _ => rfl) (TJ9_floorMod_7cf53 (qw (h.1 44 1 + 1)) 11 h) yv_J9_floorMod_7cf53 tw_844 (by decide) rfl rfl (Nat.le_of_ble_eq_true rfl) dX3_commit_31 rfl (fun r1 h2 e3 => ?_)
    refine S_puti 1 qC_3 (by decide) (by decide) rfl rfl qk_44 (by decide) tw_294 dX3_commit_34 rfl ?_
    refine S_lh (fun h4 => ?_)
    exact S_vret dX3_commit_37
  · refine S_aload_n 0 dX3_commit_9 rfl rfl rfl ?_
    refine S_dup dX3_commit_10 rfl rfl ?_
    refine S_geti 2 qC_3 (by decide) (by decide) qk_44 tw_295 dX3_commit_11 rfl ?_
    refine S_iconst (a := 1) dX3_commit_14 rfl (by decide) ?_
    refine S_iadd dX3_commit_15 rfl ?_
    refine S_puti 2 qC_3 (by decide) (by decide) rfl rfl qk_44 (by decide) tw_295 dX3_commit_16 rfl ?_
    refine S_lh (fun h5 => ?_)
    refine S_goto (pc' := 37) dX3_commit_19 (by decide) ?_
    exact S_vret dX3_commit_37
def DX3_slot (a1 : Int) (h : qH) : Option (Int × qH) := (qbd (DJ9_floorMod_7cf53 (qw (h.1 44 1 + a1)) 11 h) fun r1 h2 => (if 0 ≤ r1 ∧ r1 < 11 then some ((((46 + 10 * r1.toNat) : Nat) : Int), h2) else none))
set_option maxRecDepth 100000 in
theorem TX3_slot {L : Nat} {xs : Nat → Int32} (a1 : Int) (h : qH) : qMet L xs yX3_slot cX3_slot 2 (some (.object "BottlePost$Waters")) 3 2 [qr 44, qi a1] h (DX3_slot a1 h) := by
  refine qMet.of (by decide +kernel) (Or.inr (Or.inr (Or.inr (Or.inl ⟨rfl, _, rfl⟩)))) (Nat.le_of_ble_eq_true rfl) ?_
  show qS L xs cX3_slot "BottlePost$Past" 2 2 3 0 [(0, qr 44), (1, qi a1)] [] h (DX3_slot a1 h)
  unfold DX3_slot
  refine S_aload_n 0 dX3_slot_0 rfl rfl rfl ?_
  refine S_getr (j := 45) (o := 1) 0 qC_3 (by decide) (by decide) qk_44 rfl rfl (by decide) tw_293 dX3_slot_1 rfl ?_
  refine S_aload_n 0 dX3_slot_4 rfl rfl rfl ?_
  refine S_geti 1 qC_3 (by decide) (by decide) qk_44 tw_294 dX3_slot_5 rfl ?_
  refine S_iload_n 1 dX3_slot_8 rfl rfl rfl ?_
  refine S_iadd dX3_slot_9 rfl ?_
  refine S_bipush (a := 11) dX3_slot_10 rfl (by decide) (by decide) ?_
  refine S_callS_i (as := [qi (qw (h.1 44 1 + a1)), qi 11]) (st := [qr 45]) (fun _ => rfl) (TJ9_floorMod_7cf53 (qw (h.1 44 1 + a1)) 11 h) yv_J9_floorMod_7cf53 tw_844 (by decide) rfl rfl (Nat.le_of_ble_eq_true rfl) dX3_slot_12 rfl (fun r1 h2 e3 => ?_)
  refine S_aald (j := (46 + 10 * r1.toNat)) (C := "BottlePost$Waters") (N := 11) qk_45 (by decide) (by decide) (fun _ => rfl) rfl dX3_slot_15 rfl (fun g4 g5 => (qel_45 g4 g5).2) (fun g4 g5 => ?_)
  exact S_aret dX3_slot_16
theorem TX3_slot_ty {a1 : Int} {h h1 : qH} {r : Int} (e : DX3_slot a1 h = some (r, h1)) : qK r.toNat = (7, 3) := by
  unfold DX3_slot at e
  generalize DJ9_floorMod_7cf53 _ _ h = X at e
  cases X with
  | none => cases e
  | some q =>
    change (if 0 ≤ q.1 ∧ q.1 < 11 then some (((46 + 10 * q.1.toNat : Nat) : Int), q.2) else none) = some (r, h1) at e
    split at e
    · next g =>
      have e1 : ((46 + 10 * q.1.toNat : Nat) : Int) = r := congrArg Prod.fst (Option.some.inj e)
      rw [← e1, Int.toNat_natCast]
      exact (qel_45 g.1 g.2).1
    · cases e
def DX3_draft (i1 : Nat) (h : qH) : Option (Int × qH) := (qbd (DX3_slot (h.1 44 2) h) fun r1 h2 => (qbd (DX7_takeFrom r1.toNat i1 h2) fun r4 h5 => some (0, h5)))
set_option maxRecDepth 100000 in
theorem TX3_draft {L : Nat} {xs : Nat → Int32} (i1 : Nat) (t1 : qK i1 = (7, 3)) (h : qH) : qMet L xs yX3_draft cX3_draft 2 (none) 0 3 [qr 44, qr i1] h (DX3_draft i1 h) := by
  refine qMet.of (by decide +kernel) (Or.inl ⟨rfl, rfl⟩) (Nat.le_of_ble_eq_true rfl) ?_
  show qS L xs cX3_draft "BottlePost$Past" 2 3 0 0 [(0, qr 44), (1, qr i1)] [] h (DX3_draft i1 h)
  unfold DX3_draft
  refine S_aload_n 0 dX3_draft_0 rfl rfl rfl ?_
  refine S_aload_n 0 dX3_draft_1 rfl rfl rfl ?_
  refine S_geti 2 qC_3 (by decide) (by decide) qk_44 tw_295 dX3_draft_2 rfl ?_
  refine S_callV_r (as := [qi (h.1 44 2)]) (st := []) (fun _ => rfl) (TX3_slot (h.1 44 2) h) yv_X3_slot tw_840 qC_3 qk_44 (by decide) rfl rfl (Nat.le_of_ble_eq_true rfl) dX3_draft_5 rfl (fun r1 h2 e3 => ?_)
  refine S_aload_n 1 dX3_draft_8 rfl rfl rfl ?_
  refine S_callV_0 (as := [qr i1]) (st := []) (fun _ => rfl) (TX7_takeFrom r1.toNat i1 (TX3_slot_ty e3) t1 h2) yv_X7_takeFrom tw_845 qC_7 (TX3_slot_ty e3) (by decide) rfl rfl (Nat.le_of_ble_eq_true rfl) dX3_draft_9 rfl (fun r4 h5 e6 => ?_)
  exact S_vret dX3_draft_12
def DX9_lift (a1 : Int) (h : qH) : Option (Int × qH) := (qbd (DX7_whyNotLifted 24 a1 h) fun r1 h2 => (if ¬ r1 = 0 then some (qw ((-10) - r1), h2) else (qbd (DX7_has 24 a1 h2) fun r4 h5 => (if ¬ r4 = 0 then (qbd (DX3_draft 24 h5) fun r7 h8 => (qbd (DX3_commit h8) fun r10 h11 => (qbd (DX7_raise 24 a1 h11) fun r13 h14 => (if 0 ≤ a1 ∧ a1 < 8 then some (h14.1 (26 + a1.toNat) 1, h14) else none)))) else some (qw ((-10) - r1), h5)))))
set_option maxRecDepth 100000 in
theorem TX9_lift {L : Nat} {xs : Nat → Int32} (a1 : Int) (h : qH) : qMet L xs yX9_lift cX9_lift 3 (some .int) 1 4 [qr 0, qi a1] h (DX9_lift a1 h) := by
  refine qMet.of (by decide +kernel) (Or.inr (Or.inl ⟨rfl, rfl⟩)) (Nat.le_of_ble_eq_true rfl) ?_
  show qS L xs cX9_lift "BottlePost" 3 4 1 0 [(0, qr 0), (1, qi a1)] [] h (DX9_lift a1 h)
  unfold DX9_lift
  refine S_aload_n 0 dX9_lift_0 rfl rfl rfl ?_
  refine S_getr (j := 24) (o := 24) 5 qC_9 (by decide) (by decide) qk_0 rfl rfl (by decide) tw_386 dX9_lift_1 rfl ?_
  refine S_iload_n 1 dX9_lift_4 rfl rfl rfl ?_
  refine S_callV_i (as := [qi a1]) (st := []) (fun _ => rfl) (TX7_whyNotLifted 24 a1 qk_24 h) yv_X7_whyNotLifted tw_919 qC_7 qk_24 (by decide) rfl rfl (Nat.le_of_ble_eq_true rfl) dX9_lift_5 rfl (fun r1 h2 e3 => ?_)
  refine S_istore_n (lv' := [(2, qi r1), (0, qr 0), (1, qi a1)]) dX9_lift_8 rfl (by decide) rfl rfl ?_
  refine S_iload_n 0 dX9_lift_9 rfl rfl rfl ?_
  refine S_if_ne (tgt := 24) dX9_lift_10 (by decide) rfl (fun _ => ?_) (fun _ => ?_)
  · refine S_bipush (a := (-10)) dX9_lift_24 rfl (by decide) (by decide) ?_
    refine S_iload_n 0 dX9_lift_26 rfl rfl rfl ?_
    refine S_isub dX9_lift_27 rfl ?_
    exact S_iret dX9_lift_28
  · refine S_aload_n 1 dX9_lift_13 rfl rfl rfl ?_
    refine S_getr (j := 24) (o := 24) 5 qC_9 (by decide) (by decide) qk_0 rfl rfl (by decide) tw_386 dX9_lift_14 rfl ?_
    refine S_iload_n 2 dX9_lift_17 rfl rfl rfl ?_
    refine S_callV_i (as := [qi a1]) (st := []) (fun _ => rfl) (TX7_has 24 a1 qk_24 h2) yv_X7_has tw_822 qC_7 qk_24 (by decide) rfl rfl (Nat.le_of_ble_eq_true rfl) dX9_lift_18 rfl (fun r4 h5 e6 => ?_)
    refine S_if_ne (tgt := 29) dX9_lift_21 (by decide) rfl (fun _ => ?_) (fun _ => ?_)
    · refine S_aload_n 1 dX9_lift_29 rfl rfl rfl ?_
      refine S_getr (j := 44) (o := 44) 7 qC_9 (by decide) (by decide) qk_0 rfl rfl (by decide) tw_388 dX9_lift_30 rfl ?_
      refine S_aload_n 1 dX9_lift_33 rfl rfl rfl ?_
      refine S_getr (j := 24) (o := 24) 5 qC_9 (by decide) (by decide) qk_0 rfl rfl (by decide) tw_386 dX9_lift_34 rfl ?_
      refine S_callV_0 (as := [qr 24]) (st := []) (fun _ => rfl) (TX3_draft 24 qk_24 h5) yv_X3_draft tw_836 qC_3 qk_44 (by decide) rfl rfl (Nat.le_of_ble_eq_true rfl) dX9_lift_37 rfl (fun r7 h8 e9 => ?_)
      refine S_aload_n 1 dX9_lift_40 rfl rfl rfl ?_
      refine S_getr (j := 44) (o := 44) 7 qC_9 (by decide) (by decide) qk_0 rfl rfl (by decide) tw_388 dX9_lift_41 rfl ?_
      refine S_callV_0 (as := []) (st := []) (fun _ => rfl) (TX3_commit h8) yv_X3_commit tw_853 qC_3 qk_44 (by decide) rfl rfl (Nat.le_of_ble_eq_true rfl) dX9_lift_44 rfl (fun r10 h11 e12 => ?_)
      refine S_aload_n 1 dX9_lift_47 rfl rfl rfl ?_
      refine S_getr (j := 24) (o := 24) 5 qC_9 (by decide) (by decide) qk_0 rfl rfl (by decide) tw_386 dX9_lift_48 rfl ?_
      refine S_iload_n 2 dX9_lift_51 rfl rfl rfl ?_
      refine S_callV_0 (as := [qi a1]) (st := []) (fun _ => rfl) (TX7_raise 24 a1 qk_24 h11) yv_X7_raise tw_924 qC_7 qk_24 (by decide) rfl rfl (Nat.le_of_ble_eq_true rfl) dX9_lift_52 rfl (fun r13 h14 e15 => ?_)
      refine S_aload_n 1 dX9_lift_55 rfl rfl rfl ?_
      refine S_getr (j := 24) (o := 24) 5 qC_9 (by decide) (by decide) qk_0 rfl rfl (by decide) tw_386 dX9_lift_56 rfl ?_
      refine S_getr (j := 25) (o := 1) 0 qC_7 (by decide) (by decide) qk_24 rfl rfl (by decide) tw_272 dX9_lift_59 rfl ?_
      refine S_iload_n 2 dX9_lift_62 rfl rfl rfl ?_
      refine S_aald (j := (26 + a1.toNat)) (C := "BottlePost$Bottle") (N := 8) qk_25 (by decide) (by decide) (fun _ => rfl) rfl dX9_lift_63 rfl (fun g16 g17 => (qel_25 qk_25 g16 g17).2) (fun g16 g17 => ?_)
      refine S_geti 1 qC_0 (by decide) (by decide) (qel_25 qk_25 g16 g17).1 tw_199 dX9_lift_64 rfl ?_
      exact S_iret dX9_lift_67
    · refine S_bipush (a := (-10)) dX9_lift_24 rfl (by decide) (by decide) ?_
      refine S_iload_n 0 dX9_lift_26 rfl rfl rfl ?_
      refine S_isub dX9_lift_27 rfl ?_
      exact S_iret dX9_lift_28
def DX6_cut (i0 : Nat) (a1 : Int) (h : qH) : Option (Int × qH) := (if h.1 i0 1 = 0 then some (qb8 (qw a1), h) else (if h.1 i0 1 = 1 then some (qs16 (qw a1), h) else (if h.1 i0 1 = 2 then some (qw a1, h) else some (a1, h))))
set_option maxRecDepth 100000 in
theorem TX6_cut {L : Nat} {xs : Nat → Int32} (i0 : Nat) (a1 : Int) (t0 : qK i0 = (6, 3)) (h : qH) : qMet L xs yX6_cut cX6_cut 3 (some .long) 2 1 [qr i0, ql a1] h (DX6_cut i0 a1 h) := by
  refine qMet.of (by decide +kernel) (Or.inr (Or.inr (Or.inl ⟨rfl, rfl⟩))) (Nat.le_of_ble_eq_true rfl) ?_
  show qS L xs cX6_cut "BottlePost$Tray" 3 1 2 0 [(0, qr i0), (1, ql a1)] [] h (DX6_cut i0 a1 h)
  unfold DX6_cut
  refine S_aload_n 0 dX6_cut_0 rfl rfl rfl ?_
  refine S_geti 1 qC_6 (by decide) (by decide) t0 tw_367 dX6_cut_1 rfl ?_
  refine S_ite (fun g1 => ?_) (fun g1 => ?_)
  · refine S_tabIn (a0 := 0) (off := 28) (pc' := 32) dX6_cut_4 g1 (by decide) (by decide) rfl (by decide) ?_
    refine S_lload_n 1 dX6_cut_32 rfl rfl rfl ?_
    refine S_l2i dX6_cut_33 rfl ?_
    refine S_i2b dX6_cut_34 rfl ?_
    refine S_i2l dX6_cut_35 rfl ?_
    exact S_lret dX6_cut_36
  · refine S_ite (fun g2 => ?_) (fun g2 => ?_)
    · refine S_tabIn (a0 := 1) (off := 33) (pc' := 37) dX6_cut_4 g2 (by decide) (by decide) rfl (by decide) ?_
      refine S_lload_n 1 dX6_cut_37 rfl rfl rfl ?_
      refine S_l2i dX6_cut_38 rfl ?_
      refine S_i2s dX6_cut_39 rfl ?_
      refine S_i2l dX6_cut_40 rfl ?_
      exact S_lret dX6_cut_41
    · refine S_ite (fun g3 => ?_) (fun g3 => ?_)
      · refine S_tabIn (a0 := 2) (off := 38) (pc' := 42) dX6_cut_4 g3 (by decide) (by decide) rfl (by decide) ?_
        refine S_lload_n 1 dX6_cut_42 rfl rfl rfl ?_
        refine S_l2i dX6_cut_43 rfl ?_
        refine S_i2l dX6_cut_44 rfl ?_
        exact S_lret dX6_cut_45
      · refine S_tabOut (pc' := 46) dX6_cut_4 (by omega) (by decide) ?_
        refine S_lload_n 1 dX6_cut_46 rfl rfl rfl ?_
        exact S_lret dX6_cut_47
def DX6_put (i0 : Nat) (a1 : Int) (a2 : Int) (h : qH) : Option (Int × qH) := (if a1 < 0 then some (0, h) else (if 40 ≤ a1 then some (0, h) else (qbd (DX6_cut i0 a2 h) fun r1 h2 => (if 0 ≤ a1 ∧ a1 < 40 then qlt (qu h2 (i0 + 1) a1.toNat r1) fun h4 => some (0, h4) else none))))
set_option maxRecDepth 100000 in
theorem TX6_put {L : Nat} {xs : Nat → Int32} (i0 : Nat) (a1 : Int) (a2 : Int) (t0 : qK i0 = (6, 3)) (h : qH) : qMet L xs yX6_put cX6_put 4 (none) 0 2 [qr i0, qi a1, ql a2] h (DX6_put i0 a1 a2 h) := by
  refine qMet.of (by decide +kernel) (Or.inl ⟨rfl, rfl⟩) (Nat.le_of_ble_eq_true rfl) ?_
  show qS L xs cX6_put "BottlePost$Tray" 4 2 0 0 [(0, qr i0), (1, qi a1), (2, ql a2)] [] h (DX6_put i0 a1 a2 h)
  unfold DX6_put
  refine S_iload_n 1 dX6_put_0 rfl rfl rfl ?_
  refine S_if_lt (tgt := 24) dX6_put_1 (by decide) rfl (fun _ => ?_) (fun _ => ?_)
  · exact S_vret dX6_put_24
  · refine S_iload_n 1 dX6_put_4 rfl rfl rfl ?_
    refine S_aload_n 0 dX6_put_5 rfl rfl rfl ?_
    refine S_getr (j := (i0 + 1)) (o := 1) 0 qC_6 (by decide) (by decide) t0 rfl rfl (qf_6_0 t0).2 tw_366 dX6_put_6 rfl ?_
    refine S_alen (N := 40) (qf_6_0 t0).1 (by decide) (by decide) rfl (by decide) dX6_put_9 rfl ?_
    refine S_icmp_ge (tgt := 24) dX6_put_10 (by decide) rfl (fun _ => ?_) (fun _ => ?_)
    · exact S_vret dX6_put_24
    · refine S_aload_n 0 dX6_put_13 rfl rfl rfl ?_
      refine S_getr (j := (i0 + 1)) (o := 1) 0 qC_6 (by decide) (by decide) t0 rfl rfl (qf_6_0 t0).2 tw_366 dX6_put_14 rfl ?_
      refine S_iload_n 1 dX6_put_17 rfl rfl rfl ?_
      refine S_aload_n 0 dX6_put_18 rfl rfl rfl ?_
      refine S_lload_n 2 dX6_put_19 rfl rfl rfl ?_
      refine S_callV_l (as := [ql a2]) (st := [qi a1, qr (i0 + 1)]) (fun _ => rfl) (TX6_cut i0 a2 t0 h) yv_X6_cut tw_1197 qC_6 t0 (by decide) rfl rfl (Nat.le_of_ble_eq_true rfl) dX6_put_20 rfl (fun r1 h2 e3 => ?_)
      refine S_last (N := 40) (qf_6_0 t0).1 rfl dX6_put_23 rfl (fun _ _ => ?_)
      refine S_lh (fun h4 => ?_)
      exact S_vret dX6_put_24
def DX9_lists_l57 : Nat → Nat → Int → qH → Option (Int × qH)
  | 0, _, _, _ => none
  | n + 1, i3, a4, h => (if h.1 i3 2 ≤ a4 then some (h.1 i3 2, h) else (qbd (DX0_place 156 h) fun r1 h2 => (qbd (DX6_put i3 a4 r1 h2) fun r4 h5 => (qbd (DX2_carry 156 (qw (h5.1 24 2 + a4)) h5) fun r7 h8 => ((DX9_lists_l57 n) i3 (qw (a4 + 1)) h8)))))
set_option maxRecDepth 100000 in
theorem TX9_lists_l57 {L : Nat} {xs : Nat → Int32} : ∀ (n : Nat) (i3 : Nat) (a4 : Int) (t3 : qK i3 = (6, 3)) (h : qH), qS L xs cX9_lists "BottlePost" 5 6 1 57 [(0, qr 0), (3, qr i3), (4, qi a4)] [] h (DX9_lists_l57 n i3 a4 h) := by
  intro n
  induction n with
  | zero =>
    intro i3 a4 t3 h
    exact S_none
  | succ n ih =>
    intro i3 a4 t3 h
    rw [DX9_lists_l57.eq_2]
    refine S_iload 2 dX9_lists_57 rfl rfl ?_
    refine S_aload_n 1 dX9_lists_59 rfl rfl rfl ?_
    refine S_geti 2 qC_6 (by decide) (by decide) t3 tw_370 dX9_lists_60 rfl ?_
    refine S_icmp_ge (tgt := 107) dX9_lists_63 (by decide) rfl (fun _ => ?_) (fun _ => ?_)
    · refine S_aload_n 1 dX9_lists_107 rfl rfl rfl ?_
      refine S_geti 2 qC_6 (by decide) (by decide) t3 tw_370 dX9_lists_108 rfl ?_
      exact S_iret dX9_lists_111
    · refine S_aload_n 1 dX9_lists_66 rfl rfl rfl ?_
      refine S_iload 2 dX9_lists_67 rfl rfl ?_
      refine S_aload_n 0 dX9_lists_69 rfl rfl rfl ?_
      refine S_getr (j := 156) (o := 156) 8 qC_9 (by decide) (by decide) qk_0 rfl rfl (by decide) tw_389 dX9_lists_70 rfl ?_
      refine S_callV_i (as := []) (st := [qi a4, qr i3]) (fun _ => rfl) (TX0_place 156 qk_156 h) yv_X0_place tw_1002 qC_0 qk_156 (by decide) rfl rfl (Nat.le_of_ble_eq_true rfl) dX9_lists_73 rfl (fun r1 h2 e3 => ?_)
      refine S_i2l dX9_lists_76 rfl ?_
      refine S_callV_0 (as := [qi a4, ql r1]) (st := []) (fun _ => rfl) (TX6_put i3 a4 r1 t3 h2) yv_X6_put tw_1193 qC_6 t3 (by decide) rfl rfl (Nat.le_of_ble_eq_true rfl) dX9_lists_77 rfl (fun r4 h5 e6 => ?_)
      refine S_aload_n 0 dX9_lists_80 rfl rfl rfl ?_
      refine S_getr (j := 4) (o := 4) 3 qC_9 (by decide) (by decide) qk_0 rfl rfl (by decide) tw_384 dX9_lists_81 rfl ?_
      refine S_aload_n 0 dX9_lists_84 rfl rfl rfl ?_
      refine S_getr (j := 156) (o := 156) 8 qC_9 (by decide) (by decide) qk_0 rfl rfl (by decide) tw_389 dX9_lists_85 rfl ?_
      refine S_aload_n 0 dX9_lists_88 rfl rfl rfl ?_
      refine S_getr (j := 24) (o := 24) 5 qC_9 (by decide) (by decide) qk_0 rfl rfl (by decide) tw_386 dX9_lists_89 rfl ?_
      refine S_geti 2 qC_7 (by decide) (by decide) qk_24 tw_276 dX9_lists_92 rfl ?_
      refine S_iload 2 dX9_lists_95 rfl rfl ?_
      refine S_iadd dX9_lists_97 rfl ?_
      refine S_callV_0 (as := [qr 156, qi (qw (h5.1 24 2 + a4))]) (st := []) (fun _ => rfl) (TX2_carry 156 (qw (h5.1 24 2 + a4)) qk_156 h5) yv_X2_carry tw_1001 qC_2 qk_4 (by decide) rfl rfl (Nat.le_of_ble_eq_true rfl) dX9_lists_98 rfl (fun r7 h8 e9 => ?_)
      refine S_iinc (lv' := [(4, qi (qw (a4 + 1))), (0, qr 0), (3, qr i3)]) 2 dX9_lists_101 rfl (by decide) rfl rfl ?_
      refine S_goto (pc' := 57) dX9_lists_104 (by decide) ?_
      refine S_sub [1, 2, 0] rfl ?_
      exact ih i3 (qw (a4 + 1)) t3 h8
def DX9_lists (a1 : Int) (a2 : Int) (h : qH) : Option (Int × qH) := (qbd (DX9_isTray a1 h) fun r10 h11 => (if r10 = 0 then some ((-2), h11) else (qbd (DX7_has 24 a2 h11) fun r13 h14 => (if ¬ r13 = 0 then (if 0 ≤ a1 ∧ a1 < 4 then (qbd (DX6_missing (168 + 2 * a1.toNat) h14) fun r18 h19 => (if r18 = 0 then (if 0 ≤ a2 ∧ a2 < 8 then (qbd (DX0_takeFrom 156 (26 + a2.toNat) h19) fun r23 h24 => (DX9_lists_l57 LF (168 + 2 * a1.toNat) 0 h24)) else none) else some ((-6), h19))) else none) else some ((-2), h14)))))
set_option maxRecDepth 100000 in
theorem TX9_lists {L : Nat} {xs : Nat → Int32} (a1 : Int) (a2 : Int) (h : qH) : qMet L xs yX9_lists cX9_lists 5 (some .int) 1 6 [qr 0, qi a1, qi a2] h (DX9_lists a1 a2 h) := by
  refine qMet.of (by decide +kernel) (Or.inr (Or.inl ⟨rfl, rfl⟩)) (Nat.le_of_ble_eq_true rfl) ?_
  show qS L xs cX9_lists "BottlePost" 5 6 1 0 [(0, qr 0), (1, qi a1), (2, qi a2)] [] h (DX9_lists a1 a2 h)
  unfold DX9_lists
  refine S_iload_n 1 dX9_lists_0 rfl rfl rfl ?_
  refine S_callS_i (as := [qi a1]) (st := []) (fun _ => rfl) (TX9_isTray a1 h) yv_X9_isTray tw_940 (by decide) rfl rfl (Nat.le_of_ble_eq_true rfl) dX9_lists_1 rfl (fun r10 h11 e12 => ?_)
  refine S_if_eq (tgt := 18) dX9_lists_4 (by decide) rfl (fun _ => ?_) (fun _ => ?_)
  · refine S_bipush (a := (-2)) dX9_lists_18 rfl (by decide) (by decide) ?_
    exact S_iret dX9_lists_20
  · refine S_aload_n 0 dX9_lists_7 rfl rfl rfl ?_
    refine S_getr (j := 24) (o := 24) 5 qC_9 (by decide) (by decide) qk_0 rfl rfl (by decide) tw_386 dX9_lists_8 rfl ?_
    refine S_iload_n 2 dX9_lists_11 rfl rfl rfl ?_
    refine S_callV_i (as := [qi a2]) (st := []) (fun _ => rfl) (TX7_has 24 a2 qk_24 h11) yv_X7_has tw_822 qC_7 qk_24 (by decide) rfl rfl (Nat.le_of_ble_eq_true rfl) dX9_lists_12 rfl (fun r13 h14 e15 => ?_)
    refine S_if_ne (tgt := 21) dX9_lists_15 (by decide) rfl (fun _ => ?_) (fun _ => ?_)
    · refine S_aload_n 0 dX9_lists_21 rfl rfl rfl ?_
      refine S_getr (j := 164) (o := 164) 12 qC_9 (by decide) (by decide) qk_0 rfl rfl (by decide) tw_393 dX9_lists_22 rfl ?_
      refine S_iload_n 1 dX9_lists_25 rfl rfl rfl ?_
      refine S_aald (j := (168 + 2 * a1.toNat)) (C := "BottlePost$Tray") (N := 4) qk_164 (by decide) (by decide) (fun _ => rfl) rfl dX9_lists_26 rfl (fun g16 g17 => (qel_164 g16 g17).2) (fun g16 g17 => ?_)
      refine S_astore_n (lv' := [(3, qr (168 + 2 * a1.toNat)), (0, qr 0), (1, qi a1), (2, qi a2)]) dX9_lists_27 rfl (by decide) rfl rfl ?_
      refine S_aload_n 0 dX9_lists_28 rfl rfl rfl ?_
      refine S_callV_i (as := []) (st := []) (fun _ => rfl) (TX6_missing (168 + 2 * a1.toNat) (qel_164 g16 g17).1 h14) yv_X6_missing tw_943 qC_6 (qel_164 g16 g17).1 (by decide) rfl rfl (Nat.le_of_ble_eq_true rfl) dX9_lists_29 rfl (fun r18 h19 e20 => ?_)
      refine S_if_eq (tgt := 38) dX9_lists_32 (by decide) rfl (fun _ => ?_) (fun _ => ?_)
      · refine S_aload_n 1 dX9_lists_38 rfl rfl rfl ?_
        refine S_getr (j := 156) (o := 156) 8 qC_9 (by decide) (by decide) qk_0 rfl rfl (by decide) tw_389 dX9_lists_39 rfl ?_
        refine S_aload_n 1 dX9_lists_42 rfl rfl rfl ?_
        refine S_getr (j := 24) (o := 24) 5 qC_9 (by decide) (by decide) qk_0 rfl rfl (by decide) tw_386 dX9_lists_43 rfl ?_
        refine S_getr (j := 25) (o := 1) 0 qC_7 (by decide) (by decide) qk_24 rfl rfl (by decide) tw_272 dX9_lists_46 rfl ?_
        refine S_iload_n 3 dX9_lists_49 rfl rfl rfl ?_
        refine S_aald (j := (26 + a2.toNat)) (C := "BottlePost$Bottle") (N := 8) qk_25 (by decide) (by decide) (fun _ => rfl) rfl dX9_lists_50 rfl (fun g21 g22 => (qel_25 qk_25 g21 g22).2) (fun g21 g22 => ?_)
        refine S_callV_0 (as := [qr (26 + a2.toNat)]) (st := []) (fun _ => rfl) (TX0_takeFrom 156 (26 + a2.toNat) qk_156 (qel_25 qk_25 g21 g22).1 h19) yv_X0_takeFrom tw_991 qC_0 qk_156 (by decide) rfl rfl (Nat.le_of_ble_eq_true rfl) dX9_lists_51 rfl (fun r23 h24 e25 => ?_)
        refine S_iconst (a := 0) dX9_lists_54 rfl (by decide) ?_
        refine S_istore (lv' := [(4, qi 0), (3, qr (168 + 2 * a1.toNat)), (0, qr 0), (1, qi a1), (2, qi a2)]) dX9_lists_55 (by decide) rfl rfl ?_
        refine S_sub [2, 1, 0] rfl ?_
        exact TX9_lists_l57 LF (168 + 2 * a1.toNat) 0 (qel_164 g16 g17).1 h24
      · refine S_bipush (a := (-6)) dX9_lists_35 rfl (by decide) (by decide) ?_
        exact S_iret dX9_lists_37
    · refine S_bipush (a := (-2)) dX9_lists_18 rfl (by decide) (by decide) ?_
      exact S_iret dX9_lists_20
def DJ6_bitCount_0f7a4 (a0 : Int) (h : qH) : Option (Int × qH) := (qlt (qw (a0 - qand (qush a0 1) 1431655765)) fun v1 => (qlt (qw (qand v1 858993459 + qand (qush v1 2) 858993459)) fun v2 => (qlt (qand (qw (v2 + qush v2 4)) 252645135) fun v3 => (qlt (qw (v3 + qush v3 8)) fun v4 => (qlt (qw (v4 + qush v4 16)) fun v5 => some (qand v5 63, h))))))
set_option maxRecDepth 100000 in
theorem TJ6_bitCount_0f7a4 {L : Nat} {xs : Nat → Int32} (a0 : Int) (h : qH) : qMet L xs yJ6_bitCount_0f7a4 cJ6_bitCount_0f7a4 1 (some .int) 1 1 [qi a0] h (DJ6_bitCount_0f7a4 a0 h) := by
  refine qMet.of (by decide +kernel) (Or.inr (Or.inl ⟨rfl, rfl⟩)) (Nat.le_of_ble_eq_true rfl) ?_
  show qS L xs cJ6_bitCount_0f7a4 "java/lang/Integer" 1 1 1 0 [(0, qi a0)] [] h (DJ6_bitCount_0f7a4 a0 h)
  unfold DJ6_bitCount_0f7a4
  refine S_iload_n 0 dJ6_bitCount_0f7a4_0 rfl rfl rfl ?_
  refine S_iload_n 0 dJ6_bitCount_0f7a4_1 rfl rfl rfl ?_
  refine S_iconst (a := 1) dJ6_bitCount_0f7a4_2 rfl (by decide) ?_
  refine S_iushr dJ6_bitCount_0f7a4_3 rfl ?_
  refine S_ldcw (a := 1431655765) dJ6_bitCount_0f7a4_4 rfl (by rw [show Int32.ofInt 1431655765 = (1431655765 : Int32) from by decide]; exact tw_1121) (by decide) ?_
  refine S_iand dJ6_bitCount_0f7a4_7 rfl ?_
  refine S_isub dJ6_bitCount_0f7a4_8 rfl ?_
  refine S_istore_n (lv' := [(0, qi (qw (a0 - qand (qush a0 1) 1431655765)))]) dJ6_bitCount_0f7a4_9 rfl (by decide) rfl rfl ?_
  refine S_li (fun v1 => ?_)
  refine S_iload_n 0 dJ6_bitCount_0f7a4_10 rfl rfl rfl ?_
  refine S_ldcw (a := 858993459) dJ6_bitCount_0f7a4_11 rfl (by rw [show Int32.ofInt 858993459 = (858993459 : Int32) from by decide]; exact tw_1122) (by decide) ?_
  refine S_iand dJ6_bitCount_0f7a4_14 rfl ?_
  refine S_iload_n 0 dJ6_bitCount_0f7a4_15 rfl rfl rfl ?_
  refine S_iconst (a := 2) dJ6_bitCount_0f7a4_16 rfl (by decide) ?_
  refine S_iushr dJ6_bitCount_0f7a4_17 rfl ?_
  refine S_ldcw (a := 858993459) dJ6_bitCount_0f7a4_18 rfl (by rw [show Int32.ofInt 858993459 = (858993459 : Int32) from by decide]; exact tw_1122) (by decide) ?_
  refine S_iand dJ6_bitCount_0f7a4_21 rfl ?_
  refine S_iadd dJ6_bitCount_0f7a4_22 rfl ?_
  refine S_istore_n (lv' := [(0, qi (qw (qand v1 858993459 + qand (qush v1 2) 858993459)))]) dJ6_bitCount_0f7a4_23 rfl (by decide) rfl rfl ?_
  refine S_li (fun v2 => ?_)
  refine S_iload_n 0 dJ6_bitCount_0f7a4_24 rfl rfl rfl ?_
  refine S_iload_n 0 dJ6_bitCount_0f7a4_25 rfl rfl rfl ?_
  refine S_iconst (a := 4) dJ6_bitCount_0f7a4_26 rfl (by decide) ?_
  refine S_iushr dJ6_bitCount_0f7a4_27 rfl ?_
  refine S_iadd dJ6_bitCount_0f7a4_28 rfl ?_
  refine S_ldcw (a := 252645135) dJ6_bitCount_0f7a4_29 rfl (by rw [show Int32.ofInt 252645135 = (252645135 : Int32) from by decide]; exact tw_1123) (by decide) ?_
  refine S_iand dJ6_bitCount_0f7a4_32 rfl ?_
  refine S_istore_n (lv' := [(0, qi (qand (qw (v2 + qush v2 4)) 252645135))]) dJ6_bitCount_0f7a4_33 rfl (by decide) rfl rfl ?_
  refine S_li (fun v3 => ?_)
  refine S_iload_n 0 dJ6_bitCount_0f7a4_34 rfl rfl rfl ?_
  refine S_iload_n 0 dJ6_bitCount_0f7a4_35 rfl rfl rfl ?_
  refine S_bipush (a := 8) dJ6_bitCount_0f7a4_36 rfl (by decide) (by decide) ?_
  refine S_iushr dJ6_bitCount_0f7a4_38 rfl ?_
  refine S_iadd dJ6_bitCount_0f7a4_39 rfl ?_
  refine S_istore_n (lv' := [(0, qi (qw (v3 + qush v3 8)))]) dJ6_bitCount_0f7a4_40 rfl (by decide) rfl rfl ?_
  refine S_li (fun v4 => ?_)
  refine S_iload_n 0 dJ6_bitCount_0f7a4_41 rfl rfl rfl ?_
  refine S_iload_n 0 dJ6_bitCount_0f7a4_42 rfl rfl rfl ?_
  refine S_bipush (a := 16) dJ6_bitCount_0f7a4_43 rfl (by decide) (by decide) ?_
  refine S_iushr dJ6_bitCount_0f7a4_45 rfl ?_
  refine S_iadd dJ6_bitCount_0f7a4_46 rfl ?_
  refine S_istore_n (lv' := [(0, qi (qw (v4 + qush v4 16)))]) dJ6_bitCount_0f7a4_47 rfl (by decide) rfl rfl ?_
  refine S_li (fun v5 => ?_)
  refine S_iload_n 0 dJ6_bitCount_0f7a4_48 rfl rfl rfl ?_
  refine S_bipush (a := 63) dJ6_bitCount_0f7a4_49 rfl (by decide) (by decide) ?_
  refine S_iand dJ6_bitCount_0f7a4_51 rfl ?_
  exact S_iret dJ6_bitCount_0f7a4_52
def DX9_net_b76 (k39 : Int → Int → Int → Int → qH → Option (Int × qH)) (a2 : Int) (a3 : Int) (a4 : Int) (a5 : Int) (b0 : Int) (h : qH) : Option (Int × qH) := (if b0 ≤ a4 then (k39 a2 a3 a4 (qw (a5 + 1)) h) else (k39 a2 a5 b0 (qw (a5 + 1)) h))
set_option maxRecDepth 100000 in
theorem TX9_net_b76 {L : Nat} {xs : Nat → Int32} (k39 : Int → Int → Int → Int → qH → Option (Int × qH)) (hk39 : ∀ (a2 : Int) (a3 : Int) (a4 : Int) (a5 : Int) (h : qH), qS L xs cX9_net "BottlePost" 7 8 1 39 [(0, qr 0), (2, qi a2), (3, qi a3), (4, qi a4), (5, qi a5)] [] h (k39 a2 a3 a4 a5 h)) (a2 : Int) (a3 : Int) (a4 : Int) (a5 : Int) (b0 : Int) (h : qH) : qS L xs cX9_net "BottlePost" 7 8 1 76 [(0, qr 0), (2, qi a2), (3, qi a3), (4, qi a4), (5, qi a5)] [qi b0] h (DX9_net_b76 k39 a2 a3 a4 a5 b0 h) := by
  unfold DX9_net_b76
  refine S_istore (lv' := [(6, qi b0), (0, qr 0), (2, qi a2), (3, qi a3), (4, qi a4), (5, qi a5)]) dX9_net_76 (by decide) rfl rfl ?_
  refine S_iload 0 dX9_net_78 rfl rfl ?_
  refine S_iload 4 dX9_net_80 rfl rfl ?_
  refine S_icmp_le (tgt := 92) dX9_net_82 (by decide) rfl (fun _ => ?_) (fun _ => ?_)
  · refine S_iinc (lv' := [(5, qi (qw (a5 + 1))), (6, qi b0), (0, qr 0), (2, qi a2), (3, qi a3), (4, qi a4)]) 5 dX9_net_92 rfl (by decide) rfl rfl ?_
    refine S_goto (pc' := 39) dX9_net_95 (by decide) ?_
    refine S_sub [2, 3, 4, 5, 0] rfl ?_
    exact hk39 a2 a3 a4 (qw (a5 + 1)) h
  · refine S_iload 0 dX9_net_85 rfl rfl ?_
    refine S_istore (lv' := [(4, qi b0), (6, qi b0), (0, qr 0), (2, qi a2), (3, qi a3), (5, qi a5)]) dX9_net_87 (by decide) rfl rfl ?_
    refine S_iload 5 dX9_net_89 rfl rfl ?_
    refine S_istore_n (lv' := [(3, qi a5), (4, qi b0), (6, qi b0), (0, qr 0), (2, qi a2), (5, qi a5)]) dX9_net_91 rfl (by decide) rfl rfl ?_
    refine S_iinc (lv' := [(5, qi (qw (a5 + 1))), (3, qi a5), (4, qi b0), (6, qi b0), (0, qr 0), (2, qi a2)]) 5 dX9_net_92 rfl (by decide) rfl rfl ?_
    refine S_goto (pc' := 39) dX9_net_95 (by decide) ?_
    refine S_sub [4, 5, 1, 2, 0] rfl ?_
    exact hk39 a2 a5 b0 (qw (a5 + 1)) h
def DX9_net_l39 : Nat → Int → Int → Int → Int → qH → Option (Int × qH)
  | 0, _, _, _, _, _ => none
  | n + 1, a2, a3, a4, a5, h => (qbd (DX1_cells 5 h) fun r1 h2 => (if r1 ≤ a5 then (if ¬ a2 = 0 then some (a4, h2) else some (a3, h2)) else (qbd (DX1_isOpen 5 a5 h2) fun r4 h5 => (if r4 = 0 then (DX9_net_b76 (DX9_net_l39 n) a2 a3 a4 a5 (-1) h5) else (qbd (DX9_caughtOn a5 h5) fun r7 h8 => (qbd (DJ6_bitCount_0f7a4 r7 h8) fun r10 h11 => (DX9_net_b76 (DX9_net_l39 n) a2 a3 a4 a5 r10 h11)))))))
set_option maxRecDepth 100000 in
theorem TX9_net_l39 {L : Nat} {xs : Nat → Int32} : ∀ (n : Nat) (a2 : Int) (a3 : Int) (a4 : Int) (a5 : Int) (h : qH), qS L xs cX9_net "BottlePost" 7 8 1 39 [(0, qr 0), (2, qi a2), (3, qi a3), (4, qi a4), (5, qi a5)] [] h (DX9_net_l39 n a2 a3 a4 a5 h) := by
  intro n
  induction n with
  | zero =>
    intro a2 a3 a4 a5 h
    exact S_none
  | succ n ih =>
    intro a2 a3 a4 a5 h
    rw [DX9_net_l39.eq_2]
    refine S_iload 4 dX9_net_39 rfl rfl ?_
    refine S_aload_n 0 dX9_net_41 rfl rfl rfl ?_
    refine S_getr (j := 5) (o := 5) 4 qC_9 (by decide) (by decide) qk_0 rfl rfl (by decide) tw_385 dX9_net_42 rfl ?_
    refine S_callV_i (as := []) (st := [qi a5]) (fun _ => rfl) (TX1_cells 5 qk_5 h) yv_X1_cells tw_1114 qC_1 qk_5 (by decide) rfl rfl (Nat.le_of_ble_eq_true rfl) dX9_net_45 rfl (fun r1 h2 e3 => ?_)
    refine S_icmp_ge (tgt := 98) dX9_net_48 (by decide) rfl (fun _ => ?_) (fun _ => ?_)
    · refine S_iload_n 1 dX9_net_98 rfl rfl rfl ?_
      refine S_if_ne (tgt := 106) dX9_net_99 (by decide) rfl (fun _ => ?_) (fun _ => ?_)
      · refine S_iload 3 dX9_net_106 rfl rfl ?_
        exact S_iret dX9_net_108
      · refine S_iload_n 2 dX9_net_102 rfl rfl rfl ?_
        refine S_goto (pc' := 108) dX9_net_103 (by decide) ?_
        exact S_iret dX9_net_108
    · refine S_aload_n 0 dX9_net_51 rfl rfl rfl ?_
      refine S_getr (j := 5) (o := 5) 4 qC_9 (by decide) (by decide) qk_0 rfl rfl (by decide) tw_385 dX9_net_52 rfl ?_
      refine S_iload 4 dX9_net_55 rfl rfl ?_
      refine S_callV_i (as := [qi a5]) (st := []) (fun _ => rfl) (TX1_isOpen 5 a5 qk_5 h2) yv_X1_isOpen tw_910 qC_1 qk_5 (by decide) rfl rfl (Nat.le_of_ble_eq_true rfl) dX9_net_57 rfl (fun r4 h5 e6 => ?_)
      refine S_if_eq (tgt := 75) dX9_net_60 (by decide) rfl (fun _ => ?_) (fun _ => ?_)
      · refine S_iconst (a := (-1)) dX9_net_75 rfl (by decide) ?_
        exact TX9_net_b76 (DX9_net_l39 n) ih a2 a3 a4 a5 (-1) h5
      · refine S_aload_n 0 dX9_net_63 rfl rfl rfl ?_
        refine S_iload 4 dX9_net_64 rfl rfl ?_
        refine S_callV_i (as := [qi a5]) (st := []) (fun _ => rfl) (TX9_caughtOn a5 h5) yv_X9_caughtOn tw_1106 qC_9 qk_0 (by decide) rfl rfl (Nat.le_of_ble_eq_true rfl) dX9_net_66 rfl (fun r7 h8 e9 => ?_)
        refine S_callS_i (as := [qi r7]) (st := []) (fun _ => rfl) (TJ6_bitCount_0f7a4 r7 h8) yv_J6_bitCount_0f7a4 tw_1118 (by decide) rfl rfl (Nat.le_of_ble_eq_true rfl) dX9_net_69 rfl (fun r10 h11 e12 => ?_)
        refine S_goto (pc' := 76) dX9_net_72 (by decide) ?_
        exact TX9_net_b76 (DX9_net_l39 n) ih a2 a3 a4 a5 r10 h11
def DX9_net (a1 : Int) (a2 : Int) (h : qH) : Option (Int × qH) := (if a2 < 0 then some ((-2), h) else (if a2 ≤ 1 then (if a1 < 1 then some ((-3), h) else (if a1 ≤ 60 then (qbd (DX9_followAll a1 h) fun r13 h14 => (DX9_net_l39 LF a2 (-1) (-1) 0 h14)) else some ((-3), h))) else some ((-2), h)))
set_option maxRecDepth 100000 in
theorem TX9_net {L : Nat} {xs : Nat → Int32} (a1 : Int) (a2 : Int) (h : qH) : qMet L xs yX9_net cX9_net 7 (some .int) 1 8 [qr 0, qi a1, qi a2] h (DX9_net a1 a2 h) := by
  refine qMet.of (by decide +kernel) (Or.inr (Or.inl ⟨rfl, rfl⟩)) (Nat.le_of_ble_eq_true rfl) ?_
  show qS L xs cX9_net "BottlePost" 7 8 1 0 [(0, qr 0), (1, qi a1), (2, qi a2)] [] h (DX9_net a1 a2 h)
  unfold DX9_net
  refine S_iload_n 2 dX9_net_0 rfl rfl rfl ?_
  refine S_if_lt (tgt := 9) dX9_net_1 (by decide) rfl (fun _ => ?_) (fun _ => ?_)
  · refine S_bipush (a := (-2)) dX9_net_9 rfl (by decide) (by decide) ?_
    exact S_iret dX9_net_11
  · refine S_iload_n 2 dX9_net_4 rfl rfl rfl ?_
    refine S_iconst (a := 1) dX9_net_5 rfl (by decide) ?_
    refine S_icmp_le (tgt := 12) dX9_net_6 (by decide) rfl (fun _ => ?_) (fun _ => ?_)
    · refine S_iload_n 1 dX9_net_12 rfl rfl rfl ?_
      refine S_iconst (a := 1) dX9_net_13 rfl (by decide) ?_
      refine S_icmp_lt (tgt := 23) dX9_net_14 (by decide) rfl (fun _ => ?_) (fun _ => ?_)
      · refine S_bipush (a := (-3)) dX9_net_23 rfl (by decide) (by decide) ?_
        exact S_iret dX9_net_25
      · refine S_iload_n 1 dX9_net_17 rfl rfl rfl ?_
        refine S_bipush (a := 60) dX9_net_18 rfl (by decide) (by decide) ?_
        refine S_icmp_le (tgt := 26) dX9_net_20 (by decide) rfl (fun _ => ?_) (fun _ => ?_)
        · refine S_aload_n 0 dX9_net_26 rfl rfl rfl ?_
          refine S_iload_n 1 dX9_net_27 rfl rfl rfl ?_
          refine S_callV_0 (as := [qi a1]) (st := []) (fun _ => rfl) (TX9_followAll a1 h) yv_X9_followAll tw_1098 qC_9 qk_0 (by decide) rfl rfl (Nat.le_of_ble_eq_true rfl) dX9_net_28 rfl (fun r13 h14 e15 => ?_)
          refine S_iconst (a := (-1)) dX9_net_31 rfl (by decide) ?_
          refine S_istore_n (lv' := [(3, qi (-1)), (0, qr 0), (1, qi a1), (2, qi a2)]) dX9_net_32 rfl (by decide) rfl rfl ?_
          refine S_iconst (a := (-1)) dX9_net_33 rfl (by decide) ?_
          refine S_istore (lv' := [(4, qi (-1)), (3, qi (-1)), (0, qr 0), (1, qi a1), (2, qi a2)]) dX9_net_34 (by decide) rfl rfl ?_
          refine S_iconst (a := 0) dX9_net_36 rfl (by decide) ?_
          refine S_istore (lv' := [(5, qi 0), (4, qi (-1)), (3, qi (-1)), (0, qr 0), (1, qi a1), (2, qi a2)]) dX9_net_37 (by decide) rfl rfl ?_
          refine S_sub [3, 5, 2, 1, 0] rfl ?_
          exact TX9_net_l39 LF a2 (-1) (-1) 0 h14
        · refine S_bipush (a := (-3)) dX9_net_23 rfl (by decide) (by decide) ?_
          exact S_iret dX9_net_25
    · refine S_bipush (a := (-2)) dX9_net_9 rfl (by decide) (by decide) ?_
      exact S_iret dX9_net_11
def DJ7_fill_d0a16_l6 : Nat → Nat → Nat → Int → Int → Int → qH → Option (Int × qH)
  | 0, _, _, _, _, _, _ => none
  | n + 1, i0, n0, a1, a3, a4, h => (if a4 ≤ a3 then some (0, h) else (if 0 ≤ a3 ∧ a3 < (n0 : Int) then qlt (qu h i0 a3.toNat a1) fun h1 => ((DJ7_fill_d0a16_l6 n) i0 n0 a1 (qw (a3 + 1)) a4 h1) else none))
set_option maxRecDepth 100000 in
theorem TJ7_fill_d0a16_l6 {L : Nat} {xs : Nat → Int32} : ∀ (n : Nat) (i0 n0 : Nat) (a1 : Int) (a3 : Int) (a4 : Int) (t0 : qK i0 = (24, n0)) (ut0 : q32 (n0 : Int)) (h : qH), qS L xs cJ7_fill_d0a16 "java/util/Arrays" 5 1 0 6 [(0, qr i0), (1, ql a1), (3, qi a3), (4, qi a4)] [] h (DJ7_fill_d0a16_l6 n i0 n0 a1 a3 a4 h) := by
  intro n
  induction n with
  | zero =>
    intro i0 n0 a1 a3 a4 t0 ut0 h
    exact S_none
  | succ n ih =>
    intro i0 n0 a1 a3 a4 t0 ut0 h
    rw [DJ7_fill_d0a16_l6.eq_2]
    refine S_iload_n 2 dJ7_fill_d0a16_6 rfl rfl rfl ?_
    refine S_iload 3 dJ7_fill_d0a16_7 rfl rfl ?_
    refine S_icmp_ge (tgt := 22) dJ7_fill_d0a16_9 (by decide) rfl (fun _ => ?_) (fun _ => ?_)
    · exact S_vret dJ7_fill_d0a16_22
    · refine S_aload_n 0 dJ7_fill_d0a16_12 rfl rfl rfl ?_
      refine S_iload_n 2 dJ7_fill_d0a16_13 rfl rfl rfl ?_
      refine S_lload_n 1 dJ7_fill_d0a16_14 rfl rfl rfl ?_
      refine S_last (N := (n0 : Int)) t0 rfl dJ7_fill_d0a16_15 rfl (fun _ _ => ?_)
      refine S_lh (fun h1 => ?_)
      refine S_iinc (lv' := [(3, qi (qw (a3 + 1))), (0, qr i0), (1, ql a1), (4, qi a4)]) 2 dJ7_fill_d0a16_16 rfl (by decide) rfl rfl ?_
      refine S_goto (pc' := 6) dJ7_fill_d0a16_19 (by decide) ?_
      refine S_sub [1, 2, 0, 3] rfl ?_
      exact ih i0 n0 a1 (qw (a3 + 1)) a4 t0 ut0 h1
def DJ7_fill_d0a16 (i0 n0 : Nat) (a1 : Int) (h : qH) : Option (Int × qH) := (DJ7_fill_d0a16_l6 LF i0 n0 a1 0 (n0 : Int) h)
set_option maxRecDepth 100000 in
theorem TJ7_fill_d0a16 {L : Nat} {xs : Nat → Int32} (i0 n0 : Nat) (a1 : Int) (t0 : qK i0 = (24, n0)) (ut0 : q32 (n0 : Int)) (h : qH) : qMet L xs yJ7_fill_d0a16 cJ7_fill_d0a16 5 (none) 0 1 [qr i0, ql a1] h (DJ7_fill_d0a16 i0 n0 a1 h) := by
  refine qMet.of (by decide +kernel) (Or.inl ⟨rfl, rfl⟩) (Nat.le_of_ble_eq_true rfl) ?_
  show qS L xs cJ7_fill_d0a16 "java/util/Arrays" 5 1 0 0 [(0, qr i0), (1, ql a1)] [] h (DJ7_fill_d0a16 i0 n0 a1 h)
  unfold DJ7_fill_d0a16
  refine S_iconst (a := 0) dJ7_fill_d0a16_0 rfl (by decide) ?_
  refine S_istore_n (lv' := [(3, qi 0), (0, qr i0), (1, ql a1)]) dJ7_fill_d0a16_1 rfl (by decide) rfl rfl ?_
  refine S_aload_n 1 dJ7_fill_d0a16_2 rfl rfl rfl ?_
  refine S_alen (N := (n0 : Int)) t0 (by decide) (by decide) rfl ut0 dJ7_fill_d0a16_3 rfl ?_
  refine S_istore (lv' := [(4, qi (n0 : Int)), (3, qi 0), (0, qr i0), (1, ql a1)]) dJ7_fill_d0a16_4 (by decide) rfl rfl ?_
  refine S_sub [2, 3, 1, 0] rfl ?_
  exact TJ7_fill_d0a16_l6 LF i0 n0 a1 0 (n0 : Int) t0 ut0 h
def DX6_become (i0 : Nat) (a1 : Int) (a2 : Int) (h : qH) : Option (Int × qH) := (qlt (qu h i0 1 a1) fun h1 => (qlt (qu h1 i0 2 a2) fun h2 => (qbd (DJ7_fill_d0a16 (i0 + 1) 40 0 h2) fun r3 h4 => some (0, h4))))
set_option maxRecDepth 100000 in
theorem TX6_become {L : Nat} {xs : Nat → Int32} (i0 : Nat) (a1 : Int) (a2 : Int) (t0 : qK i0 = (6, 3)) (h : qH) : qMet L xs yX6_become cX6_become 3 (none) 0 2 [qr i0, qi a1, qi a2] h (DX6_become i0 a1 a2 h) := by
  refine qMet.of (by decide +kernel) (Or.inl ⟨rfl, rfl⟩) (Nat.le_of_ble_eq_true rfl) ?_
  show qS L xs cX6_become "BottlePost$Tray" 3 2 0 0 [(0, qr i0), (1, qi a1), (2, qi a2)] [] h (DX6_become i0 a1 a2 h)
  unfold DX6_become
  refine S_aload_n 0 dX6_become_0 rfl rfl rfl ?_
  refine S_iload_n 1 dX6_become_1 rfl rfl rfl ?_
  refine S_puti 1 qC_6 (by decide) (by decide) rfl rfl t0 (by decide) tw_367 dX6_become_2 rfl ?_
  refine S_lh (fun h1 => ?_)
  refine S_aload_n 0 dX6_become_5 rfl rfl rfl ?_
  refine S_iload_n 2 dX6_become_6 rfl rfl rfl ?_
  refine S_puti 2 qC_6 (by decide) (by decide) rfl rfl t0 (by decide) tw_368 dX6_become_7 rfl ?_
  refine S_lh (fun h2 => ?_)
  refine S_aload_n 0 dX6_become_10 rfl rfl rfl ?_
  refine S_getr (j := (i0 + 1)) (o := 1) 0 qC_6 (by decide) (by decide) t0 rfl rfl (qf_6_0 t0).2 tw_366 dX6_become_11 rfl ?_
  refine S_lconst (a := 0) dX6_become_14 rfl (by decide) (by decide) ?_
  refine S_callS_0 (as := [qr (i0 + 1), ql 0]) (st := []) (fun _ => rfl) (TJ7_fill_d0a16 (i0 + 1) 40 0 (qf_6_0 t0).1 (by decide) h2) yv_J7_fill_d0a16 tw_1183 (by decide) rfl rfl (Nat.le_of_ble_eq_true rfl) dX6_become_15 rfl (fun r3 h4 e5 => ?_)
  exact S_vret dX6_become_18
def DX9_numbers (a1 : Int) (a2 : Int) (a3 : Int) (h : qH) : Option (Int × qH) := (qbd (DX9_isTray a1 h) fun r1 h2 => (if r1 = 0 then some ((-2), h2) else (if a2 < 0 then some ((-2), h2) else (if a2 < 4 then (if a3 < 0 then some ((-3), h2) else (if a3 ≤ 40 then (if 0 ≤ a1 ∧ a1 < 4 then (qbd (DX6_become (168 + 2 * a1.toNat) a2 a3 h2) fun r6 h7 => some (0, h7)) else none) else some ((-3), h2))) else some ((-2), h2)))))
set_option maxRecDepth 100000 in
theorem TX9_numbers {L : Nat} {xs : Nat → Int32} (a1 : Int) (a2 : Int) (a3 : Int) (h : qH) : qMet L xs yX9_numbers cX9_numbers 4 (some .int) 1 3 [qr 0, qi a1, qi a2, qi a3] h (DX9_numbers a1 a2 a3 h) := by
  refine qMet.of (by decide +kernel) (Or.inr (Or.inl ⟨rfl, rfl⟩)) (Nat.le_of_ble_eq_true rfl) ?_
  show qS L xs cX9_numbers "BottlePost" 4 3 1 0 [(0, qr 0), (1, qi a1), (2, qi a2), (3, qi a3)] [] h (DX9_numbers a1 a2 a3 h)
  unfold DX9_numbers
  refine S_iload_n 1 dX9_numbers_0 rfl rfl rfl ?_
  refine S_callS_i (as := [qi a1]) (st := []) (fun _ => rfl) (TX9_isTray a1 h) yv_X9_isTray tw_940 (by decide) rfl rfl (Nat.le_of_ble_eq_true rfl) dX9_numbers_1 rfl (fun r1 h2 e3 => ?_)
  refine S_if_eq (tgt := 16) dX9_numbers_4 (by decide) rfl (fun _ => ?_) (fun _ => ?_)
  · refine S_bipush (a := (-2)) dX9_numbers_16 rfl (by decide) (by decide) ?_
    exact S_iret dX9_numbers_18
  · refine S_iload_n 2 dX9_numbers_7 rfl rfl rfl ?_
    refine S_if_lt (tgt := 16) dX9_numbers_8 (by decide) rfl (fun _ => ?_) (fun _ => ?_)
    · refine S_bipush (a := (-2)) dX9_numbers_16 rfl (by decide) (by decide) ?_
      exact S_iret dX9_numbers_18
    · refine S_iload_n 2 dX9_numbers_11 rfl rfl rfl ?_
      refine S_iconst (a := 4) dX9_numbers_12 rfl (by decide) ?_
      refine S_icmp_lt (tgt := 19) dX9_numbers_13 (by decide) rfl (fun _ => ?_) (fun _ => ?_)
      · refine S_iload_n 3 dX9_numbers_19 rfl rfl rfl ?_
        refine S_if_lt (tgt := 29) dX9_numbers_20 (by decide) rfl (fun _ => ?_) (fun _ => ?_)
        · refine S_bipush (a := (-3)) dX9_numbers_29 rfl (by decide) (by decide) ?_
          exact S_iret dX9_numbers_31
        · refine S_iload_n 3 dX9_numbers_23 rfl rfl rfl ?_
          refine S_bipush (a := 40) dX9_numbers_24 rfl (by decide) (by decide) ?_
          refine S_icmp_le (tgt := 32) dX9_numbers_26 (by decide) rfl (fun _ => ?_) (fun _ => ?_)
          · refine S_aload_n 0 dX9_numbers_32 rfl rfl rfl ?_
            refine S_getr (j := 164) (o := 164) 12 qC_9 (by decide) (by decide) qk_0 rfl rfl (by decide) tw_393 dX9_numbers_33 rfl ?_
            refine S_iload_n 1 dX9_numbers_36 rfl rfl rfl ?_
            refine S_aald (j := (168 + 2 * a1.toNat)) (C := "BottlePost$Tray") (N := 4) qk_164 (by decide) (by decide) (fun _ => rfl) rfl dX9_numbers_37 rfl (fun g4 g5 => (qel_164 g4 g5).2) (fun g4 g5 => ?_)
            refine S_iload_n 2 dX9_numbers_38 rfl rfl rfl ?_
            refine S_iload_n 3 dX9_numbers_39 rfl rfl rfl ?_
            refine S_callV_0 (as := [qi a2, qi a3]) (st := []) (fun _ => rfl) (TX6_become (168 + 2 * a1.toNat) a2 a3 (qel_164 g4 g5).1 h2) yv_X6_become tw_1179 qC_6 (qel_164 g4 g5).1 (by decide) rfl rfl (Nat.le_of_ble_eq_true rfl) dX9_numbers_40 rfl (fun r6 h7 e8 => ?_)
            refine S_iconst (a := 0) dX9_numbers_43 rfl (by decide) ?_
            exact S_iret dX9_numbers_44
          · refine S_bipush (a := (-3)) dX9_numbers_29 rfl (by decide) (by decide) ?_
            exact S_iret dX9_numbers_31
      · refine S_bipush (a := (-2)) dX9_numbers_16 rfl (by decide) (by decide) ?_
        exact S_iret dX9_numbers_18
def DX9_perform (a1 : Int) (h : qH) : Option (Int × qH) := (qbd (DX9_isTray a1 h) fun r1 h2 => (if ¬ r1 = 0 then (if 0 ≤ a1 ∧ a1 < 4 then (qbd (DX6_missing (168 + 2 * a1.toNat) h2) fun r6 h7 => (if r6 = 0 then (qbd (DX3_draft 24 h7) fun r9 h10 => (if 0 ≤ a1 ∧ a1 < 4 then (qbd (DX9_doAll 24 (168 + 2 * a1.toNat) h10) fun r14 h15 => (if r14 ≤ 0 then some (r14, h15) else (qbd (DX3_commit h15) fun r17 h18 => some (r14, h18)))) else none)) else some ((-6), h7))) else none) else some ((-2), h2)))
set_option maxRecDepth 100000 in
theorem TX9_perform {L : Nat} {xs : Nat → Int32} (a1 : Int) (h : qH) : qMet L xs yX9_perform cX9_perform 3 (some .int) 1 9 [qr 0, qi a1] h (DX9_perform a1 h) := by
  refine qMet.of (by decide +kernel) (Or.inr (Or.inl ⟨rfl, rfl⟩)) (Nat.le_of_ble_eq_true rfl) ?_
  show qS L xs cX9_perform "BottlePost" 3 9 1 0 [(0, qr 0), (1, qi a1)] [] h (DX9_perform a1 h)
  unfold DX9_perform
  refine S_iload_n 1 dX9_perform_0 rfl rfl rfl ?_
  refine S_callS_i (as := [qi a1]) (st := []) (fun _ => rfl) (TX9_isTray a1 h) yv_X9_isTray tw_940 (by decide) rfl rfl (Nat.le_of_ble_eq_true rfl) dX9_perform_1 rfl (fun r1 h2 e3 => ?_)
  refine S_if_ne (tgt := 10) dX9_perform_4 (by decide) rfl (fun _ => ?_) (fun _ => ?_)
  · refine S_aload_n 0 dX9_perform_10 rfl rfl rfl ?_
    refine S_getr (j := 164) (o := 164) 12 qC_9 (by decide) (by decide) qk_0 rfl rfl (by decide) tw_393 dX9_perform_11 rfl ?_
    refine S_iload_n 1 dX9_perform_14 rfl rfl rfl ?_
    refine S_aald (j := (168 + 2 * a1.toNat)) (C := "BottlePost$Tray") (N := 4) qk_164 (by decide) (by decide) (fun _ => rfl) rfl dX9_perform_15 rfl (fun g4 g5 => (qel_164 g4 g5).2) (fun g4 g5 => ?_)
    refine S_callV_i (as := []) (st := []) (fun _ => rfl) (TX6_missing (168 + 2 * a1.toNat) (qel_164 g4 g5).1 h2) yv_X6_missing tw_943 qC_6 (qel_164 g4 g5).1 (by decide) rfl rfl (Nat.le_of_ble_eq_true rfl) dX9_perform_16 rfl (fun r6 h7 e8 => ?_)
    refine S_if_eq (tgt := 25) dX9_perform_19 (by decide) rfl (fun _ => ?_) (fun _ => ?_)
    · refine S_aload_n 0 dX9_perform_25 rfl rfl rfl ?_
      refine S_getr (j := 44) (o := 44) 7 qC_9 (by decide) (by decide) qk_0 rfl rfl (by decide) tw_388 dX9_perform_26 rfl ?_
      refine S_aload_n 0 dX9_perform_29 rfl rfl rfl ?_
      refine S_getr (j := 24) (o := 24) 5 qC_9 (by decide) (by decide) qk_0 rfl rfl (by decide) tw_386 dX9_perform_30 rfl ?_
      refine S_callV_0 (as := [qr 24]) (st := []) (fun _ => rfl) (TX3_draft 24 qk_24 h7) yv_X3_draft tw_836 qC_3 qk_44 (by decide) rfl rfl (Nat.le_of_ble_eq_true rfl) dX9_perform_33 rfl (fun r9 h10 e11 => ?_)
      refine S_aload_n 0 dX9_perform_36 rfl rfl rfl ?_
      refine S_aload_n 0 dX9_perform_37 rfl rfl rfl ?_
      refine S_getr (j := 24) (o := 24) 5 qC_9 (by decide) (by decide) qk_0 rfl rfl (by decide) tw_386 dX9_perform_38 rfl ?_
      refine S_aload_n 0 dX9_perform_41 rfl rfl rfl ?_
      refine S_getr (j := 164) (o := 164) 12 qC_9 (by decide) (by decide) qk_0 rfl rfl (by decide) tw_393 dX9_perform_42 rfl ?_
      refine S_iload_n 1 dX9_perform_45 rfl rfl rfl ?_
      refine S_aald (j := (168 + 2 * a1.toNat)) (C := "BottlePost$Tray") (N := 4) qk_164 (by decide) (by decide) (fun _ => rfl) rfl dX9_perform_46 rfl (fun g12 g13 => (qel_164 g12 g13).2) (fun g12 g13 => ?_)
      refine S_callV_i (as := [qr 24, qr (168 + 2 * a1.toNat)]) (st := []) (fun _ => rfl) (TX9_doAll 24 (168 + 2 * a1.toNat) qk_24 (qel_164 g12 g13).1 h10) yv_X9_doAll tw_948 qC_9 qk_0 (by decide) rfl rfl (Nat.le_of_ble_eq_true rfl) dX9_perform_47 rfl (fun r14 h15 e16 => ?_)
      refine S_istore_n (lv' := [(2, qi r14), (0, qr 0), (1, qi a1)]) dX9_perform_50 rfl (by decide) rfl rfl ?_
      refine S_iload_n 0 dX9_perform_51 rfl rfl rfl ?_
      refine S_if_le (tgt := 62) dX9_perform_52 (by decide) rfl (fun _ => ?_) (fun _ => ?_)
      · refine S_iload_n 0 dX9_perform_62 rfl rfl rfl ?_
        exact S_iret dX9_perform_63
      · refine S_aload_n 1 dX9_perform_55 rfl rfl rfl ?_
        refine S_getr (j := 44) (o := 44) 7 qC_9 (by decide) (by decide) qk_0 rfl rfl (by decide) tw_388 dX9_perform_56 rfl ?_
        refine S_callV_0 (as := []) (st := []) (fun _ => rfl) (TX3_commit h15) yv_X3_commit tw_853 qC_3 qk_44 (by decide) rfl rfl (Nat.le_of_ble_eq_true rfl) dX9_perform_59 rfl (fun r17 h18 e19 => ?_)
        refine S_iload_n 0 dX9_perform_62 rfl rfl rfl ?_
        exact S_iret dX9_perform_63
    · refine S_bipush (a := (-6)) dX9_perform_22 rfl (by decide) (by decide) ?_
      exact S_iret dX9_perform_24
  · refine S_bipush (a := (-2)) dX9_perform_7 rfl (by decide) (by decide) ?_
    exact S_iret dX9_perform_9
def DX9_reachers_l18 : Nat → Int → Int → Int → qH → Option (Int × qH)
  | 0, _, _, _, _ => none
  | n + 1, a1, a2, a3, h => (if h.1 5 14 ≤ a3 then some (a2, h) else (if a3 = a1 then ((DX9_reachers_l18 n) a1 a2 (qw (a3 + 1)) h) else (qbd (DX2_soonest a3 a1 (h.1 24 2) h) fun r1 h2 => (if r1 = (-1) then ((DX9_reachers_l18 n) a1 a2 (qw (a3 + 1)) h2) else (qlt (qor a2 (qshl 1 a3)) fun v4 => ((DX9_reachers_l18 n) a1 v4 (qw (a3 + 1)) h2))))))
set_option maxRecDepth 100000 in
theorem TX9_reachers_l18 {L : Nat} {xs : Nat → Int32} : ∀ (n : Nat) (a1 : Int) (a2 : Int) (a3 : Int) (h : qH), qS L xs cX9_reachers "BottlePost" 4 8 1 18 [(0, qr 0), (1, qi a1), (2, qi a2), (3, qi a3)] [] h (DX9_reachers_l18 n a1 a2 a3 h) := by
  intro n
  induction n with
  | zero =>
    intro a1 a2 a3 h
    exact S_none
  | succ n ih =>
    intro a1 a2 a3 h
    rw [DX9_reachers_l18.eq_2]
    refine S_iload_n 3 dX9_reachers_18 rfl rfl rfl ?_
    refine S_aload_n 0 dX9_reachers_19 rfl rfl rfl ?_
    refine S_getr (j := 5) (o := 5) 4 qC_9 (by decide) (by decide) qk_0 rfl rfl (by decide) tw_385 dX9_reachers_20 rfl ?_
    refine S_geti 14 qC_1 (by decide) (by decide) qk_5 tw_87 dX9_reachers_23 rfl ?_
    refine S_icmp_ge (tgt := 66) dX9_reachers_26 (by decide) rfl (fun _ => ?_) (fun _ => ?_)
    · refine S_iload_n 2 dX9_reachers_66 rfl rfl rfl ?_
      exact S_iret dX9_reachers_67
    · refine S_iload_n 3 dX9_reachers_29 rfl rfl rfl ?_
      refine S_iload_n 1 dX9_reachers_30 rfl rfl rfl ?_
      refine S_icmp_eq (tgt := 60) dX9_reachers_31 (by decide) rfl (fun _ => ?_) (fun _ => ?_)
      · refine S_iinc (lv' := [(3, qi (qw (a3 + 1))), (0, qr 0), (1, qi a1), (2, qi a2)]) 3 dX9_reachers_60 rfl (by decide) rfl rfl ?_
        refine S_goto (pc' := 18) dX9_reachers_63 (by decide) ?_
        refine S_sub [1, 2, 3, 0] rfl ?_
        exact ih a1 a2 (qw (a3 + 1)) h
      · refine S_aload_n 0 dX9_reachers_34 rfl rfl rfl ?_
        refine S_getr (j := 4) (o := 4) 3 qC_9 (by decide) (by decide) qk_0 rfl rfl (by decide) tw_384 dX9_reachers_35 rfl ?_
        refine S_iload_n 3 dX9_reachers_38 rfl rfl rfl ?_
        refine S_iload_n 1 dX9_reachers_39 rfl rfl rfl ?_
        refine S_aload_n 0 dX9_reachers_40 rfl rfl rfl ?_
        refine S_getr (j := 24) (o := 24) 5 qC_9 (by decide) (by decide) qk_0 rfl rfl (by decide) tw_386 dX9_reachers_41 rfl ?_
        refine S_geti 2 qC_7 (by decide) (by decide) qk_24 tw_276 dX9_reachers_44 rfl ?_
        refine S_callV_i (as := [qi a3, qi a1, qi (h.1 24 2)]) (st := []) (fun _ => rfl) (TX2_soonest a3 a1 (h.1 24 2) h) yv_X2_soonest tw_1042 qC_2 qk_4 (by decide) rfl rfl (Nat.le_of_ble_eq_true rfl) dX9_reachers_47 rfl (fun r1 h2 e3 => ?_)
        refine S_iconst (a := (-1)) dX9_reachers_50 rfl (by decide) ?_
        refine S_icmp_eq (tgt := 60) dX9_reachers_51 (by decide) rfl (fun _ => ?_) (fun _ => ?_)
        · refine S_iinc (lv' := [(3, qi (qw (a3 + 1))), (0, qr 0), (1, qi a1), (2, qi a2)]) 3 dX9_reachers_60 rfl (by decide) rfl rfl ?_
          refine S_goto (pc' := 18) dX9_reachers_63 (by decide) ?_
          refine S_sub [1, 2, 3, 0] rfl ?_
          exact ih a1 a2 (qw (a3 + 1)) h2
        · refine S_iload_n 2 dX9_reachers_54 rfl rfl rfl ?_
          refine S_iconst (a := 1) dX9_reachers_55 rfl (by decide) ?_
          refine S_iload_n 3 dX9_reachers_56 rfl rfl rfl ?_
          refine S_ishl dX9_reachers_57 rfl ?_
          refine S_ior dX9_reachers_58 rfl ?_
          refine S_istore_n (lv' := [(2, qi (qor a2 (qshl 1 a3))), (0, qr 0), (1, qi a1), (3, qi a3)]) dX9_reachers_59 rfl (by decide) rfl rfl ?_
          refine S_li (fun v4 => ?_)
          refine S_iinc (lv' := [(3, qi (qw (a3 + 1))), (2, qi v4), (0, qr 0), (1, qi a1)]) 3 dX9_reachers_60 rfl (by decide) rfl rfl ?_
          refine S_goto (pc' := 18) dX9_reachers_63 (by decide) ?_
          refine S_sub [2, 3, 1, 0] rfl ?_
          exact ih a1 v4 (qw (a3 + 1)) h2
def DX9_reachers (a1 : Int) (h : qH) : Option (Int × qH) := (qbd (DX1_isShore 5 a1 h) fun r5 h6 => (if ¬ r5 = 0 then (DX9_reachers_l18 LF a1 0 0 h6) else some ((-2), h6)))
set_option maxRecDepth 100000 in
theorem TX9_reachers {L : Nat} {xs : Nat → Int32} (a1 : Int) (h : qH) : qMet L xs yX9_reachers cX9_reachers 4 (some .int) 1 8 [qr 0, qi a1] h (DX9_reachers a1 h) := by
  refine qMet.of (by decide +kernel) (Or.inr (Or.inl ⟨rfl, rfl⟩)) (Nat.le_of_ble_eq_true rfl) ?_
  show qS L xs cX9_reachers "BottlePost" 4 8 1 0 [(0, qr 0), (1, qi a1)] [] h (DX9_reachers a1 h)
  unfold DX9_reachers
  refine S_aload_n 0 dX9_reachers_0 rfl rfl rfl ?_
  refine S_getr (j := 5) (o := 5) 4 qC_9 (by decide) (by decide) qk_0 rfl rfl (by decide) tw_385 dX9_reachers_1 rfl ?_
  refine S_iload_n 1 dX9_reachers_4 rfl rfl rfl ?_
  refine S_callV_i (as := [qi a1]) (st := []) (fun _ => rfl) (TX1_isShore 5 a1 qk_5 h) yv_X1_isShore tw_761 qC_1 qk_5 (by decide) rfl rfl (Nat.le_of_ble_eq_true rfl) dX9_reachers_5 rfl (fun r5 h6 e7 => ?_)
  refine S_if_ne (tgt := 14) dX9_reachers_8 (by decide) rfl (fun _ => ?_) (fun _ => ?_)
  · refine S_iconst (a := 0) dX9_reachers_14 rfl (by decide) ?_
    refine S_istore_n (lv' := [(2, qi 0), (0, qr 0), (1, qi a1)]) dX9_reachers_15 rfl (by decide) rfl rfl ?_
    refine S_iconst (a := 0) dX9_reachers_16 rfl (by decide) ?_
    refine S_istore_n (lv' := [(3, qi 0), (2, qi 0), (0, qr 0), (1, qi a1)]) dX9_reachers_17 rfl (by decide) rfl rfl ?_
    refine S_sub [2, 3, 1, 0] rfl ?_
    exact TX9_reachers_l18 LF a1 0 0 h6
  · refine S_bipush (a := (-2)) dX9_reachers_11 rfl (by decide) (by decide) ?_
    exact S_iret dX9_reachers_13
def DX9_reaches (a1 : Int) (a2 : Int) (a3 : Int) (a4 : Int) (h : qH) : Option (Int × qH) := (qbd (DX9_pairCode a1 a2 h) fun r1 h2 => (if ¬ r1 = (-2) then (if a4 < 0 then some ((-3), h2) else (if a4 ≤ 30 then (if r1 = 0 then (qbd (DX2_outcome a1 a2 a3 (qw (h2.1 24 2 + a4)) h2) fun r4 h5 => (qbd (DX2_keeperOf r4 h5) fun r7 h8 => (if ¬ r7 = a2 then some ((-1), h8) else (qbd (DX2_tidesOf r4 h8) fun r10 h11 => some (qw (a4 + r10), h11))))) else some (r1, h2)) else some ((-3), h2))) else some ((-2), h2)))
set_option maxRecDepth 100000 in
theorem TX9_reaches {L : Nat} {xs : Nat → Int32} (a1 : Int) (a2 : Int) (a3 : Int) (a4 : Int) (h : qH) : qMet L xs yX9_reaches cX9_reaches 7 (some .int) 1 7 [qr 0, qi a1, qi a2, qi a3, qi a4] h (DX9_reaches a1 a2 a3 a4 h) := by
  refine qMet.of (by decide +kernel) (Or.inr (Or.inl ⟨rfl, rfl⟩)) (Nat.le_of_ble_eq_true rfl) ?_
  show qS L xs cX9_reaches "BottlePost" 7 7 1 0 [(0, qr 0), (1, qi a1), (2, qi a2), (3, qi a3), (4, qi a4)] [] h (DX9_reaches a1 a2 a3 a4 h)
  unfold DX9_reaches
  refine S_aload_n 0 dX9_reaches_0 rfl rfl rfl ?_
  refine S_iload_n 1 dX9_reaches_1 rfl rfl rfl ?_
  refine S_iload_n 2 dX9_reaches_2 rfl rfl rfl ?_
  refine S_callV_i (as := [qi a1, qi a2]) (st := []) (fun _ => rfl) (TX9_pairCode a1 a2 h) yv_X9_pairCode tw_1018 qC_9 qk_0 (by decide) rfl rfl (Nat.le_of_ble_eq_true rfl) dX9_reaches_3 rfl (fun r1 h2 e3 => ?_)
  refine S_istore (lv' := [(5, qi r1), (0, qr 0), (1, qi a1), (2, qi a2), (3, qi a3), (4, qi a4)]) dX9_reaches_6 (by decide) rfl rfl ?_
  refine S_iload 0 dX9_reaches_8 rfl rfl ?_
  refine S_bipush (a := (-2)) dX9_reaches_10 rfl (by decide) (by decide) ?_
  refine S_icmp_ne (tgt := 18) dX9_reaches_12 (by decide) rfl (fun _ => ?_) (fun _ => ?_)
  · refine S_iload 5 dX9_reaches_18 rfl rfl ?_
    refine S_if_lt (tgt := 30) dX9_reaches_20 (by decide) rfl (fun _ => ?_) (fun _ => ?_)
    · refine S_bipush (a := (-3)) dX9_reaches_30 rfl (by decide) (by decide) ?_
      exact S_iret dX9_reaches_32
    · refine S_iload 5 dX9_reaches_23 rfl rfl ?_
      refine S_bipush (a := 30) dX9_reaches_25 rfl (by decide) (by decide) ?_
      refine S_icmp_le (tgt := 33) dX9_reaches_27 (by decide) rfl (fun _ => ?_) (fun _ => ?_)
      · refine S_iload 0 dX9_reaches_33 rfl rfl ?_
        refine S_if_eq (tgt := 41) dX9_reaches_35 (by decide) rfl (fun _ => ?_) (fun _ => ?_)
        · refine S_aload_n 1 dX9_reaches_41 rfl rfl rfl ?_
          refine S_getr (j := 4) (o := 4) 3 qC_9 (by decide) (by decide) qk_0 rfl rfl (by decide) tw_384 dX9_reaches_42 rfl ?_
          refine S_iload_n 2 dX9_reaches_45 rfl rfl rfl ?_
          refine S_iload_n 3 dX9_reaches_46 rfl rfl rfl ?_
          refine S_iload_n 4 dX9_reaches_47 rfl rfl rfl ?_
          refine S_aload_n 1 dX9_reaches_48 rfl rfl rfl ?_
          refine S_getr (j := 24) (o := 24) 5 qC_9 (by decide) (by decide) qk_0 rfl rfl (by decide) tw_386 dX9_reaches_49 rfl ?_
          refine S_geti 2 qC_7 (by decide) (by decide) qk_24 tw_276 dX9_reaches_52 rfl ?_
          refine S_iload 5 dX9_reaches_55 rfl rfl ?_
          refine S_iadd dX9_reaches_57 rfl ?_
          refine S_callV_i (as := [qi a1, qi a2, qi a3, qi (qw (h2.1 24 2 + a4))]) (st := []) (fun _ => rfl) (TX2_outcome a1 a2 a3 (qw (h2.1 24 2 + a4)) h2) yv_X2_outcome tw_1022 qC_2 qk_4 (by decide) rfl rfl (Nat.le_of_ble_eq_true rfl) dX9_reaches_58 rfl (fun r4 h5 e6 => ?_)
          refine S_istore (lv' := [(6, qi r4), (5, qi r1), (0, qr 0), (1, qi a1), (2, qi a2), (3, qi a3), (4, qi a4)]) dX9_reaches_61 (by decide) rfl rfl ?_
          refine S_iload 0 dX9_reaches_63 rfl rfl ?_
          refine S_callS_i (as := [qi r4]) (st := []) (fun _ => rfl) (TX2_keeperOf r4 h5) yv_X2_keeperOf tw_1027 (by decide) rfl rfl (Nat.le_of_ble_eq_true rfl) dX9_reaches_65 rfl (fun r7 h8 e9 => ?_)
          refine S_iload_n 4 dX9_reaches_68 rfl rfl rfl ?_
          refine S_icmp_ne (tgt := 83) dX9_reaches_69 (by decide) rfl (fun _ => ?_) (fun _ => ?_)
          · refine S_iconst (a := (-1)) dX9_reaches_83 rfl (by decide) ?_
            exact S_iret dX9_reaches_84
          · refine S_iload 6 dX9_reaches_72 rfl rfl ?_
            refine S_iload 0 dX9_reaches_74 rfl rfl ?_
            refine S_callS_i (as := [qi r4]) (st := [qi a4]) (fun _ => rfl) (TX2_tidesOf r4 h8) yv_X2_tidesOf tw_1035 (by decide) rfl rfl (Nat.le_of_ble_eq_true rfl) dX9_reaches_76 rfl (fun r10 h11 e12 => ?_)
            refine S_iadd dX9_reaches_79 rfl ?_
            refine S_goto (pc' := 84) dX9_reaches_80 (by decide) ?_
            exact S_iret dX9_reaches_84
        · refine S_iload 0 dX9_reaches_38 rfl rfl ?_
          exact S_iret dX9_reaches_40
      · refine S_bipush (a := (-3)) dX9_reaches_30 rfl (by decide) (by decide) ?_
        exact S_iret dX9_reaches_32
  · refine S_bipush (a := (-2)) dX9_reaches_15 rfl (by decide) (by decide) ?_
    exact S_iret dX9_reaches_17
