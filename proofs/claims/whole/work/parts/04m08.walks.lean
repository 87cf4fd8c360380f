def DX9_seenCode_l58 : Nat → Nat → Int → qH → Option (Int × qH)
  | 0, _, _, _ => none
  | n + 1, i2, a3, h => (if h.1 i2 2 ≤ a3 then some (0, h) else (qbd (DX6_numberAt i2 a3 h) fun r1 h2 => (qbd (DX6_numberAt i2 (qw (a3 + 1)) h2) fun r4 h5 => (if qcmp r1 0 < 0 then some ((-3), h5) else (qbd (DX1_cells 5 h5) fun r7 h8 => (if 0 ≤ qcmp r1 r7 then some ((-3), h8) else (if qcmp r4 0 < 0 then some ((-3), h8) else (if qcmp r4 30 ≤ 0 then ((DX9_seenCode_l58 n) i2 (qw (a3 + 2)) h8) else some ((-3), h8)))))))))
set_option maxRecDepth 100000 in
theorem TX9_seenCode_l58 {L : Nat} {xs : Nat → Int32} : ∀ (n : Nat) (i2 : Nat) (a3 : Int) (t2 : qK i2 = (6, 3)) (h : qH), qS L xs cX9_seenCode "BottlePost" 8 2 1 58 [(0, qr 0), (2, qr i2), (3, qi a3)] [] h (DX9_seenCode_l58 n i2 a3 h) := by
  intro n
  induction n with
  | zero =>
    intro i2 a3 t2 h
    exact S_none
  | succ n ih =>
    intro i2 a3 t2 h
    rw [DX9_seenCode_l58.eq_2]
    refine S_iload_n 2 dX9_seenCode_58 rfl rfl rfl ?_
    refine S_aload_n 1 dX9_seenCode_59 rfl rfl rfl ?_
    refine S_geti 2 qC_6 (by decide) (by decide) t2 tw_370 dX9_seenCode_60 rfl ?_
    refine S_icmp_ge (tgt := 128) dX9_seenCode_63 (by decide) rfl (fun _ => ?_) (fun _ => ?_)
    · refine S_iconst (a := 0) dX9_seenCode_128 rfl (by decide) ?_
      exact S_iret dX9_seenCode_129
    · refine S_aload_n 1 dX9_seenCode_66 rfl rfl rfl ?_
      refine S_iload_n 2 dX9_seenCode_67 rfl rfl rfl ?_
      refine S_callV_l (as := [qi a3]) (st := []) (fun _ => rfl) (TX6_numberAt i2 a3 t2 h) yv_X6_numberAt tw_952 qC_6 t2 (by decide) rfl rfl (Nat.le_of_ble_eq_true rfl) dX9_seenCode_68 rfl (fun r1 h2 e3 => ?_)
      refine S_lstore (lv' := [(4, ql r1), (0, qr 0), (2, qr i2), (3, qi a3)]) dX9_seenCode_71 (by decide) rfl rfl ?_
      refine S_aload_n 2 dX9_seenCode_73 rfl rfl rfl ?_
      refine S_iload_n 3 dX9_seenCode_74 rfl rfl rfl ?_
      refine S_iconst (a := 1) dX9_seenCode_75 rfl (by decide) ?_
      refine S_iadd dX9_seenCode_76 rfl ?_
      refine S_callV_l (as := [qi (qw (a3 + 1))]) (st := []) (fun _ => rfl) (TX6_numberAt i2 (qw (a3 + 1)) t2 h2) yv_X6_numberAt tw_952 qC_6 t2 (by decide) rfl rfl (Nat.le_of_ble_eq_true rfl) dX9_seenCode_77 rfl (fun r4 h5 e6 => ?_)
      refine S_lstore (lv' := [(6, ql r4), (4, ql r1), (0, qr 0), (2, qr i2), (3, qi a3)]) dX9_seenCode_80 (by decide) rfl rfl ?_
      refine S_lload 1 dX9_seenCode_82 rfl rfl ?_
      refine S_lconst (a := 0) dX9_seenCode_84 rfl (by decide) (by decide) ?_
      refine S_lcmp dX9_seenCode_85 rfl ?_
      refine S_if_lt (tgt := 119) dX9_seenCode_86 (by decide) rfl (fun _ => ?_) (fun _ => ?_)
      · refine S_bipush (a := (-3)) dX9_seenCode_119 rfl (by decide) (by decide) ?_
        exact S_iret dX9_seenCode_121
      · refine S_lload 1 dX9_seenCode_89 rfl rfl ?_
        refine S_aload_n 2 dX9_seenCode_91 rfl rfl rfl ?_
        refine S_getr (j := 5) (o := 5) 4 qC_9 (by decide) (by decide) qk_0 rfl rfl (by decide) tw_385 dX9_seenCode_92 rfl ?_
        refine S_callV_i (as := []) (st := [ql r1]) (fun _ => rfl) (TX1_cells 5 qk_5 h5) yv_X1_cells tw_1114 qC_1 qk_5 (by decide) rfl rfl (Nat.le_of_ble_eq_true rfl) dX9_seenCode_95 rfl (fun r7 h8 e9 => ?_)
        refine S_i2l dX9_seenCode_98 rfl ?_
        refine S_lcmp dX9_seenCode_99 rfl ?_
        refine S_if_ge (tgt := 119) dX9_seenCode_100 (by decide) rfl (fun _ => ?_) (fun _ => ?_)
        · refine S_bipush (a := (-3)) dX9_seenCode_119 rfl (by decide) (by decide) ?_
          exact S_iret dX9_seenCode_121
        · refine S_lload 0 dX9_seenCode_103 rfl rfl ?_
          refine S_lconst (a := 0) dX9_seenCode_105 rfl (by decide) (by decide) ?_
          refine S_lcmp dX9_seenCode_106 rfl ?_
          refine S_if_lt (tgt := 119) dX9_seenCode_107 (by decide) rfl (fun _ => ?_) (fun _ => ?_)
          · refine S_bipush (a := (-3)) dX9_seenCode_119 rfl (by decide) (by decide) ?_
            exact S_iret dX9_seenCode_121
          · refine S_lload 0 dX9_seenCode_110 rfl rfl ?_
            refine S_ldc2 (a := 30) dX9_seenCode_112 rfl (by rw [show Int64.ofInt 30 = (30 : Int64) from by decide]; exact tw_1149) (by decide) ?_
            refine S_lcmp dX9_seenCode_115 rfl ?_
            refine S_if_le (tgt := 122) dX9_seenCode_116 (by decide) rfl (fun _ => ?_) (fun _ => ?_)
            · refine S_iinc (lv' := [(3, qi (qw (a3 + 2))), (6, ql r4), (4, ql r1), (0, qr 0), (2, qr i2)]) 4 dX9_seenCode_122 rfl (by decide) rfl rfl ?_
              refine S_goto (pc' := 58) dX9_seenCode_125 (by decide) ?_
              refine S_sub [3, 4, 0] rfl ?_
              exact ih i2 (qw (a3 + 2)) t2 h8
            · refine S_bipush (a := (-3)) dX9_seenCode_119 rfl (by decide) (by decide) ?_
              exact S_iret dX9_seenCode_121
def DX9_seenCode (a1 : Int) (h : qH) : Option (Int × qH) := (qbd (DX9_isTray a1 h) fun r10 h11 => (if ¬ r10 = 0 then (if 0 ≤ a1 ∧ a1 < 4 then (qbd (DX6_missing (168 + 2 * a1.toNat) h11) fun r15 h16 => (if r15 = 0 then (if h16.1 (168 + 2 * a1.toNat) 2 < 2 then some ((-4), h16) else (if 8 < h16.1 (168 + 2 * a1.toNat) 2 then some ((-4), h16) else (if qrem (h16.1 (168 + 2 * a1.toNat) 2) 2 = 0 then (DX9_seenCode_l58 LF (168 + 2 * a1.toNat) 0 h16) else some ((-4), h16)))) else some ((-6), h16))) else none) else some ((-2), h11)))
set_option maxRecDepth 100000 in
theorem TX9_seenCode {L : Nat} {xs : Nat → Int32} (a1 : Int) (h : qH) : qMet L xs yX9_seenCode cX9_seenCode 8 (some .int) 1 2 [qr 0, qi a1] h (DX9_seenCode a1 h) := by
  refine qMet.of (by decide +kernel) (Or.inr (Or.inl ⟨rfl, rfl⟩)) (Nat.le_of_ble_eq_true rfl) ?_
  show qS L xs cX9_seenCode "BottlePost" 8 2 1 0 [(0, qr 0), (1, qi a1)] [] h (DX9_seenCode a1 h)
  unfold DX9_seenCode
  refine S_iload_n 1 dX9_seenCode_0 rfl rfl rfl ?_
  refine S_callS_i (as := [qi a1]) (st := []) (fun _ => rfl) (TX9_isTray a1 h) yv_X9_isTray tw_940 (by decide) rfl rfl (Nat.le_of_ble_eq_true rfl) dX9_seenCode_1 rfl (fun r10 h11 e12 => ?_)
  refine S_if_ne (tgt := 10) dX9_seenCode_4 (by decide) rfl (fun _ => ?_) (fun _ => ?_)
  · refine S_aload_n 0 dX9_seenCode_10 rfl rfl rfl ?_
    refine S_getr (j := 164) (o := 164) 12 qC_9 (by decide) (by decide) qk_0 rfl rfl (by decide) tw_393 dX9_seenCode_11 rfl ?_
    refine S_iload_n 1 dX9_seenCode_14 rfl rfl rfl ?_
    refine S_aald (j := (168 + 2 * a1.toNat)) (C := "BottlePost$Tray") (N := 4) qk_164 (by decide) (by decide) (fun _ => rfl) rfl dX9_seenCode_15 rfl (fun g13 g14 => (qel_164 g13 g14).2) (fun g13 g14 => ?_)
    refine S_astore_n (lv' := [(2, qr (168 + 2 * a1.toNat)), (0, qr 0), (1, qi a1)]) dX9_seenCode_16 rfl (by decide) rfl rfl ?_
    refine S_aload_n 0 dX9_seenCode_17 rfl rfl rfl ?_
    refine S_callV_i (as := []) (st := []) (fun _ => rfl) (TX6_missing (168 + 2 * a1.toNat) (qel_164 g13 g14).1 h11) yv_X6_missing tw_943 qC_6 (qel_164 g13 g14).1 (by decide) rfl rfl (Nat.le_of_ble_eq_true rfl) dX9_seenCode_18 rfl (fun r15 h16 e17 => ?_)
    refine S_if_eq (tgt := 27) dX9_seenCode_21 (by decide) rfl (fun _ => ?_) (fun _ => ?_)
    · refine S_aload_n 0 dX9_seenCode_27 rfl rfl rfl ?_
      refine S_geti 2 qC_6 (by decide) (by decide) (qel_164 g13 g14).1 tw_370 dX9_seenCode_28 rfl ?_
      refine S_iconst (a := 2) dX9_seenCode_31 rfl (by decide) ?_
      refine S_icmp_lt (tgt := 53) dX9_seenCode_32 (by decide) rfl (fun _ => ?_) (fun _ => ?_)
      · refine S_bipush (a := (-4)) dX9_seenCode_53 rfl (by decide) (by decide) ?_
        exact S_iret dX9_seenCode_55
      · refine S_aload_n 0 dX9_seenCode_35 rfl rfl rfl ?_
        refine S_geti 2 qC_6 (by decide) (by decide) (qel_164 g13 g14).1 tw_370 dX9_seenCode_36 rfl ?_
        refine S_bipush (a := 8) dX9_seenCode_39 rfl (by decide) (by decide) ?_
        refine S_icmp_gt (tgt := 53) dX9_seenCode_41 (by decide) rfl (fun _ => ?_) (fun _ => ?_)
        · refine S_bipush (a := (-4)) dX9_seenCode_53 rfl (by decide) (by decide) ?_
          exact S_iret dX9_seenCode_55
        · refine S_aload_n 0 dX9_seenCode_44 rfl rfl rfl ?_
          refine S_geti 2 qC_6 (by decide) (by decide) (qel_164 g13 g14).1 tw_370 dX9_seenCode_45 rfl ?_
          refine S_iconst (a := 2) dX9_seenCode_48 rfl (by decide) ?_
          refine S_irem dX9_seenCode_49 rfl (by decide) ?_
          refine S_if_eq (tgt := 56) dX9_seenCode_50 (by decide) rfl (fun _ => ?_) (fun _ => ?_)
          · refine S_iconst (a := 0) dX9_seenCode_56 rfl (by decide) ?_
            refine S_istore_n (lv' := [(3, qi 0), (2, qr (168 + 2 * a1.toNat)), (0, qr 0), (1, qi a1)]) dX9_seenCode_57 rfl (by decide) rfl rfl ?_
            refine S_sub [2, 1, 0] rfl ?_
            exact TX9_seenCode_l58 LF (168 + 2 * a1.toNat) 0 (qel_164 g13 g14).1 h16
          · refine S_bipush (a := (-4)) dX9_seenCode_53 rfl (by decide) (by decide) ?_
            exact S_iret dX9_seenCode_55
    · refine S_bipush (a := (-6)) dX9_seenCode_24 rfl (by decide) (by decide) ?_
      exact S_iret dX9_seenCode_26
  · refine S_bipush (a := (-2)) dX9_seenCode_7 rfl (by decide) (by decide) ?_
    exact S_iret dX9_seenCode_9
def DX8_fits_l15 (k7 : Nat → Int → Int → Int → qH → Option (Int × qH)) : Nat → Nat → Int → Int → Int → Int → qH → Option (Int × qH)
  | 0, _, _, _, _, _, _ => none
  | n + 1, i2, a3, a5, a6, a7, h => (if h.1 i2 2 ≤ a7 then (qbd (DX2_carry 161 (qw (a3 - a6)) h) fun r1 h2 => (k7 i2 a3 a5 (qw (a6 + (-1))) h2)) else (qbd (DX6_numberAt i2 (qw (a7 + 1)) h) fun r4 h5 => (if ¬ qcmp r4 a6 = 0 then ((DX8_fits_l15 k7 n) i2 a3 a5 a6 (qw (a7 + 2)) h5) else (qbd (DX6_numberAt i2 a7 h5) fun r7 h8 => (qbd (DX0_place 161 h8) fun r10 h11 => (if qcmp r7 r10 = 0 then (qlt (qw (a5 + 1)) fun v13 => ((DX8_fits_l15 k7 n) i2 a3 v13 a6 (qw (a7 + 2)) h11)) else some (0, h11)))))))
set_option maxRecDepth 100000 in
theorem TX8_fits_l15 {L : Nat} {xs : Nat → Int32} (k7 : Nat → Int → Int → Int → qH → Option (Int × qH)) (hk7 : ∀ (i2 : Nat) (a3 : Int) (a5 : Int) (a6 : Int) (t2 : qK i2 = (6, 3)) (h : qH), qS L xs cX8_fits "BottlePost$Witness" 8 6 4 7 [(0, qr 160), (1, qr 4), (2, qr i2), (3, qi a3), (5, qi a5), (6, qi a6)] [] h (k7 i2 a3 a5 a6 h)) : ∀ (n : Nat) (i2 : Nat) (a3 : Int) (a5 : Int) (a6 : Int) (a7 : Int) (t2 : qK i2 = (6, 3)) (h : qH), qS L xs cX8_fits "BottlePost$Witness" 8 6 4 15 [(0, qr 160), (1, qr 4), (2, qr i2), (3, qi a3), (5, qi a5), (6, qi a6), (7, qi a7)] [] h (DX8_fits_l15 k7 n i2 a3 a5 a6 a7 h) := by
  intro n
  induction n with
  | zero =>
    intro i2 a3 a5 a6 a7 t2 h
    exact S_none
  | succ n ih =>
    intro i2 a3 a5 a6 a7 t2 h
    rw [DX8_fits_l15.eq_2]
    refine S_iload 6 dX8_fits_15 rfl rfl ?_
    refine S_aload_n 2 dX8_fits_17 rfl rfl rfl ?_
    refine S_geti 2 qC_6 (by decide) (by decide) t2 tw_369 dX8_fits_18 rfl ?_
    refine S_icmp_ge (tgt := 68) dX8_fits_21 (by decide) rfl (fun _ => ?_) (fun _ => ?_)
    · refine S_aload_n 1 dX8_fits_68 rfl rfl rfl ?_
      refine S_aload_n 0 dX8_fits_69 rfl rfl rfl ?_
      refine S_getr (j := 161) (o := 1) 0 qC_8 (by decide) (by decide) qk_160 rfl rfl (by decide) tw_341 dX8_fits_70 rfl ?_
      refine S_iload_n 3 dX8_fits_73 rfl rfl rfl ?_
      refine S_iload 5 dX8_fits_74 rfl rfl ?_
      refine S_isub dX8_fits_76 rfl ?_
      refine S_callV_0 (as := [qr 161, qi (qw (a3 - a6))]) (st := []) (fun _ => rfl) (TX2_carry 161 (qw (a3 - a6)) qk_161 h) yv_X2_carry tw_1166 qC_2 qk_4 (by decide) rfl rfl (Nat.le_of_ble_eq_true rfl) dX8_fits_77 rfl (fun r1 h2 e3 => ?_)
      refine S_iinc (lv' := [(6, qi (qw (a6 + (-1)))), (0, qr 160), (1, qr 4), (2, qr i2), (3, qi a3), (5, qi a5), (7, qi a7)]) 5 dX8_fits_80 rfl (by decide) rfl rfl ?_
      refine S_goto (pc' := 7) dX8_fits_83 (by decide) ?_
      refine S_sub [1, 2, 3, 4, 5, 0] rfl ?_
      exact hk7 i2 a3 a5 (qw (a6 + (-1))) t2 h2
    · refine S_aload_n 2 dX8_fits_24 rfl rfl rfl ?_
      refine S_iload 6 dX8_fits_25 rfl rfl ?_
      refine S_iconst (a := 1) dX8_fits_27 rfl (by decide) ?_
      refine S_iadd dX8_fits_28 rfl ?_
      refine S_callV_l (as := [qi (qw (a7 + 1))]) (st := []) (fun _ => rfl) (TX6_numberAt i2 (qw (a7 + 1)) t2 h) yv_X6_numberAt tw_1164 qC_6 t2 (by decide) rfl rfl (Nat.le_of_ble_eq_true rfl) dX8_fits_29 rfl (fun r4 h5 e6 => ?_)
      refine S_iload 5 dX8_fits_32 rfl rfl ?_
      refine S_i2l dX8_fits_34 rfl ?_
      refine S_lcmp dX8_fits_35 rfl ?_
      refine S_if_ne (tgt := 62) dX8_fits_36 (by decide) rfl (fun _ => ?_) (fun _ => ?_)
      · refine S_iinc (lv' := [(7, qi (qw (a7 + 2))), (0, qr 160), (1, qr 4), (2, qr i2), (3, qi a3), (5, qi a5), (6, qi a6)]) 6 dX8_fits_62 rfl (by decide) rfl rfl ?_
        refine S_goto (pc' := 15) dX8_fits_65 (by decide) ?_
        refine S_sub [1, 2, 3, 4, 5, 6, 0] rfl ?_
        exact ih i2 a3 a5 a6 (qw (a7 + 2)) t2 h5
      · refine S_aload_n 2 dX8_fits_39 rfl rfl rfl ?_
        refine S_iload 6 dX8_fits_40 rfl rfl ?_
        refine S_callV_l (as := [qi a7]) (st := []) (fun _ => rfl) (TX6_numberAt i2 a7 t2 h5) yv_X6_numberAt tw_1164 qC_6 t2 (by decide) rfl rfl (Nat.le_of_ble_eq_true rfl) dX8_fits_42 rfl (fun r7 h8 e9 => ?_)
        refine S_aload_n 0 dX8_fits_45 rfl rfl rfl ?_
        refine S_getr (j := 161) (o := 1) 0 qC_8 (by decide) (by decide) qk_160 rfl rfl (by decide) tw_341 dX8_fits_46 rfl ?_
        refine S_callV_i (as := []) (st := [ql r7]) (fun _ => rfl) (TX0_place 161 qk_161 h8) yv_X0_place tw_1165 qC_0 qk_161 (by decide) rfl rfl (Nat.le_of_ble_eq_true rfl) dX8_fits_49 rfl (fun r10 h11 e12 => ?_)
        refine S_i2l dX8_fits_52 rfl ?_
        refine S_lcmp dX8_fits_53 rfl ?_
        refine S_if_eq (tgt := 59) dX8_fits_54 (by decide) rfl (fun _ => ?_) (fun _ => ?_)
        · refine S_iinc (lv' := [(5, qi (qw (a5 + 1))), (0, qr 160), (1, qr 4), (2, qr i2), (3, qi a3), (6, qi a6), (7, qi a7)]) 4 dX8_fits_59 rfl (by decide) rfl rfl ?_
          refine S_li (fun v13 => ?_)
          refine S_iinc (lv' := [(7, qi (qw (a7 + 2))), (5, qi v13), (0, qr 160), (1, qr 4), (2, qr i2), (3, qi a3), (6, qi a6)]) 6 dX8_fits_62 rfl (by decide) rfl rfl ?_
          refine S_goto (pc' := 15) dX8_fits_65 (by decide) ?_
          refine S_sub [2, 3, 4, 5, 1, 6, 0] rfl ?_
          exact ih i2 a3 v13 a6 (qw (a7 + 2)) t2 h11
        · refine S_iconst (a := 0) dX8_fits_57 rfl (by decide) ?_
          exact S_zretl (by decide) dX8_fits_58
def DX8_fits_l7 : Nat → Nat → Int → Int → Int → qH → Option (Int × qH)
  | 0, _, _, _, _, _ => none
  | n + 1, i2, a3, a5, a6, h => (if a6 < 0 then (if ¬ qw (a5 * 2) = h.1 i2 2 then some (0, h) else some (1, h)) else (DX8_fits_l15 (DX8_fits_l7 n) LF i2 a3 a5 a6 0 h))
set_option maxRecDepth 100000 in
theorem TX8_fits_l7 {L : Nat} {xs : Nat → Int32} : ∀ (n : Nat) (i2 : Nat) (a3 : Int) (a5 : Int) (a6 : Int) (t2 : qK i2 = (6, 3)) (h : qH), qS L xs cX8_fits "BottlePost$Witness" 8 6 4 7 [(0, qr 160), (1, qr 4), (2, qr i2), (3, qi a3), (5, qi a5), (6, qi a6)] [] h (DX8_fits_l7 n i2 a3 a5 a6 h) := by
  intro n
  induction n with
  | zero =>
    intro i2 a3 a5 a6 t2 h
    exact S_none
  | succ n ih =>
    intro i2 a3 a5 a6 t2 h
    rw [DX8_fits_l7.eq_2]
    refine S_iload 5 dX8_fits_7 rfl rfl ?_
    refine S_if_lt (tgt := 86) dX8_fits_9 (by decide) rfl (fun _ => ?_) (fun _ => ?_)
    · refine S_iload 4 dX8_fits_86 rfl rfl ?_
      refine S_iconst (a := 2) dX8_fits_88 rfl (by decide) ?_
      refine S_imul dX8_fits_89 rfl ?_
      refine S_aload_n 2 dX8_fits_90 rfl rfl rfl ?_
      refine S_geti 2 qC_6 (by decide) (by decide) t2 tw_369 dX8_fits_91 rfl ?_
      refine S_icmp_ne (tgt := 101) dX8_fits_94 (by decide) rfl (fun _ => ?_) (fun _ => ?_)
      · refine S_iconst (a := 0) dX8_fits_101 rfl (by decide) ?_
        exact S_zretl (by decide) dX8_fits_102
      · refine S_iconst (a := 1) dX8_fits_97 rfl (by decide) ?_
        refine S_goto (pc' := 102) dX8_fits_98 (by decide) ?_
        exact S_zretl (by decide) dX8_fits_102
    · refine S_iconst (a := 0) dX8_fits_12 rfl (by decide) ?_
      refine S_istore (lv' := [(7, qi 0), (0, qr 160), (1, qr 4), (2, qr i2), (3, qi a3), (5, qi a5), (6, qi a6)]) dX8_fits_13 (by decide) rfl rfl ?_
      refine S_sub [1, 2, 3, 4, 5, 6, 0] rfl ?_
      exact TX8_fits_l15 (DX8_fits_l7 n) ih LF i2 a3 a5 a6 0 t2 h
def DX8_fits (i2 : Nat) (a3 : Int) (a4 : Int) (h : qH) : Option (Int × qH) := (DX8_fits_l7 LF i2 a3 0 a4 h)
set_option maxRecDepth 100000 in
theorem TX8_fits {L : Nat} {xs : Nat → Int32} (i2 : Nat) (a3 : Int) (a4 : Int) (t2 : qK i2 = (6, 3)) (h : qH) : qMet L xs yX8_fits cX8_fits 8 (some .boolean) 4 6 [qr 160, qr 4, qr i2, qi a3, qi a4] h (DX8_fits i2 a3 a4 h) := by
  refine qMet.of (by decide +kernel) (Or.inr (Or.inr (Or.inr (Or.inr (Or.inl ⟨rfl, rfl⟩))))) (Nat.le_of_ble_eq_true rfl) ?_
  show qS L xs cX8_fits "BottlePost$Witness" 8 6 4 0 [(0, qr 160), (1, qr 4), (2, qr i2), (3, qi a3), (4, qi a4)] [] h (DX8_fits i2 a3 a4 h)
  unfold DX8_fits
  refine S_iconst (a := 0) dX8_fits_0 rfl (by decide) ?_
  refine S_istore (lv' := [(5, qi 0), (0, qr 160), (1, qr 4), (2, qr i2), (3, qi a3), (4, qi a4)]) dX8_fits_1 (by decide) rfl rfl ?_
  refine S_iload 5 dX8_fits_3 rfl rfl ?_
  refine S_istore (lv' := [(6, qi a4), (5, qi 0), (0, qr 160), (1, qr 4), (2, qr i2), (3, qi a3), (4, qi a4)]) dX8_fits_5 (by decide) rfl rfl ?_
  refine S_sub [2, 3, 4, 5, 1, 0] rfl ?_
  exact TX8_fits_l7 LF i2 a3 0 a4 t2 h
def DX8_hearOf_b109 (k3 : Nat → Int → Int → Int → Int → Int → qH → Option (Int × qH)) (k12 : Nat → Int → Int → Int → Int → Int → Int → qH → Option (Int × qH)) (i2 : Nat) (a3 : Int) (a4 : Int) (a5 : Int) (a6 : Int) (a7 : Int) (a8 : Int) (h : qH) : Option (Int × qH) := (qlt (qu h 160 2 (qw (h.1 160 2 + 1))) fun h1 => (qlt (qu h1 160 3 (qor (h1.1 160 3) (qshl 1 a5))) fun h2 => (k12 i2 a3 a4 a5 a6 a7 (qw (a8 + 1)) h2)))
set_option maxRecDepth 100000 in
theorem TX8_hearOf_b109 {L : Nat} {xs : Nat → Int32} (k3 : Nat → Int → Int → Int → Int → Int → qH → Option (Int × qH)) (k12 : Nat → Int → Int → Int → Int → Int → Int → qH → Option (Int × qH)) (hk3 : ∀ (i2 : Nat) (a3 : Int) (a4 : Int) (a5 : Int) (a6 : Int) (a7 : Int) (t2 : qK i2 = (6, 3)) (h : qH), qS L xs cX8_hearOf "BottlePost$Witness" 9 7 0 3 [(0, qr 160), (1, qr 4), (2, qr i2), (3, qi a3), (4, qi a4), (5, qi a5), (6, qi a6), (7, qi a7)] [] h (k3 i2 a3 a4 a5 a6 a7 h)) (hk12 : ∀ (i2 : Nat) (a3 : Int) (a4 : Int) (a5 : Int) (a6 : Int) (a7 : Int) (a8 : Int) (t2 : qK i2 = (6, 3)) (h : qH), qS L xs cX8_hearOf "BottlePost$Witness" 9 7 0 12 [(0, qr 160), (1, qr 4), (2, qr i2), (3, qi a3), (4, qi a4), (5, qi a5), (6, qi a6), (7, qi a7), (8, qi a8)] [] h (k12 i2 a3 a4 a5 a6 a7 a8 h)) (i2 : Nat) (a3 : Int) (a4 : Int) (a5 : Int) (a6 : Int) (a7 : Int) (a8 : Int) (t2 : qK i2 = (6, 3)) (h : qH) : qS L xs cX8_hearOf "BottlePost$Witness" 9 7 0 109 [(0, qr 160), (1, qr 4), (2, qr i2), (3, qi a3), (4, qi a4), (5, qi a5), (6, qi a6), (7, qi a7), (8, qi a8)] [] h (DX8_hearOf_b109 k3 k12 i2 a3 a4 a5 a6 a7 a8 h) := by
  unfold DX8_hearOf_b109
  refine S_aload_n 0 dX8_hearOf_109 rfl rfl rfl ?_
  refine S_dup dX8_hearOf_110 rfl rfl ?_
  refine S_geti 2 qC_8 (by decide) (by decide) qk_160 tw_344 dX8_hearOf_111 rfl ?_
  refine S_iconst (a := 1) dX8_hearOf_114 rfl (by decide) ?_
  refine S_iadd dX8_hearOf_115 rfl ?_
  refine S_puti 2 qC_8 (by decide) (by decide) rfl rfl qk_160 (by decide) tw_344 dX8_hearOf_116 rfl ?_
  refine S_lh (fun h1 => ?_)
  refine S_aload_n 0 dX8_hearOf_119 rfl rfl rfl ?_
  refine S_dup dX8_hearOf_120 rfl rfl ?_
  refine S_geti 3 qC_8 (by decide) (by decide) qk_160 tw_346 dX8_hearOf_121 rfl ?_
  refine S_iconst (a := 1) dX8_hearOf_124 rfl (by decide) ?_
  refine S_iload 5 dX8_hearOf_125 rfl rfl ?_
  refine S_ishl dX8_hearOf_127 rfl ?_
  refine S_ior dX8_hearOf_128 rfl ?_
  refine S_puti 3 qC_8 (by decide) (by decide) rfl rfl qk_160 (by decide) tw_346 dX8_hearOf_129 rfl ?_
  refine S_lh (fun h2 => ?_)
  refine S_iinc (lv' := [(8, qi (qw (a8 + 1))), (0, qr 160), (1, qr 4), (2, qr i2), (3, qi a3), (4, qi a4), (5, qi a5), (6, qi a6), (7, qi a7)]) 8 dX8_hearOf_132 rfl (by decide) rfl rfl ?_
  refine S_goto (pc' := 12) dX8_hearOf_135 (by decide) ?_
  refine S_sub [1, 2, 3, 4, 5, 6, 7, 8, 0] rfl ?_
  exact hk12 i2 a3 a4 a5 a6 a7 (qw (a8 + 1)) t2 h2
def DX8_hearOf_b44 (k3 : Nat → Int → Int → Int → Int → Int → qH → Option (Int × qH)) (k12 : Nat → Int → Int → Int → Int → Int → Int → qH → Option (Int × qH)) (i2 : Nat) (a3 : Int) (a4 : Int) (a5 : Int) (a6 : Int) (a7 : Int) (a8 : Int) (b0 : Int) (b1 : Int) (b2 : Int) (h : qH) : Option (Int × qH) := (qbd (DX1_throwCell 5 a5 h) fun r3 h4 => (qbd (DX0_launch 161 b2 b1 b0 r3 h4) fun r6 h7 => (qbd (DX8_fits i2 a3 a8 h7) fun r9 h10 => (if r9 = 0 then (k12 i2 a3 a4 a5 a6 a7 (qw (a8 + 1)) h10) else (if ¬ h10.1 160 2 = a4 then (DX8_hearOf_b109 k3 k12 i2 a3 a4 a5 a6 a7 a8 h10) else (qlt (qu h10 162 0 a5) fun h12 => (qlt (qu h12 162 1 a6) fun h13 => (qlt (qu h13 162 2 a7) fun h14 => (qlt (qu h14 162 3 a8) fun h15 => (DX8_hearOf_b109 k3 k12 i2 a3 a4 a5 a6 a7 a8 h15))))))))))
set_option maxRecDepth 100000 in
theorem TX8_hearOf_b44 {L : Nat} {xs : Nat → Int32} (k3 : Nat → Int → Int → Int → Int → Int → qH → Option (Int × qH)) (k12 : Nat → Int → Int → Int → Int → Int → Int → qH → Option (Int × qH)) (hk3 : ∀ (i2 : Nat) (a3 : Int) (a4 : Int) (a5 : Int) (a6 : Int) (a7 : Int) (t2 : qK i2 = (6, 3)) (h : qH), qS L xs cX8_hearOf "BottlePost$Witness" 9 7 0 3 [(0, qr 160), (1, qr 4), (2, qr i2), (3, qi a3), (4, qi a4), (5, qi a5), (6, qi a6), (7, qi a7)] [] h (k3 i2 a3 a4 a5 a6 a7 h)) (hk12 : ∀ (i2 : Nat) (a3 : Int) (a4 : Int) (a5 : Int) (a6 : Int) (a7 : Int) (a8 : Int) (t2 : qK i2 = (6, 3)) (h : qH), qS L xs cX8_hearOf "BottlePost$Witness" 9 7 0 12 [(0, qr 160), (1, qr 4), (2, qr i2), (3, qi a3), (4, qi a4), (5, qi a5), (6, qi a6), (7, qi a7), (8, qi a8)] [] h (k12 i2 a3 a4 a5 a6 a7 a8 h)) (i2 : Nat) (a3 : Int) (a4 : Int) (a5 : Int) (a6 : Int) (a7 : Int) (a8 : Int) (b0 : Int) (b1 : Int) (b2 : Int) (t2 : qK i2 = (6, 3)) (h : qH) : qS L xs cX8_hearOf "BottlePost$Witness" 9 7 0 44 [(0, qr 160), (1, qr 4), (2, qr i2), (3, qi a3), (4, qi a4), (5, qi a5), (6, qi a6), (7, qi a7), (8, qi a8)] [qi b0, qi b1, qi b2, qr 161] h (DX8_hearOf_b44 k3 k12 i2 a3 a4 a5 a6 a7 a8 b0 b1 b2 h) := by
  unfold DX8_hearOf_b44
  refine S_aload_n 1 dX8_hearOf_44 rfl rfl rfl ?_
  refine S_getr (j := 5) (o := 1) 0 qC_2 (by decide) (by decide) qk_4 rfl rfl (by decide) tw_238 dX8_hearOf_45 rfl ?_
  refine S_iload 5 dX8_hearOf_48 rfl rfl ?_
  refine S_callV_i (as := [qi a5]) (st := [qi b0, qi b1, qi b2, qr 161]) (fun _ => rfl) (TX1_throwCell 5 a5 qk_5 h) yv_X1_throwCell tw_1154 qC_1 qk_5 (by decide) rfl rfl (Nat.le_of_ble_eq_true rfl) dX8_hearOf_50 rfl (fun r3 h4 e5 => ?_)
  refine S_callV_0 (as := [qi b2, qi b1, qi b0, qi r3]) (st := []) (fun _ => rfl) (TX0_launch 161 b2 b1 b0 r3 qk_161 h4) yv_X0_launch tw_1159 qC_0 qk_161 (by decide) rfl rfl (Nat.le_of_ble_eq_true rfl) dX8_hearOf_53 rfl (fun r6 h7 e8 => ?_)
  refine S_aload_n 0 dX8_hearOf_56 rfl rfl rfl ?_
  refine S_aload_n 1 dX8_hearOf_57 rfl rfl rfl ?_
  refine S_aload_n 2 dX8_hearOf_58 rfl rfl rfl ?_
  refine S_iload_n 3 dX8_hearOf_59 rfl rfl rfl ?_
  refine S_iload 8 dX8_hearOf_60 rfl rfl ?_
  refine S_callV_i (as := [qr 4, qr i2, qi a3, qi a8]) (st := []) (fun _ => rfl) (TX8_fits i2 a3 a8 t2 h7) yv_X8_fits tw_1160 qC_8 qk_160 (by decide) rfl rfl (Nat.le_of_ble_eq_true rfl) dX8_hearOf_62 rfl (fun r9 h10 e11 => ?_)
  refine S_if_eq (tgt := 132) dX8_hearOf_65 (by decide) rfl (fun _ => ?_) (fun _ => ?_)
  · refine S_iinc (lv' := [(8, qi (qw (a8 + 1))), (0, qr 160), (1, qr 4), (2, qr i2), (3, qi a3), (4, qi a4), (5, qi a5), (6, qi a6), (7, qi a7)]) 8 dX8_hearOf_132 rfl (by decide) rfl rfl ?_
    refine S_goto (pc' := 12) dX8_hearOf_135 (by decide) ?_
    refine S_sub [1, 2, 3, 4, 5, 6, 7, 8, 0] rfl ?_
    exact hk12 i2 a3 a4 a5 a6 a7 (qw (a8 + 1)) t2 h10
  · refine S_aload_n 0 dX8_hearOf_68 rfl rfl rfl ?_
    refine S_geti 2 qC_8 (by decide) (by decide) qk_160 tw_344 dX8_hearOf_69 rfl ?_
    refine S_iload 4 dX8_hearOf_72 rfl rfl ?_
    refine S_icmp_ne (tgt := 109) dX8_hearOf_74 (by decide) rfl (fun _ => ?_) (fun _ => ?_)
    · exact TX8_hearOf_b109 k3 k12 hk3 hk12 i2 a3 a4 a5 a6 a7 a8 t2 h10
    · refine S_aload_n 0 dX8_hearOf_77 rfl rfl rfl ?_
      refine S_getr (j := 162) (o := 2) 1 qC_8 (by decide) (by decide) qk_160 rfl rfl (by decide) tw_342 dX8_hearOf_78 rfl ?_
      refine S_iconst (a := 0) dX8_hearOf_81 rfl (by decide) ?_
      refine S_iload 5 dX8_hearOf_82 rfl rfl ?_
      refine S_pick_t ((0 : Int) ≤ 0 ∧ (0 : Int) < 4) (by decide) ?_
      refine S_iast (N := 4) qk_162 rfl dX8_hearOf_84 rfl (fun _ _ => ?_)
      refine S_lh (fun h12 => ?_)
      refine S_aload_n 0 dX8_hearOf_85 rfl rfl rfl ?_
      refine S_getr (j := 162) (o := 2) 1 qC_8 (by decide) (by decide) qk_160 rfl rfl (by decide) tw_342 dX8_hearOf_86 rfl ?_
      refine S_iconst (a := 1) dX8_hearOf_89 rfl (by decide) ?_
      refine S_iload 6 dX8_hearOf_90 rfl rfl ?_
      refine S_pick_t ((0 : Int) ≤ 1 ∧ (1 : Int) < 4) (by decide) ?_
      refine S_iast (N := 4) qk_162 rfl dX8_hearOf_92 rfl (fun _ _ => ?_)
      refine S_lh (fun h13 => ?_)
      refine S_aload_n 0 dX8_hearOf_93 rfl rfl rfl ?_
      refine S_getr (j := 162) (o := 2) 1 qC_8 (by decide) (by decide) qk_160 rfl rfl (by decide) tw_342 dX8_hearOf_94 rfl ?_
      refine S_iconst (a := 2) dX8_hearOf_97 rfl (by decide) ?_
      refine S_iload 7 dX8_hearOf_98 rfl rfl ?_
      refine S_pick_t ((0 : Int) ≤ 2 ∧ (2 : Int) < 4) (by decide) ?_
      refine S_iast (N := 4) qk_162 rfl dX8_hearOf_100 rfl (fun _ _ => ?_)
      refine S_lh (fun h14 => ?_)
      refine S_aload_n 0 dX8_hearOf_101 rfl rfl rfl ?_
      refine S_getr (j := 162) (o := 2) 1 qC_8 (by decide) (by decide) qk_160 rfl rfl (by decide) tw_342 dX8_hearOf_102 rfl ?_
      refine S_iconst (a := 3) dX8_hearOf_105 rfl (by decide) ?_
      refine S_iload 8 dX8_hearOf_106 rfl rfl ?_
      refine S_pick_t ((0 : Int) ≤ 3 ∧ (3 : Int) < 4) (by decide) ?_
      refine S_iast (N := 4) qk_162 rfl dX8_hearOf_108 rfl (fun _ _ => ?_)
      refine S_lh (fun h15 => ?_)
      exact TX8_hearOf_b109 k3 k12 hk3 hk12 i2 a3 a4 a5 a6 a7 a8 t2 h15
def DX8_hearOf_l12 (k3 : Nat → Int → Int → Int → Int → Int → qH → Option (Int × qH)) : Nat → Nat → Int → Int → Int → Int → Int → Int → qH → Option (Int × qH)
  | 0, _, _, _, _, _, _, _, _ => none
  | n + 1, i2, a3, a4, a5, a6, a7, a8, h => (if 30 < a8 then (k3 i2 a3 a4 a5 a6 (qw (a7 + 1)) h) else (if a3 < a8 then (k3 i2 a3 a4 a5 a6 (qw (a7 + 1)) h) else (if ¬ a7 = 1 then (DX8_hearOf_b44 k3 (DX8_hearOf_l12 k3 n) i2 a3 a4 a5 a6 a7 a8 0 a6 a5 h) else (DX8_hearOf_b44 k3 (DX8_hearOf_l12 k3 n) i2 a3 a4 a5 a6 a7 a8 1 a6 a5 h))))
set_option maxRecDepth 100000 in
theorem TX8_hearOf_l12 {L : Nat} {xs : Nat → Int32} (k3 : Nat → Int → Int → Int → Int → Int → qH → Option (Int × qH)) (hk3 : ∀ (i2 : Nat) (a3 : Int) (a4 : Int) (a5 : Int) (a6 : Int) (a7 : Int) (t2 : qK i2 = (6, 3)) (h : qH), qS L xs cX8_hearOf "BottlePost$Witness" 9 7 0 3 [(0, qr 160), (1, qr 4), (2, qr i2), (3, qi a3), (4, qi a4), (5, qi a5), (6, qi a6), (7, qi a7)] [] h (k3 i2 a3 a4 a5 a6 a7 h)) : ∀ (n : Nat) (i2 : Nat) (a3 : Int) (a4 : Int) (a5 : Int) (a6 : Int) (a7 : Int) (a8 : Int) (t2 : qK i2 = (6, 3)) (h : qH), qS L xs cX8_hearOf "BottlePost$Witness" 9 7 0 12 [(0, qr 160), (1, qr 4), (2, qr i2), (3, qi a3), (4, qi a4), (5, qi a5), (6, qi a6), (7, qi a7), (8, qi a8)] [] h (DX8_hearOf_l12 k3 n i2 a3 a4 a5 a6 a7 a8 h) := by
  intro n
  induction n with
  | zero =>
    intro i2 a3 a4 a5 a6 a7 a8 t2 h
    exact S_none
  | succ n ih =>
    intro i2 a3 a4 a5 a6 a7 a8 t2 h
    rw [DX8_hearOf_l12.eq_2]
    refine S_iload 8 dX8_hearOf_12 rfl rfl ?_
    refine S_bipush (a := 30) dX8_hearOf_14 rfl (by decide) (by decide) ?_
    refine S_icmp_gt (tgt := 138) dX8_hearOf_16 (by decide) rfl (fun _ => ?_) (fun _ => ?_)
    · refine S_iinc (lv' := [(7, qi (qw (a7 + 1))), (0, qr 160), (1, qr 4), (2, qr i2), (3, qi a3), (4, qi a4), (5, qi a5), (6, qi a6), (8, qi a8)]) 7 dX8_hearOf_138 rfl (by decide) rfl rfl ?_
      refine S_goto (pc' := 3) dX8_hearOf_141 (by decide) ?_
      refine S_sub [1, 2, 3, 4, 5, 6, 7, 0] rfl ?_
      exact hk3 i2 a3 a4 a5 a6 (qw (a7 + 1)) t2 h
    · refine S_iload 8 dX8_hearOf_19 rfl rfl ?_
      refine S_iload_n 3 dX8_hearOf_21 rfl rfl rfl ?_
      refine S_icmp_gt (tgt := 138) dX8_hearOf_22 (by decide) rfl (fun _ => ?_) (fun _ => ?_)
      · refine S_iinc (lv' := [(7, qi (qw (a7 + 1))), (0, qr 160), (1, qr 4), (2, qr i2), (3, qi a3), (4, qi a4), (5, qi a5), (6, qi a6), (8, qi a8)]) 7 dX8_hearOf_138 rfl (by decide) rfl rfl ?_
        refine S_goto (pc' := 3) dX8_hearOf_141 (by decide) ?_
        refine S_sub [1, 2, 3, 4, 5, 6, 7, 0] rfl ?_
        exact hk3 i2 a3 a4 a5 a6 (qw (a7 + 1)) t2 h
      · refine S_aload_n 0 dX8_hearOf_25 rfl rfl rfl ?_
        refine S_getr (j := 161) (o := 1) 0 qC_8 (by decide) (by decide) qk_160 rfl rfl (by decide) tw_341 dX8_hearOf_26 rfl ?_
        refine S_iload 5 dX8_hearOf_29 rfl rfl ?_
        refine S_iload 6 dX8_hearOf_31 rfl rfl ?_
        refine S_iload 7 dX8_hearOf_33 rfl rfl ?_
        refine S_iconst (a := 1) dX8_hearOf_35 rfl (by decide) ?_
        refine S_icmp_ne (tgt := 43) dX8_hearOf_36 (by decide) rfl (fun _ => ?_) (fun _ => ?_)
        · refine S_iconst (a := 0) dX8_hearOf_43 rfl (by decide) ?_
          exact TX8_hearOf_b44 k3 (DX8_hearOf_l12 k3 n) hk3 ih i2 a3 a4 a5 a6 a7 a8 0 a6 a5 t2 h
        · refine S_iconst (a := 1) dX8_hearOf_39 rfl (by decide) ?_
          refine S_goto (pc' := 44) dX8_hearOf_40 (by decide) ?_
          exact TX8_hearOf_b44 k3 (DX8_hearOf_l12 k3 n) hk3 ih i2 a3 a4 a5 a6 a7 a8 1 a6 a5 t2 h
def DX8_hearOf_l3 : Nat → Nat → Int → Int → Int → Int → Int → qH → Option (Int × qH)
  | 0, _, _, _, _, _, _, _ => none
  | n + 1, i2, a3, a4, a5, a6, a7, h => (if 2 ≤ a7 then some (0, h) else (DX8_hearOf_l12 (DX8_hearOf_l3 n) LF i2 a3 a4 a5 a6 a7 0 h))
set_option maxRecDepth 100000 in
theorem TX8_hearOf_l3 {L : Nat} {xs : Nat → Int32} : ∀ (n : Nat) (i2 : Nat) (a3 : Int) (a4 : Int) (a5 : Int) (a6 : Int) (a7 : Int) (t2 : qK i2 = (6, 3)) (h : qH), qS L xs cX8_hearOf "BottlePost$Witness" 9 7 0 3 [(0, qr 160), (1, qr 4), (2, qr i2), (3, qi a3), (4, qi a4), (5, qi a5), (6, qi a6), (7, qi a7)] [] h (DX8_hearOf_l3 n i2 a3 a4 a5 a6 a7 h) := by
  intro n
  induction n with
  | zero =>
    intro i2 a3 a4 a5 a6 a7 t2 h
    exact S_none
  | succ n ih =>
    intro i2 a3 a4 a5 a6 a7 t2 h
    rw [DX8_hearOf_l3.eq_2]
    refine S_iload 7 dX8_hearOf_3 rfl rfl ?_
    refine S_iconst (a := 2) dX8_hearOf_5 rfl (by decide) ?_
    refine S_icmp_ge (tgt := 144) dX8_hearOf_6 (by decide) rfl (fun _ => ?_) (fun _ => ?_)
    · exact S_vret dX8_hearOf_144
    · refine S_iconst (a := 0) dX8_hearOf_9 rfl (by decide) ?_
      refine S_istore (lv' := [(8, qi 0), (0, qr 160), (1, qr 4), (2, qr i2), (3, qi a3), (4, qi a4), (5, qi a5), (6, qi a6), (7, qi a7)]) dX8_hearOf_10 (by decide) rfl rfl ?_
      refine S_sub [1, 2, 3, 4, 5, 6, 7, 8, 0] rfl ?_
      exact TX8_hearOf_l12 (DX8_hearOf_l3 n) ih LF i2 a3 a4 a5 a6 a7 0 t2 h
def DX8_hearOf (i2 : Nat) (a3 : Int) (a4 : Int) (a5 : Int) (a6 : Int) (h : qH) : Option (Int × qH) := (DX8_hearOf_l3 LF i2 a3 a4 a5 a6 0 h)
set_option maxRecDepth 100000 in
theorem TX8_hearOf {L : Nat} {xs : Nat → Int32} (i2 : Nat) (a3 : Int) (a4 : Int) (a5 : Int) (a6 : Int) (t2 : qK i2 = (6, 3)) (h : qH) : qMet L xs yX8_hearOf cX8_hearOf 9 (none) 0 7 [qr 160, qr 4, qr i2, qi a3, qi a4, qi a5, qi a6] h (DX8_hearOf i2 a3 a4 a5 a6 h) := by
  refine qMet.of (by decide +kernel) (Or.inl ⟨rfl, rfl⟩) (Nat.le_of_ble_eq_true rfl) ?_
  show qS L xs cX8_hearOf "BottlePost$Witness" 9 7 0 0 [(0, qr 160), (1, qr 4), (2, qr i2), (3, qi a3), (4, qi a4), (5, qi a5), (6, qi a6)] [] h (DX8_hearOf i2 a3 a4 a5 a6 h)
  unfold DX8_hearOf
  refine S_iconst (a := 0) dX8_hearOf_0 rfl (by decide) ?_
  refine S_istore (lv' := [(7, qi 0), (0, qr 160), (1, qr 4), (2, qr i2), (3, qi a3), (4, qi a4), (5, qi a5), (6, qi a6)]) dX8_hearOf_1 (by decide) rfl rfl ?_
  refine S_sub [1, 2, 3, 4, 5, 6, 7, 0] rfl ?_
  exact TX8_hearOf_l3 LF i2 a3 a4 a5 a6 0 t2 h
def DX8_hear_l32 (k22 : Nat → Int → Int → Int → Int → qH → Option (Int × qH)) : Nat → Nat → Int → Int → Int → Int → Int → qH → Option (Int × qH)
  | 0, _, _, _, _, _, _, _ => none
  | n + 1, i2, a3, a4, a5, a6, a7, h => (if a5 ≤ a7 then (k22 i2 a3 a4 a5 (qw (a6 + 1)) h) else (if a7 = a6 then ((DX8_hear_l32 k22 n) i2 a3 a4 a5 a6 (qw (a7 + 1)) h) else (qbd (DX1_throwCell 5 a6 h) fun r1 h2 => (if r1 = (-1) then ((DX8_hear_l32 k22 n) i2 a3 a4 a5 a6 (qw (a7 + 1)) h2) else (qbd (DX8_hearOf i2 a3 a4 a6 a7 h2) fun r4 h5 => ((DX8_hear_l32 k22 n) i2 a3 a4 a5 a6 (qw (a7 + 1)) h5))))))
set_option maxRecDepth 100000 in
theorem TX8_hear_l32 {L : Nat} {xs : Nat → Int32} (k22 : Nat → Int → Int → Int → Int → qH → Option (Int × qH)) (hk22 : ∀ (i2 : Nat) (a3 : Int) (a4 : Int) (a5 : Int) (a6 : Int) (t2 : qK i2 = (6, 3)) (h : qH), qS L xs cX8_hear "BottlePost$Witness" 8 8 0 22 [(0, qr 160), (1, qr 4), (2, qr i2), (3, qi a3), (4, qi a4), (5, qi a5), (6, qi a6)] [] h (k22 i2 a3 a4 a5 a6 h)) : ∀ (n : Nat) (i2 : Nat) (a3 : Int) (a4 : Int) (a5 : Int) (a6 : Int) (a7 : Int) (t2 : qK i2 = (6, 3)) (h : qH), qS L xs cX8_hear "BottlePost$Witness" 8 8 0 32 [(0, qr 160), (1, qr 4), (2, qr i2), (3, qi a3), (4, qi a4), (5, qi a5), (6, qi a6), (7, qi a7)] [] h (DX8_hear_l32 k22 n i2 a3 a4 a5 a6 a7 h) := by
  intro n
  induction n with
  | zero =>
    intro i2 a3 a4 a5 a6 a7 t2 h
    exact S_none
  | succ n ih =>
    intro i2 a3 a4 a5 a6 a7 t2 h
    rw [DX8_hear_l32.eq_2]
    refine S_iload 7 dX8_hear_32 rfl rfl ?_
    refine S_iload 5 dX8_hear_34 rfl rfl ?_
    refine S_icmp_ge (tgt := 78) dX8_hear_36 (by decide) rfl (fun _ => ?_) (fun _ => ?_)
    · refine S_iinc (lv' := [(6, qi (qw (a6 + 1))), (0, qr 160), (1, qr 4), (2, qr i2), (3, qi a3), (4, qi a4), (5, qi a5), (7, qi a7)]) 6 dX8_hear_78 rfl (by decide) rfl rfl ?_
      refine S_goto (pc' := 22) dX8_hear_81 (by decide) ?_
      refine S_sub [1, 2, 3, 4, 5, 6, 0] rfl ?_
      exact hk22 i2 a3 a4 a5 (qw (a6 + 1)) t2 h
    · refine S_iload 7 dX8_hear_39 rfl rfl ?_
      refine S_iload 6 dX8_hear_41 rfl rfl ?_
      refine S_icmp_eq (tgt := 72) dX8_hear_43 (by decide) rfl (fun _ => ?_) (fun _ => ?_)
      · refine S_iinc (lv' := [(7, qi (qw (a7 + 1))), (0, qr 160), (1, qr 4), (2, qr i2), (3, qi a3), (4, qi a4), (5, qi a5), (6, qi a6)]) 7 dX8_hear_72 rfl (by decide) rfl rfl ?_
        refine S_goto (pc' := 32) dX8_hear_75 (by decide) ?_
        refine S_sub [1, 2, 3, 4, 5, 6, 7, 0] rfl ?_
        exact ih i2 a3 a4 a5 a6 (qw (a7 + 1)) t2 h
      · refine S_aload_n 1 dX8_hear_46 rfl rfl rfl ?_
        refine S_getr (j := 5) (o := 1) 0 qC_2 (by decide) (by decide) qk_4 rfl rfl (by decide) tw_238 dX8_hear_47 rfl ?_
        refine S_iload 6 dX8_hear_50 rfl rfl ?_
        refine S_callV_i (as := [qi a6]) (st := []) (fun _ => rfl) (TX1_throwCell 5 a6 qk_5 h) yv_X1_throwCell tw_1154 qC_1 qk_5 (by decide) rfl rfl (Nat.le_of_ble_eq_true rfl) dX8_hear_52 rfl (fun r1 h2 e3 => ?_)
        refine S_iconst (a := (-1)) dX8_hear_55 rfl (by decide) ?_
        refine S_icmp_eq (tgt := 72) dX8_hear_56 (by decide) rfl (fun _ => ?_) (fun _ => ?_)
        · refine S_iinc (lv' := [(7, qi (qw (a7 + 1))), (0, qr 160), (1, qr 4), (2, qr i2), (3, qi a3), (4, qi a4), (5, qi a5), (6, qi a6)]) 7 dX8_hear_72 rfl (by decide) rfl rfl ?_
          refine S_goto (pc' := 32) dX8_hear_75 (by decide) ?_
          refine S_sub [1, 2, 3, 4, 5, 6, 7, 0] rfl ?_
          exact ih i2 a3 a4 a5 a6 (qw (a7 + 1)) t2 h2
        · refine S_aload_n 0 dX8_hear_59 rfl rfl rfl ?_
          refine S_aload_n 1 dX8_hear_60 rfl rfl rfl ?_
          refine S_aload_n 2 dX8_hear_61 rfl rfl rfl ?_
          refine S_iload_n 3 dX8_hear_62 rfl rfl rfl ?_
          refine S_iload 4 dX8_hear_63 rfl rfl ?_
          refine S_iload 6 dX8_hear_65 rfl rfl ?_
          refine S_iload 7 dX8_hear_67 rfl rfl ?_
          refine S_callV_0 (as := [qr 4, qr i2, qi a3, qi a4, qi a6, qi a7]) (st := []) (fun _ => rfl) (TX8_hearOf i2 a3 a4 a6 a7 t2 h2) yv_X8_hearOf tw_1155 qC_8 qk_160 (by decide) rfl rfl (Nat.le_of_ble_eq_true rfl) dX8_hear_69 rfl (fun r4 h5 e6 => ?_)
          refine S_iinc (lv' := [(7, qi (qw (a7 + 1))), (0, qr 160), (1, qr 4), (2, qr i2), (3, qi a3), (4, qi a4), (5, qi a5), (6, qi a6)]) 7 dX8_hear_72 rfl (by decide) rfl rfl ?_
          refine S_goto (pc' := 32) dX8_hear_75 (by decide) ?_
          refine S_sub [1, 2, 3, 4, 5, 6, 7, 0] rfl ?_
          exact ih i2 a3 a4 a5 a6 (qw (a7 + 1)) t2 h5
def DX8_hear_l22 : Nat → Nat → Int → Int → Int → Int → qH → Option (Int × qH)
  | 0, _, _, _, _, _, _ => none
  | n + 1, i2, a3, a4, a5, a6, h => (if a5 ≤ a6 then some (0, h) else (DX8_hear_l32 (DX8_hear_l22 n) LF i2 a3 a4 a5 a6 (-1) h))
set_option maxRecDepth 100000 in
theorem TX8_hear_l22 {L : Nat} {xs : Nat → Int32} : ∀ (n : Nat) (i2 : Nat) (a3 : Int) (a4 : Int) (a5 : Int) (a6 : Int) (t2 : qK i2 = (6, 3)) (h : qH), qS L xs cX8_hear "BottlePost$Witness" 8 8 0 22 [(0, qr 160), (1, qr 4), (2, qr i2), (3, qi a3), (4, qi a4), (5, qi a5), (6, qi a6)] [] h (DX8_hear_l22 n i2 a3 a4 a5 a6 h) := by
  intro n
  induction n with
  | zero =>
    intro i2 a3 a4 a5 a6 t2 h
    exact S_none
  | succ n ih =>
    intro i2 a3 a4 a5 a6 t2 h
    rw [DX8_hear_l22.eq_2]
    refine S_iload 6 dX8_hear_22 rfl rfl ?_
    refine S_iload 5 dX8_hear_24 rfl rfl ?_
    refine S_icmp_ge (tgt := 84) dX8_hear_26 (by decide) rfl (fun _ => ?_) (fun _ => ?_)
    · exact S_vret dX8_hear_84
    · refine S_iconst (a := (-1)) dX8_hear_29 rfl (by decide) ?_
      refine S_istore (lv' := [(7, qi (-1)), (0, qr 160), (1, qr 4), (2, qr i2), (3, qi a3), (4, qi a4), (5, qi a5), (6, qi a6)]) dX8_hear_30 (by decide) rfl rfl ?_
      refine S_sub [1, 2, 3, 4, 5, 6, 7, 0] rfl ?_
      exact TX8_hear_l32 (DX8_hear_l22 n) ih LF i2 a3 a4 a5 a6 (-1) t2 h
def DX8_hear (i2 : Nat) (a3 : Int) (a4 : Int) (h : qH) : Option (Int × qH) := (qlt (qu h 160 2 0) fun h7 => (qlt (qu h7 160 3 0) fun h8 => (qlt (h8.1 5 14) fun v9 => (DX8_hear_l22 LF i2 a3 a4 v9 0 h8))))
set_option maxRecDepth 100000 in
theorem TX8_hear {L : Nat} {xs : Nat → Int32} (i2 : Nat) (a3 : Int) (a4 : Int) (t2 : qK i2 = (6, 3)) (h : qH) : qMet L xs yX8_hear cX8_hear 8 (none) 0 8 [qr 160, qr 4, qr i2, qi a3, qi a4] h (DX8_hear i2 a3 a4 h) := by
  refine qMet.of (by decide +kernel) (Or.inl ⟨rfl, rfl⟩) (Nat.le_of_ble_eq_true rfl) ?_
  show qS L xs cX8_hear "BottlePost$Witness" 8 8 0 0 [(0, qr 160), (1, qr 4), (2, qr i2), (3, qi a3), (4, qi a4)] [] h (DX8_hear i2 a3 a4 h)
  unfold DX8_hear
  refine S_aload_n 0 dX8_hear_0 rfl rfl rfl ?_
  refine S_iconst (a := 0) dX8_hear_1 rfl (by decide) ?_
  refine S_puti 2 qC_8 (by decide) (by decide) rfl rfl qk_160 (by decide) tw_344 dX8_hear_2 rfl ?_
  refine S_lh (fun h7 => ?_)
  refine S_aload_n 0 dX8_hear_5 rfl rfl rfl ?_
  refine S_iconst (a := 0) dX8_hear_6 rfl (by decide) ?_
  refine S_puti 3 qC_8 (by decide) (by decide) rfl rfl qk_160 (by decide) tw_346 dX8_hear_7 rfl ?_
  refine S_lh (fun h8 => ?_)
  refine S_aload_n 1 dX8_hear_10 rfl rfl rfl ?_
  refine S_getr (j := 5) (o := 1) 0 qC_2 (by decide) (by decide) qk_4 rfl rfl (by decide) tw_238 dX8_hear_11 rfl ?_
  refine S_geti 14 qC_1 (by decide) (by decide) qk_5 tw_83 dX8_hear_14 rfl ?_
  refine S_istore (lv' := [(5, qi (h8.1 5 14)), (0, qr 160), (1, qr 4), (2, qr i2), (3, qi a3), (4, qi a4)]) dX8_hear_17 (by decide) rfl rfl ?_
  refine S_li (fun v9 => ?_)
  refine S_iconst (a := 0) dX8_hear_19 rfl (by decide) ?_
  refine S_istore (lv' := [(6, qi 0), (5, qi v9), (0, qr 160), (1, qr 4), (2, qr i2), (3, qi a3), (4, qi a4)]) dX8_hear_20 (by decide) rfl rfl ?_
  refine S_sub [2, 3, 4, 5, 6, 1, 0] rfl ?_
  exact TX8_hear_l22 LF i2 a3 a4 v9 0 t2 h8
def DX9_seen (a1 : Int) (h : qH) : Option (Int × qH) := (qbd (DX9_seenCode a1 h) fun r1 h2 => (if ¬ r1 = 0 then some (r1, h2) else (qbd (DX9_isTray a1 h2) fun r4 h5 => (if ¬ r4 = 0 then (if 0 ≤ a1 ∧ a1 < 4 then (qbd (DX8_hear (168 + 2 * a1.toNat) (h5.1 24 2) (-1) h5) fun r9 h10 => some (h10.1 160 2, h10)) else none) else some (r1, h5)))))
set_option maxRecDepth 100000 in
theorem TX9_seen {L : Nat} {xs : Nat → Int32} (a1 : Int) (h : qH) : qMet L xs yX9_seen cX9_seen 3 (some .int) 1 9 [qr 0, qi a1] h (DX9_seen a1 h) := by
  refine qMet.of (by decide +kernel) (Or.inr (Or.inl ⟨rfl, rfl⟩)) (Nat.le_of_ble_eq_true rfl) ?_
  show qS L xs cX9_seen "BottlePost" 3 9 1 0 [(0, qr 0), (1, qi a1)] [] h (DX9_seen a1 h)
  unfold DX9_seen
  refine S_aload_n 0 dX9_seen_0 rfl rfl rfl ?_
  refine S_iload_n 1 dX9_seen_1 rfl rfl rfl ?_
  refine S_callV_i (as := [qi a1]) (st := []) (fun _ => rfl) (TX9_seenCode a1 h) yv_X9_seenCode tw_1145 qC_9 qk_0 (by decide) rfl rfl (Nat.le_of_ble_eq_true rfl) dX9_seen_2 rfl (fun r1 h2 e3 => ?_)
  refine S_istore_n (lv' := [(2, qi r1), (0, qr 0), (1, qi a1)]) dX9_seen_5 rfl (by decide) rfl rfl ?_
  refine S_iload_n 0 dX9_seen_6 rfl rfl rfl ?_
  refine S_if_ne (tgt := 17) dX9_seen_7 (by decide) rfl (fun _ => ?_) (fun _ => ?_)
  · refine S_iload_n 0 dX9_seen_17 rfl rfl rfl ?_
    exact S_iret dX9_seen_18
  · refine S_iload_n 2 dX9_seen_10 rfl rfl rfl ?_
    refine S_callS_i (as := [qi a1]) (st := []) (fun _ => rfl) (TX9_isTray a1 h2) yv_X9_isTray tw_940 (by decide) rfl rfl (Nat.le_of_ble_eq_true rfl) dX9_seen_11 rfl (fun r4 h5 e6 => ?_)
    refine S_if_ne (tgt := 19) dX9_seen_14 (by decide) rfl (fun _ => ?_) (fun _ => ?_)
    · refine S_aload_n 1 dX9_seen_19 rfl rfl rfl ?_
      refine S_getr (j := 160) (o := 160) 10 qC_9 (by decide) (by decide) qk_0 rfl rfl (by decide) tw_391 dX9_seen_20 rfl ?_
      refine S_aload_n 1 dX9_seen_23 rfl rfl rfl ?_
      refine S_getr (j := 4) (o := 4) 3 qC_9 (by decide) (by decide) qk_0 rfl rfl (by decide) tw_384 dX9_seen_24 rfl ?_
      refine S_aload_n 1 dX9_seen_27 rfl rfl rfl ?_
      refine S_getr (j := 164) (o := 164) 12 qC_9 (by decide) (by decide) qk_0 rfl rfl (by decide) tw_393 dX9_seen_28 rfl ?_
      refine S_iload_n 2 dX9_seen_31 rfl rfl rfl ?_
      refine S_aald (j := (168 + 2 * a1.toNat)) (C := "BottlePost$Tray") (N := 4) qk_164 (by decide) (by decide) (fun _ => rfl) rfl dX9_seen_32 rfl (fun g7 g8 => (qel_164 g7 g8).2) (fun g7 g8 => ?_)
      refine S_aload_n 1 dX9_seen_33 rfl rfl rfl ?_
      refine S_getr (j := 24) (o := 24) 5 qC_9 (by decide) (by decide) qk_0 rfl rfl (by decide) tw_386 dX9_seen_34 rfl ?_
      refine S_geti 2 qC_7 (by decide) (by decide) qk_24 tw_276 dX9_seen_37 rfl ?_
      refine S_iconst (a := (-1)) dX9_seen_40 rfl (by decide) ?_
      refine S_callV_0 (as := [qr 4, qr (168 + 2 * a1.toNat), qi (h5.1 24 2), qi (-1)]) (st := []) (fun _ => rfl) (TX8_hear (168 + 2 * a1.toNat) (h5.1 24 2) (-1) (qel_164 g7 g8).1 h5) yv_X8_hear tw_1150 qC_8 qk_160 (by decide) rfl rfl (Nat.le_of_ble_eq_true rfl) dX9_seen_41 rfl (fun r9 h10 e11 => ?_)
      refine S_aload_n 1 dX9_seen_44 rfl rfl rfl ?_
      refine S_getr (j := 160) (o := 160) 10 qC_9 (by decide) (by decide) qk_0 rfl rfl (by decide) tw_391 dX9_seen_45 rfl ?_
      refine S_geti 2 qC_8 (by decide) (by decide) qk_160 tw_345 dX9_seen_48 rfl ?_
      exact S_iret dX9_seen_51
    · refine S_iload_n 0 dX9_seen_17 rfl rfl rfl ?_
      exact S_iret dX9_seen_18
def DX7_keptBy_l4 : Nat → Nat → Int → Int → Int → qH → Option (Int × qH)
  | 0, _, _, _, _, _ => none
  | n + 1, i0, a1, a2, a3, h => (if h.1 i0 1 ≤ a3 then some (a2, h) else (if 8 ≤ a3 then some (a2, h) else (if 0 ≤ a3 ∧ a3 < 8 then (if ¬ h.1 (i0 + 2 + a3.toNat) 0 = 2 then ((DX7_keptBy_l4 n) i0 a1 a2 (qw (a3 + 1)) h) else (if 0 ≤ a3 ∧ a3 < 8 then (if ¬ h.1 (i0 + 2 + a3.toNat) 7 = a1 then ((DX7_keptBy_l4 n) i0 a1 a2 (qw (a3 + 1)) h) else (qlt (qor a2 (qshl 1 a3)) fun v5 => ((DX7_keptBy_l4 n) i0 a1 v5 (qw (a3 + 1)) h))) else none)) else none)))
set_option maxRecDepth 100000 in
theorem TX7_keptBy_l4 {L : Nat} {xs : Nat → Int32} : ∀ (n : Nat) (i0 : Nat) (a1 : Int) (a2 : Int) (a3 : Int) (t0 : qK i0 = (7, 3)) (h : qH), qS L xs cX7_keptBy "BottlePost$Waters" 4 1 1 4 [(0, qr i0), (1, qi a1), (2, qi a2), (3, qi a3)] [] h (DX7_keptBy_l4 n i0 a1 a2 a3 h) := by
  intro n
  induction n with
  | zero =>
    intro i0 a1 a2 a3 t0 h
    exact S_none
  | succ n ih =>
    intro i0 a1 a2 a3 t0 h
    rw [DX7_keptBy_l4.eq_2]
    refine S_iload_n 3 dX7_keptBy_4 rfl rfl rfl ?_
    refine S_aload_n 0 dX7_keptBy_5 rfl rfl rfl ?_
    refine S_geti 1 qC_7 (by decide) (by decide) t0 tw_273 dX7_keptBy_6 rfl ?_
    refine S_icmp_ge (tgt := 56) dX7_keptBy_9 (by decide) rfl (fun _ => ?_) (fun _ => ?_)
    · refine S_iload_n 2 dX7_keptBy_56 rfl rfl rfl ?_
      exact S_iret dX7_keptBy_57
    · refine S_iload_n 3 dX7_keptBy_12 rfl rfl rfl ?_
      refine S_bipush (a := 8) dX7_keptBy_13 rfl (by decide) (by decide) ?_
      refine S_icmp_ge (tgt := 56) dX7_keptBy_15 (by decide) rfl (fun _ => ?_) (fun _ => ?_)
      · refine S_iload_n 2 dX7_keptBy_56 rfl rfl rfl ?_
        exact S_iret dX7_keptBy_57
      · refine S_aload_n 0 dX7_keptBy_18 rfl rfl rfl ?_
        refine S_getr (j := (i0 + 1)) (o := 1) 0 qC_7 (by decide) (by decide) t0 rfl rfl (qf_7_0 t0).2 tw_271 dX7_keptBy_19 rfl ?_
        refine S_iload_n 3 dX7_keptBy_22 rfl rfl rfl ?_
        refine S_aald (j := (i0 + 2 + a3.toNat)) (C := "BottlePost$Bottle") (N := 8) (qf_7_0 t0).1 (by decide) (by decide) (fun _ => rfl) rfl dX7_keptBy_23 rfl (fun g1 g2 => (qel_25 (qf_7_0 t0).1 g1 g2).2) (fun g1 g2 => ?_)
        refine S_geti 0 qC_0 (by decide) (by decide) (qel_25 (qf_7_0 t0).1 g1 g2).1 tw_194 dX7_keptBy_24 rfl ?_
        refine S_iconst (a := 2) dX7_keptBy_27 rfl (by decide) ?_
        refine S_icmp_ne (tgt := 50) dX7_keptBy_28 (by decide) rfl (fun _ => ?_) (fun _ => ?_)
        · refine S_iinc (lv' := [(3, qi (qw (a3 + 1))), (0, qr i0), (1, qi a1), (2, qi a2)]) 3 dX7_keptBy_50 rfl (by decide) rfl rfl ?_
          refine S_goto (pc' := 4) dX7_keptBy_53 (by decide) ?_
          refine S_sub [1, 2, 3, 0] rfl ?_
          exact ih i0 a1 a2 (qw (a3 + 1)) t0 h
        · refine S_aload_n 0 dX7_keptBy_31 rfl rfl rfl ?_
          refine S_getr (j := (i0 + 1)) (o := 1) 0 qC_7 (by decide) (by decide) t0 rfl rfl (qf_7_0 t0).2 tw_271 dX7_keptBy_32 rfl ?_
          refine S_iload_n 3 dX7_keptBy_35 rfl rfl rfl ?_
          refine S_aald (j := (i0 + 2 + a3.toNat)) (C := "BottlePost$Bottle") (N := 8) (qf_7_0 t0).1 (by decide) (by decide) (fun _ => rfl) rfl dX7_keptBy_36 rfl (fun g3 g4 => (qel_25 (qf_7_0 t0).1 g3 g4).2) (fun g3 g4 => ?_)
          refine S_geti 7 qC_0 (by decide) (by decide) (qel_25 (qf_7_0 t0).1 g3 g4).1 tw_216 dX7_keptBy_37 rfl ?_
          refine S_iload_n 1 dX7_keptBy_40 rfl rfl rfl ?_
          refine S_icmp_ne (tgt := 50) dX7_keptBy_41 (by decide) rfl (fun _ => ?_) (fun _ => ?_)
          · refine S_iinc (lv' := [(3, qi (qw (a3 + 1))), (0, qr i0), (1, qi a1), (2, qi a2)]) 3 dX7_keptBy_50 rfl (by decide) rfl rfl ?_
            refine S_goto (pc' := 4) dX7_keptBy_53 (by decide) ?_
            refine S_sub [1, 2, 3, 0] rfl ?_
            exact ih i0 a1 a2 (qw (a3 + 1)) t0 h
          · refine S_iload_n 2 dX7_keptBy_44 rfl rfl rfl ?_
            refine S_iconst (a := 1) dX7_keptBy_45 rfl (by decide) ?_
            refine S_iload_n 3 dX7_keptBy_46 rfl rfl rfl ?_
            refine S_ishl dX7_keptBy_47 rfl ?_
            refine S_ior dX7_keptBy_48 rfl ?_
            refine S_istore_n (lv' := [(2, qi (qor a2 (qshl 1 a3))), (0, qr i0), (1, qi a1), (3, qi a3)]) dX7_keptBy_49 rfl (by decide) rfl rfl ?_
            refine S_li (fun v5 => ?_)
            refine S_iinc (lv' := [(3, qi (qw (a3 + 1))), (2, qi v5), (0, qr i0), (1, qi a1)]) 3 dX7_keptBy_50 rfl (by decide) rfl rfl ?_
            refine S_goto (pc' := 4) dX7_keptBy_53 (by decide) ?_
            refine S_sub [2, 3, 1, 0] rfl ?_
            exact ih i0 a1 v5 (qw (a3 + 1)) t0 h
def DX7_keptBy (i0 : Nat) (a1 : Int) (h : qH) : Option (Int × qH) := (DX7_keptBy_l4 LF i0 a1 0 0 h)
set_option maxRecDepth 100000 in
theorem TX7_keptBy {L : Nat} {xs : Nat → Int32} (i0 : Nat) (a1 : Int) (t0 : qK i0 = (7, 3)) (h : qH) : qMet L xs yX7_keptBy cX7_keptBy 4 (some .int) 1 1 [qr i0, qi a1] h (DX7_keptBy i0 a1 h) := by
  refine qMet.of (by decide +kernel) (Or.inr (Or.inl ⟨rfl, rfl⟩)) (Nat.le_of_ble_eq_true rfl) ?_
  show qS L xs cX7_keptBy "BottlePost$Waters" 4 1 1 0 [(0, qr i0), (1, qi a1)] [] h (DX7_keptBy i0 a1 h)
  unfold DX7_keptBy
  refine S_iconst (a := 0) dX7_keptBy_0 rfl (by decide) ?_
  refine S_istore_n (lv' := [(2, qi 0), (0, qr i0), (1, qi a1)]) dX7_keptBy_1 rfl (by decide) rfl rfl ?_
  refine S_iconst (a := 0) dX7_keptBy_2 rfl (by decide) ?_
  refine S_istore_n (lv' := [(3, qi 0), (2, qi 0), (0, qr i0), (1, qi a1)]) dX7_keptBy_3 rfl (by decide) rfl rfl ?_
  refine S_sub [2, 3, 1, 0] rfl ?_
  exact TX7_keptBy_l4 LF i0 a1 0 0 t0 h
def DX7_lyingOn_l4 : Nat → Nat → Int → Int → Int → qH → Option (Int × qH)
  | 0, _, _, _, _, _ => none
  | n + 1, i0, a1, a2, a3, h => (if h.1 i0 1 ≤ a3 then some (a2, h) else (if 8 ≤ a3 then some (a2, h) else (if 0 ≤ a3 ∧ a3 < 8 then (if ¬ h.1 (i0 + 2 + a3.toNat) 0 = 1 then ((DX7_lyingOn_l4 n) i0 a1 a2 (qw (a3 + 1)) h) else (if 0 ≤ a3 ∧ a3 < 8 then (if ¬ h.1 (i0 + 2 + a3.toNat) 1 = a1 then ((DX7_lyingOn_l4 n) i0 a1 a2 (qw (a3 + 1)) h) else (qlt (qor a2 (qshl 1 a3)) fun v5 => ((DX7_lyingOn_l4 n) i0 a1 v5 (qw (a3 + 1)) h))) else none)) else none)))
set_option maxRecDepth 100000 in
theorem TX7_lyingOn_l4 {L : Nat} {xs : Nat → Int32} : ∀ (n : Nat) (i0 : Nat) (a1 : Int) (a2 : Int) (a3 : Int) (t0 : qK i0 = (7, 3)) (h : qH), qS L xs cX7_lyingOn "BottlePost$Waters" 4 1 1 4 [(0, qr i0), (1, qi a1), (2, qi a2), (3, qi a3)] [] h (DX7_lyingOn_l4 n i0 a1 a2 a3 h) := by
  intro n
  induction n with
  | zero =>
    intro i0 a1 a2 a3 t0 h
    exact S_none
  | succ n ih =>
    intro i0 a1 a2 a3 t0 h
    rw [DX7_lyingOn_l4.eq_2]
    refine S_iload_n 3 dX7_lyingOn_4 rfl rfl rfl ?_
    refine S_aload_n 0 dX7_lyingOn_5 rfl rfl rfl ?_
    refine S_geti 1 qC_7 (by decide) (by decide) t0 tw_273 dX7_lyingOn_6 rfl ?_
    refine S_icmp_ge (tgt := 56) dX7_lyingOn_9 (by decide) rfl (fun _ => ?_) (fun _ => ?_)
    · refine S_iload_n 2 dX7_lyingOn_56 rfl rfl rfl ?_
      exact S_iret dX7_lyingOn_57
    · refine S_iload_n 3 dX7_lyingOn_12 rfl rfl rfl ?_
      refine S_bipush (a := 8) dX7_lyingOn_13 rfl (by decide) (by decide) ?_
      refine S_icmp_ge (tgt := 56) dX7_lyingOn_15 (by decide) rfl (fun _ => ?_) (fun _ => ?_)
      · refine S_iload_n 2 dX7_lyingOn_56 rfl rfl rfl ?_
        exact S_iret dX7_lyingOn_57
      · refine S_aload_n 0 dX7_lyingOn_18 rfl rfl rfl ?_
        refine S_getr (j := (i0 + 1)) (o := 1) 0 qC_7 (by decide) (by decide) t0 rfl rfl (qf_7_0 t0).2 tw_271 dX7_lyingOn_19 rfl ?_
        refine S_iload_n 3 dX7_lyingOn_22 rfl rfl rfl ?_
        refine S_aald (j := (i0 + 2 + a3.toNat)) (C := "BottlePost$Bottle") (N := 8) (qf_7_0 t0).1 (by decide) (by decide) (fun _ => rfl) rfl dX7_lyingOn_23 rfl (fun g1 g2 => (qel_25 (qf_7_0 t0).1 g1 g2).2) (fun g1 g2 => ?_)
        refine S_geti 0 qC_0 (by decide) (by decide) (qel_25 (qf_7_0 t0).1 g1 g2).1 tw_194 dX7_lyingOn_24 rfl ?_
        refine S_iconst (a := 1) dX7_lyingOn_27 rfl (by decide) ?_
        refine S_icmp_ne (tgt := 50) dX7_lyingOn_28 (by decide) rfl (fun _ => ?_) (fun _ => ?_)
        · refine S_iinc (lv' := [(3, qi (qw (a3 + 1))), (0, qr i0), (1, qi a1), (2, qi a2)]) 3 dX7_lyingOn_50 rfl (by decide) rfl rfl ?_
          refine S_goto (pc' := 4) dX7_lyingOn_53 (by decide) ?_
          refine S_sub [1, 2, 3, 0] rfl ?_
          exact ih i0 a1 a2 (qw (a3 + 1)) t0 h
        · refine S_aload_n 0 dX7_lyingOn_31 rfl rfl rfl ?_
          refine S_getr (j := (i0 + 1)) (o := 1) 0 qC_7 (by decide) (by decide) t0 rfl rfl (qf_7_0 t0).2 tw_271 dX7_lyingOn_32 rfl ?_
          refine S_iload_n 3 dX7_lyingOn_35 rfl rfl rfl ?_
          refine S_aald (j := (i0 + 2 + a3.toNat)) (C := "BottlePost$Bottle") (N := 8) (qf_7_0 t0).1 (by decide) (by decide) (fun _ => rfl) rfl dX7_lyingOn_36 rfl (fun g3 g4 => (qel_25 (qf_7_0 t0).1 g3 g4).2) (fun g3 g4 => ?_)
          refine S_geti 1 qC_0 (by decide) (by decide) (qel_25 (qf_7_0 t0).1 g3 g4).1 tw_198 dX7_lyingOn_37 rfl ?_
          refine S_iload_n 1 dX7_lyingOn_40 rfl rfl rfl ?_
          refine S_icmp_ne (tgt := 50) dX7_lyingOn_41 (by decide) rfl (fun _ => ?_) (fun _ => ?_)
          · refine S_iinc (lv' := [(3, qi (qw (a3 + 1))), (0, qr i0), (1, qi a1), (2, qi a2)]) 3 dX7_lyingOn_50 rfl (by decide) rfl rfl ?_
            refine S_goto (pc' := 4) dX7_lyingOn_53 (by decide) ?_
            refine S_sub [1, 2, 3, 0] rfl ?_
            exact ih i0 a1 a2 (qw (a3 + 1)) t0 h
          · refine S_iload_n 2 dX7_lyingOn_44 rfl rfl rfl ?_
            refine S_iconst (a := 1) dX7_lyingOn_45 rfl (by decide) ?_
            refine S_iload_n 3 dX7_lyingOn_46 rfl rfl rfl ?_
            refine S_ishl dX7_lyingOn_47 rfl ?_
            refine S_ior dX7_lyingOn_48 rfl ?_
            refine S_istore_n (lv' := [(2, qi (qor a2 (qshl 1 a3))), (0, qr i0), (1, qi a1), (3, qi a3)]) dX7_lyingOn_49 rfl (by decide) rfl rfl ?_
            refine S_li (fun v5 => ?_)
            refine S_iinc (lv' := [(3, qi (qw (a3 + 1))), (2, qi v5), (0, qr i0), (1, qi a1)]) 3 dX7_lyingOn_50 rfl (by decide) rfl rfl ?_
            refine S_goto (pc' := 4) dX7_lyingOn_53 (by decide) ?_
            refine S_sub [2, 3, 1, 0] rfl ?_
            exact ih i0 a1 v5 (qw (a3 + 1)) t0 h
def DX7_lyingOn (i0 : Nat) (a1 : Int) (h : qH) : Option (Int × qH) := (DX7_lyingOn_l4 LF i0 a1 0 0 h)
set_option maxRecDepth 100000 in
theorem TX7_lyingOn {L : Nat} {xs : Nat → Int32} (i0 : Nat) (a1 : Int) (t0 : qK i0 = (7, 3)) (h : qH) : qMet L xs yX7_lyingOn cX7_lyingOn 4 (some .int) 1 1 [qr i0, qi a1] h (DX7_lyingOn i0 a1 h) := by
  refine qMet.of (by decide +kernel) (Or.inr (Or.inl ⟨rfl, rfl⟩)) (Nat.le_of_ble_eq_true rfl) ?_
  show qS L xs cX7_lyingOn "BottlePost$Waters" 4 1 1 0 [(0, qr i0), (1, qi a1)] [] h (DX7_lyingOn i0 a1 h)
  unfold DX7_lyingOn
  refine S_iconst (a := 0) dX7_lyingOn_0 rfl (by decide) ?_
  refine S_istore_n (lv' := [(2, qi 0), (0, qr i0), (1, qi a1)]) dX7_lyingOn_1 rfl (by decide) rfl rfl ?_
  refine S_iconst (a := 0) dX7_lyingOn_2 rfl (by decide) ?_
  refine S_istore_n (lv' := [(3, qi 0), (2, qi 0), (0, qr i0), (1, qi a1)]) dX7_lyingOn_3 rfl (by decide) rfl rfl ?_
  refine S_sub [2, 3, 1, 0] rfl ?_
  exact TX7_lyingOn_l4 LF i0 a1 0 0 t0 h
def DX9_shore (a1 : Int) (a2 : Int) (h : qH) : Option (Int × qH) := (qbd (DX1_isShore 5 a1 h) fun r1 h2 => (if ¬ r1 = 0 then (if a2 = 0 then (if 0 ≤ a1 ∧ a1 < 6 then some (h2.1 8 a1.toNat, h2) else none) else (if a2 = 1 then (if 0 ≤ a1 ∧ a1 < 6 then some (h2.1 9 a1.toNat, h2) else none) else (if a2 = 2 then (if 0 ≤ a1 ∧ a1 < 6 then some (h2.1 11 a1.toNat, h2) else none) else (if a2 = 3 then (qbd (DX1_throwCell 5 a1 h2) fun r14 h15 => some (r14, h15)) else (if a2 = 4 then (if 0 ≤ a1 ∧ a1 < 6 then (qbd (DX7_lyingOn 24 (h2.1 8 a1.toNat) h2) fun r20 h21 => some (r20, h21)) else none) else (if a2 = 5 then (qbd (DX7_keptBy 24 a1 h2) fun r24 h25 => some (r24, h25)) else some ((-2), h2))))))) else some ((-2), h2)))
set_option maxRecDepth 100000 in
theorem TX9_shore {L : Nat} {xs : Nat → Int32} (a1 : Int) (a2 : Int) (h : qH) : qMet L xs yX9_shore cX9_shore 3 (some .int) 1 2 [qr 0, qi a1, qi a2] h (DX9_shore a1 a2 h) := by
  refine qMet.of (by decide +kernel) (Or.inr (Or.inl ⟨rfl, rfl⟩)) (Nat.le_of_ble_eq_true rfl) ?_
  show qS L xs cX9_shore "BottlePost" 3 2 1 0 [(0, qr 0), (1, qi a1), (2, qi a2)] [] h (DX9_shore a1 a2 h)
  unfold DX9_shore
  refine S_aload_n 0 dX9_shore_0 rfl rfl rfl ?_
  refine S_getr (j := 5) (o := 5) 4 qC_9 (by decide) (by decide) qk_0 rfl rfl (by decide) tw_385 dX9_shore_1 rfl ?_
  refine S_iload_n 1 dX9_shore_4 rfl rfl rfl ?_
  refine S_callV_i (as := [qi a1]) (st := []) (fun _ => rfl) (TX1_isShore 5 a1 qk_5 h) yv_X1_isShore tw_761 qC_1 qk_5 (by decide) rfl rfl (Nat.le_of_ble_eq_true rfl) dX9_shore_5 rfl (fun r1 h2 e3 => ?_)
  refine S_if_ne (tgt := 14) dX9_shore_8 (by decide) rfl (fun _ => ?_) (fun _ => ?_)
  · refine S_iload_n 2 dX9_shore_14 rfl rfl rfl ?_
    refine S_ite (fun g4 => ?_) (fun g4 => ?_)
    · refine S_tabIn (a0 := 0) (off := 37) (pc' := 52) dX9_shore_15 g4 (by decide) (by decide) rfl (by decide) ?_
      refine S_aload_n 0 dX9_shore_52 rfl rfl rfl ?_
      refine S_getr (j := 5) (o := 5) 4 qC_9 (by decide) (by decide) qk_0 rfl rfl (by decide) tw_385 dX9_shore_53 rfl ?_
      refine S_getr (j := 8) (o := 3) 2 qC_1 (by decide) (by decide) qk_5 rfl rfl (by decide) tw_48 dX9_shore_56 rfl ?_
      refine S_iload_n 1 dX9_shore_59 rfl rfl rfl ?_
      refine S_iald (N := 6) qk_8 rfl dX9_shore_60 rfl (fun g5 g6 => ?_)
      exact S_iret dX9_shore_61
    · refine S_ite (fun g7 => ?_) (fun g7 => ?_)
      · refine S_tabIn (a0 := 1) (off := 47) (pc' := 62) dX9_shore_15 g7 (by decide) (by decide) rfl (by decide) ?_
        refine S_aload_n 0 dX9_shore_62 rfl rfl rfl ?_
        refine S_getr (j := 5) (o := 5) 4 qC_9 (by decide) (by decide) qk_0 rfl rfl (by decide) tw_385 dX9_shore_63 rfl ?_
        refine S_getr (j := 9) (o := 4) 3 qC_1 (by decide) (by decide) qk_5 rfl rfl (by decide) tw_51 dX9_shore_66 rfl ?_
        refine S_iload_n 1 dX9_shore_69 rfl rfl rfl ?_
        refine S_iald (N := 6) qk_9 rfl dX9_shore_70 rfl (fun g8 g9 => ?_)
        exact S_iret dX9_shore_71
      · refine S_ite (fun g10 => ?_) (fun g10 => ?_)
        · refine S_tabIn (a0 := 2) (off := 57) (pc' := 72) dX9_shore_15 g10 (by decide) (by decide) rfl (by decide) ?_
          refine S_aload_n 0 dX9_shore_72 rfl rfl rfl ?_
          refine S_getr (j := 5) (o := 5) 4 qC_9 (by decide) (by decide) qk_0 rfl rfl (by decide) tw_385 dX9_shore_73 rfl ?_
          refine S_getr (j := 11) (o := 6) 5 qC_1 (by decide) (by decide) qk_5 rfl rfl (by decide) tw_56 dX9_shore_76 rfl ?_
          refine S_iload_n 1 dX9_shore_79 rfl rfl rfl ?_
          refine S_iald (N := 6) qk_11 rfl dX9_shore_80 rfl (fun g11 g12 => ?_)
          exact S_iret dX9_shore_81
        · refine S_ite (fun g13 => ?_) (fun g13 => ?_)
          · refine S_tabIn (a0 := 3) (off := 67) (pc' := 82) dX9_shore_15 g13 (by decide) (by decide) rfl (by decide) ?_
            refine S_aload_n 0 dX9_shore_82 rfl rfl rfl ?_
            refine S_getr (j := 5) (o := 5) 4 qC_9 (by decide) (by decide) qk_0 rfl rfl (by decide) tw_385 dX9_shore_83 rfl ?_
            refine S_iload_n 1 dX9_shore_86 rfl rfl rfl ?_
            refine S_callV_i (as := [qi a1]) (st := []) (fun _ => rfl) (TX1_throwCell 5 a1 qk_5 h2) yv_X1_throwCell tw_765 qC_1 qk_5 (by decide) rfl rfl (Nat.le_of_ble_eq_true rfl) dX9_shore_87 rfl (fun r14 h15 e16 => ?_)
            exact S_iret dX9_shore_90
          · refine S_ite (fun g17 => ?_) (fun g17 => ?_)
            · refine S_tabIn (a0 := 4) (off := 76) (pc' := 91) dX9_shore_15 g17 (by decide) (by decide) rfl (by decide) ?_
              refine S_aload_n 0 dX9_shore_91 rfl rfl rfl ?_
              refine S_getr (j := 24) (o := 24) 5 qC_9 (by decide) (by decide) qk_0 rfl rfl (by decide) tw_386 dX9_shore_92 rfl ?_
              refine S_aload_n 0 dX9_shore_95 rfl rfl rfl ?_
              refine S_getr (j := 5) (o := 5) 4 qC_9 (by decide) (by decide) qk_0 rfl rfl (by decide) tw_385 dX9_shore_96 rfl ?_
              refine S_getr (j := 8) (o := 3) 2 qC_1 (by decide) (by decide) qk_5 rfl rfl (by decide) tw_48 dX9_shore_99 rfl ?_
              refine S_iload_n 1 dX9_shore_102 rfl rfl rfl ?_
              refine S_iald (N := 6) qk_8 rfl dX9_shore_103 rfl (fun g18 g19 => ?_)
              refine S_callV_i (as := [qi (h2.1 8 a1.toNat)]) (st := []) (fun _ => rfl) (TX7_lyingOn 24 (h2.1 8 a1.toNat) qk_24 h2) yv_X7_lyingOn tw_769 qC_7 qk_24 (by decide) rfl rfl (Nat.le_of_ble_eq_true rfl) dX9_shore_104 rfl (fun r20 h21 e22 => ?_)
              exact S_iret dX9_shore_107
            · refine S_ite (fun g23 => ?_) (fun g23 => ?_)
              · refine S_tabIn (a0 := 5) (off := 93) (pc' := 108) dX9_shore_15 g23 (by decide) (by decide) rfl (by decide) ?_
                refine S_aload_n 0 dX9_shore_108 rfl rfl rfl ?_
                refine S_getr (j := 24) (o := 24) 5 qC_9 (by decide) (by decide) qk_0 rfl rfl (by decide) tw_386 dX9_shore_109 rfl ?_
                refine S_iload_n 1 dX9_shore_112 rfl rfl rfl ?_
                refine S_callV_i (as := [qi a1]) (st := []) (fun _ => rfl) (TX7_keptBy 24 a1 qk_24 h2) yv_X7_keptBy tw_773 qC_7 qk_24 (by decide) rfl rfl (Nat.le_of_ble_eq_true rfl) dX9_shore_113 rfl (fun r24 h25 e26 => ?_)
                exact S_iret dX9_shore_116
              · refine S_tabOut (pc' := 117) dX9_shore_15 (by omega) (by decide) ?_
                refine S_bipush (a := (-2)) dX9_shore_117 rfl (by decide) (by decide) ?_
                exact S_iret dX9_shore_119
  · refine S_bipush (a := (-2)) dX9_shore_11 rfl (by decide) (by decide) ?_
    exact S_iret dX9_shore_13
def DX7_swap_b56 (k5 : Nat → Int → Int → Int → Int → qH → Option (Int × qH)) (i0 : Nat) (a1 : Int) (a2 : Int) (a3 : Int) (a4 : Int) (i5 : Nat) (h : qH) : Option (Int × qH) := (if ¬ h.1 i5 1 = a1 then (qlt (qu h i5 1 a1) fun h1 => (qlt (qw (a3 + 1)) fun v2 => (k5 i0 a1 a2 v2 (qw (a4 + 1)) h1))) else (qlt (qu h i5 1 a2) fun h3 => (qlt (qw (a3 + 1)) fun v4 => (k5 i0 a1 a2 v4 (qw (a4 + 1)) h3))))
set_option maxRecDepth 100000 in
theorem TX7_swap_b56 {L : Nat} {xs : Nat → Int32} (k5 : Nat → Int → Int → Int → Int → qH → Option (Int × qH)) (hk5 : ∀ (i0 : Nat) (a1 : Int) (a2 : Int) (a3 : Int) (a4 : Int) (t0 : qK i0 = (7, 3)) (h : qH), qS L xs cX7_swap "BottlePost$Waters" 6 1 1 5 [(0, qr i0), (1, qi a1), (2, qi a2), (3, qi a3), (4, qi a4)] [] h (k5 i0 a1 a2 a3 a4 h)) (i0 : Nat) (a1 : Int) (a2 : Int) (a3 : Int) (a4 : Int) (i5 : Nat) (t0 : qK i0 = (7, 3)) (t5 : qK i5 = (0, 8)) (h : qH) : qS L xs cX7_swap "BottlePost$Waters" 6 1 1 56 [(0, qr i0), (1, qi a1), (2, qi a2), (3, qi a3), (4, qi a4), (5, qr i5)] [] h (DX7_swap_b56 k5 i0 a1 a2 a3 a4 i5 h) := by
  unfold DX7_swap_b56
  refine S_aload 5 dX7_swap_56 rfl rfl ?_
  refine S_aload 5 dX7_swap_58 rfl rfl ?_
  refine S_geti 1 qC_0 (by decide) (by decide) t5 tw_198 dX7_swap_60 rfl ?_
  refine S_iload_n 1 dX7_swap_63 rfl rfl rfl ?_
  refine S_icmp_ne (tgt := 71) dX7_swap_64 (by decide) rfl (fun _ => ?_) (fun _ => ?_)
  · refine S_iload_n 1 dX7_swap_71 rfl rfl rfl ?_
    refine S_puti 1 qC_0 (by decide) (by decide) rfl rfl t5 (by decide) tw_198 dX7_swap_72 rfl ?_
    refine S_lh (fun h1 => ?_)
    refine S_iinc (lv' := [(3, qi (qw (a3 + 1))), (0, qr i0), (1, qi a1), (2, qi a2), (4, qi a4), (5, qr i5)]) 3 dX7_swap_75 rfl (by decide) rfl rfl ?_
    refine S_li (fun v2 => ?_)
    refine S_iinc (lv' := [(4, qi (qw (a4 + 1))), (3, qi v2), (0, qr i0), (1, qi a1), (2, qi a2), (5, qr i5)]) 4 dX7_swap_78 rfl (by decide) rfl rfl ?_
    refine S_goto (pc' := 5) dX7_swap_81 (by decide) ?_
    refine S_sub [2, 3, 4, 1, 0] rfl ?_
    exact hk5 i0 a1 a2 v2 (qw (a4 + 1)) t0 h1
  · refine S_iload_n 2 dX7_swap_67 rfl rfl rfl ?_
    refine S_goto (pc' := 72) dX7_swap_68 (by decide) ?_
    refine S_puti 1 qC_0 (by decide) (by decide) rfl rfl t5 (by decide) tw_198 dX7_swap_72 rfl ?_
    refine S_lh (fun h3 => ?_)
    refine S_iinc (lv' := [(3, qi (qw (a3 + 1))), (0, qr i0), (1, qi a1), (2, qi a2), (4, qi a4), (5, qr i5)]) 3 dX7_swap_75 rfl (by decide) rfl rfl ?_
    refine S_li (fun v4 => ?_)
    refine S_iinc (lv' := [(4, qi (qw (a4 + 1))), (3, qi v4), (0, qr i0), (1, qi a1), (2, qi a2), (5, qr i5)]) 4 dX7_swap_78 rfl (by decide) rfl rfl ?_
    refine S_goto (pc' := 5) dX7_swap_81 (by decide) ?_
    refine S_sub [2, 3, 4, 1, 0] rfl ?_
    exact hk5 i0 a1 a2 v4 (qw (a4 + 1)) t0 h3
def DX7_swap_l5 : Nat → Nat → Int → Int → Int → Int → qH → Option (Int × qH)
  | 0, _, _, _, _, _, _ => none
  | n + 1, i0, a1, a2, a3, a4, h => (if h.1 i0 1 ≤ a4 then some (a3, h) else (if 8 ≤ a4 then some (a3, h) else (if 0 ≤ a4 ∧ a4 < 8 then (if ¬ h.1 (i0 + 2 + a4.toNat) 0 = 0 then ((DX7_swap_l5 n) i0 a1 a2 a3 (qw (a4 + 1)) h) else (if h.1 (i0 + 2 + a4.toNat) 1 = a1 then (DX7_swap_b56 (DX7_swap_l5 n) i0 a1 a2 a3 a4 (i0 + 2 + a4.toNat) h) else (if ¬ h.1 (i0 + 2 + a4.toNat) 1 = a2 then ((DX7_swap_l5 n) i0 a1 a2 a3 (qw (a4 + 1)) h) else (DX7_swap_b56 (DX7_swap_l5 n) i0 a1 a2 a3 a4 (i0 + 2 + a4.toNat) h)))) else none)))
set_option maxRecDepth 100000 in
theorem TX7_swap_l5 {L : Nat} {xs : Nat → Int32} : ∀ (n : Nat) (i0 : Nat) (a1 : Int) (a2 : Int) (a3 : Int) (a4 : Int) (t0 : qK i0 = (7, 3)) (h : qH), qS L xs cX7_swap "BottlePost$Waters" 6 1 1 5 [(0, qr i0), (1, qi a1), (2, qi a2), (3, qi a3), (4, qi a4)] [] h (DX7_swap_l5 n i0 a1 a2 a3 a4 h) := by
  intro n
  induction n with
  | zero =>
    intro i0 a1 a2 a3 a4 t0 h
    exact S_none
  | succ n ih =>
    intro i0 a1 a2 a3 a4 t0 h
    rw [DX7_swap_l5.eq_2]
    refine S_iload 4 dX7_swap_5 rfl rfl ?_
    refine S_aload_n 0 dX7_swap_7 rfl rfl rfl ?_
    refine S_geti 1 qC_7 (by decide) (by decide) t0 tw_273 dX7_swap_8 rfl ?_
    refine S_icmp_ge (tgt := 84) dX7_swap_11 (by decide) rfl (fun _ => ?_) (fun _ => ?_)
    · refine S_iload_n 3 dX7_swap_84 rfl rfl rfl ?_
      exact S_iret dX7_swap_85
    · refine S_iload 4 dX7_swap_14 rfl rfl ?_
      refine S_bipush (a := 8) dX7_swap_16 rfl (by decide) (by decide) ?_
      refine S_icmp_ge (tgt := 84) dX7_swap_18 (by decide) rfl (fun _ => ?_) (fun _ => ?_)
      · refine S_iload_n 3 dX7_swap_84 rfl rfl rfl ?_
        exact S_iret dX7_swap_85
      · refine S_aload_n 0 dX7_swap_21 rfl rfl rfl ?_
        refine S_getr (j := (i0 + 1)) (o := 1) 0 qC_7 (by decide) (by decide) t0 rfl rfl (qf_7_0 t0).2 tw_271 dX7_swap_22 rfl ?_
        refine S_iload 4 dX7_swap_25 rfl rfl ?_
        refine S_aald (j := (i0 + 2 + a4.toNat)) (C := "BottlePost$Bottle") (N := 8) (qf_7_0 t0).1 (by decide) (by decide) (fun _ => rfl) rfl dX7_swap_27 rfl (fun g5 g6 => (qel_25 (qf_7_0 t0).1 g5 g6).2) (fun g5 g6 => ?_)
        refine S_astore (lv' := [(5, qr (i0 + 2 + a4.toNat)), (0, qr i0), (1, qi a1), (2, qi a2), (3, qi a3), (4, qi a4)]) dX7_swap_28 (by decide) rfl rfl ?_
        refine S_aload 0 dX7_swap_30 rfl rfl ?_
        refine S_geti 0 qC_0 (by decide) (by decide) (qel_25 (qf_7_0 t0).1 g5 g6).1 tw_194 dX7_swap_32 rfl ?_
        refine S_if_ne (tgt := 78) dX7_swap_35 (by decide) rfl (fun _ => ?_) (fun _ => ?_)
        · refine S_iinc (lv' := [(4, qi (qw (a4 + 1))), (5, qr (i0 + 2 + a4.toNat)), (0, qr i0), (1, qi a1), (2, qi a2), (3, qi a3)]) 5 dX7_swap_78 rfl (by decide) rfl rfl ?_
          refine S_goto (pc' := 5) dX7_swap_81 (by decide) ?_
          refine S_sub [2, 3, 4, 5, 0] rfl ?_
          exact ih i0 a1 a2 a3 (qw (a4 + 1)) t0 h
        · refine S_aload 0 dX7_swap_38 rfl rfl ?_
          refine S_geti 1 qC_0 (by decide) (by decide) (qel_25 (qf_7_0 t0).1 g5 g6).1 tw_198 dX7_swap_40 rfl ?_
          refine S_iload_n 2 dX7_swap_43 rfl rfl rfl ?_
          refine S_icmp_eq (tgt := 56) dX7_swap_44 (by decide) rfl (fun _ => ?_) (fun _ => ?_)
          · refine S_sub [1, 2, 3, 4, 5, 0] rfl ?_
            exact TX7_swap_b56 (DX7_swap_l5 n) ih i0 a1 a2 a3 a4 (i0 + 2 + a4.toNat) t0 (qel_25 (qf_7_0 t0).1 g5 g6).1 h
          · refine S_aload 0 dX7_swap_47 rfl rfl ?_
            refine S_geti 1 qC_0 (by decide) (by decide) (qel_25 (qf_7_0 t0).1 g5 g6).1 tw_198 dX7_swap_49 rfl ?_
            refine S_iload_n 3 dX7_swap_52 rfl rfl rfl ?_
            refine S_icmp_ne (tgt := 78) dX7_swap_53 (by decide) rfl (fun _ => ?_) (fun _ => ?_)
            · refine S_iinc (lv' := [(4, qi (qw (a4 + 1))), (5, qr (i0 + 2 + a4.toNat)), (0, qr i0), (1, qi a1), (2, qi a2), (3, qi a3)]) 5 dX7_swap_78 rfl (by decide) rfl rfl ?_
              refine S_goto (pc' := 5) dX7_swap_81 (by decide) ?_
              refine S_sub [2, 3, 4, 5, 0] rfl ?_
              exact ih i0 a1 a2 a3 (qw (a4 + 1)) t0 h
            · refine S_sub [1, 2, 3, 4, 5, 0] rfl ?_
              exact TX7_swap_b56 (DX7_swap_l5 n) ih i0 a1 a2 a3 a4 (i0 + 2 + a4.toNat) t0 (qel_25 (qf_7_0 t0).1 g5 g6).1 h
def DX7_swap (i0 : Nat) (a1 : Int) (a2 : Int) (h : qH) : Option (Int × qH) := (DX7_swap_l5 LF i0 a1 a2 0 0 h)
set_option maxRecDepth 100000 in
theorem TX7_swap {L : Nat} {xs : Nat → Int32} (i0 : Nat) (a1 : Int) (a2 : Int) (t0 : qK i0 = (7, 3)) (h : qH) : qMet L xs yX7_swap cX7_swap 6 (some .int) 1 1 [qr i0, qi a1, qi a2] h (DX7_swap i0 a1 a2 h) := by
  refine qMet.of (by decide +kernel) (Or.inr (Or.inl ⟨rfl, rfl⟩)) (Nat.le_of_ble_eq_true rfl) ?_
  show qS L xs cX7_swap "BottlePost$Waters" 6 1 1 0 [(0, qr i0), (1, qi a1), (2, qi a2)] [] h (DX7_swap i0 a1 a2 h)
  unfold DX7_swap
  refine S_iconst (a := 0) dX7_swap_0 rfl (by decide) ?_
  refine S_istore_n (lv' := [(3, qi 0), (0, qr i0), (1, qi a1), (2, qi a2)]) dX7_swap_1 rfl (by decide) rfl rfl ?_
  refine S_iconst (a := 0) dX7_swap_2 rfl (by decide) ?_
  refine S_istore (lv' := [(4, qi 0), (3, qi 0), (0, qr i0), (1, qi a1), (2, qi a2)]) dX7_swap_3 (by decide) rfl rfl ?_
  refine S_sub [2, 3, 4, 1, 0] rfl ?_
  exact TX7_swap_l5 LF i0 a1 a2 0 0 t0 h
def DX9_storm (a1 : Int) (a2 : Int) (h : qH) : Option (Int × qH) := (qbd (DX1_isCell 5 a1 h) fun r1 h2 => (if r1 = 0 then some ((-2), h2) else (qbd (DX1_isCell 5 a2 h2) fun r4 h5 => (if r4 = 0 then some ((-2), h5) else (if ¬ a1 = a2 then (qbd (DX1_isOpen 5 a1 h5) fun r7 h8 => (if r7 = 0 then some ((-5), h8) else (qbd (DX1_isOpen 5 a2 h8) fun r10 h11 => (if ¬ r10 = 0 then (qbd (DX3_draft 24 h11) fun r13 h14 => (qbd (DX7_swap 24 a1 a2 h14) fun r16 h17 => (if r16 ≤ 0 then some (r16, h17) else (qbd (DX3_commit h17) fun r19 h20 => some (r16, h20))))) else some ((-5), h11))))) else some ((-2), h5))))))
set_option maxRecDepth 100000 in
theorem TX9_storm {L : Nat} {xs : Nat → Int32} (a1 : Int) (a2 : Int) (h : qH) : qMet L xs yX9_storm cX9_storm 4 (some .int) 1 4 [qr 0, qi a1, qi a2] h (DX9_storm a1 a2 h) := by
  refine qMet.of (by decide +kernel) (Or.inr (Or.inl ⟨rfl, rfl⟩)) (Nat.le_of_ble_eq_true rfl) ?_
  show qS L xs cX9_storm "BottlePost" 4 4 1 0 [(0, qr 0), (1, qi a1), (2, qi a2)] [] h (DX9_storm a1 a2 h)
  unfold DX9_storm
  refine S_aload_n 0 dX9_storm_0 rfl rfl rfl ?_
  refine S_getr (j := 5) (o := 5) 4 qC_9 (by decide) (by decide) qk_0 rfl rfl (by decide) tw_385 dX9_storm_1 rfl ?_
  refine S_iload_n 1 dX9_storm_4 rfl rfl rfl ?_
  refine S_callV_i (as := [qi a1]) (st := []) (fun _ => rfl) (TX1_isCell 5 a1 qk_5 h) yv_X1_isCell tw_756 qC_1 qk_5 (by decide) rfl rfl (Nat.le_of_ble_eq_true rfl) dX9_storm_5 rfl (fun r1 h2 e3 => ?_)
  refine S_if_eq (tgt := 27) dX9_storm_8 (by decide) rfl (fun _ => ?_) (fun _ => ?_)
  · refine S_bipush (a := (-2)) dX9_storm_27 rfl (by decide) (by decide) ?_
    exact S_iret dX9_storm_29
  · refine S_aload_n 0 dX9_storm_11 rfl rfl rfl ?_
    refine S_getr (j := 5) (o := 5) 4 qC_9 (by decide) (by decide) qk_0 rfl rfl (by decide) tw_385 dX9_storm_12 rfl ?_
    refine S_iload_n 2 dX9_storm_15 rfl rfl rfl ?_
    refine S_callV_i (as := [qi a2]) (st := []) (fun _ => rfl) (TX1_isCell 5 a2 qk_5 h2) yv_X1_isCell tw_756 qC_1 qk_5 (by decide) rfl rfl (Nat.le_of_ble_eq_true rfl) dX9_storm_16 rfl (fun r4 h5 e6 => ?_)
    refine S_if_eq (tgt := 27) dX9_storm_19 (by decide) rfl (fun _ => ?_) (fun _ => ?_)
    · refine S_bipush (a := (-2)) dX9_storm_27 rfl (by decide) (by decide) ?_
      exact S_iret dX9_storm_29
    · refine S_iload_n 1 dX9_storm_22 rfl rfl rfl ?_
      refine S_iload_n 2 dX9_storm_23 rfl rfl rfl ?_
      refine S_icmp_ne (tgt := 30) dX9_storm_24 (by decide) rfl (fun _ => ?_) (fun _ => ?_)
      · refine S_aload_n 0 dX9_storm_30 rfl rfl rfl ?_
        refine S_getr (j := 5) (o := 5) 4 qC_9 (by decide) (by decide) qk_0 rfl rfl (by decide) tw_385 dX9_storm_31 rfl ?_
        refine S_iload_n 1 dX9_storm_34 rfl rfl rfl ?_
        refine S_callV_i (as := [qi a1]) (st := []) (fun _ => rfl) (TX1_isOpen 5 a1 qk_5 h5) yv_X1_isOpen tw_910 qC_1 qk_5 (by decide) rfl rfl (Nat.le_of_ble_eq_true rfl) dX9_storm_35 rfl (fun r7 h8 e9 => ?_)
        refine S_if_eq (tgt := 52) dX9_storm_38 (by decide) rfl (fun _ => ?_) (fun _ => ?_)
        · refine S_bipush (a := (-5)) dX9_storm_52 rfl (by decide) (by decide) ?_
          exact S_iret dX9_storm_54
        · refine S_aload_n 0 dX9_storm_41 rfl rfl rfl ?_
          refine S_getr (j := 5) (o := 5) 4 qC_9 (by decide) (by decide) qk_0 rfl rfl (by decide) tw_385 dX9_storm_42 rfl ?_
          refine S_iload_n 2 dX9_storm_45 rfl rfl rfl ?_
          refine S_callV_i (as := [qi a2]) (st := []) (fun _ => rfl) (TX1_isOpen 5 a2 qk_5 h8) yv_X1_isOpen tw_910 qC_1 qk_5 (by decide) rfl rfl (Nat.le_of_ble_eq_true rfl) dX9_storm_46 rfl (fun r10 h11 e12 => ?_)
          refine S_if_ne (tgt := 55) dX9_storm_49 (by decide) rfl (fun _ => ?_) (fun _ => ?_)
          · refine S_aload_n 0 dX9_storm_55 rfl rfl rfl ?_
            refine S_getr (j := 44) (o := 44) 7 qC_9 (by decide) (by decide) qk_0 rfl rfl (by decide) tw_388 dX9_storm_56 rfl ?_
            refine S_aload_n 0 dX9_storm_59 rfl rfl rfl ?_
            refine S_getr (j := 24) (o := 24) 5 qC_9 (by decide) (by decide) qk_0 rfl rfl (by decide) tw_386 dX9_storm_60 rfl ?_
            refine S_callV_0 (as := [qr 24]) (st := []) (fun _ => rfl) (TX3_draft 24 qk_24 h11) yv_X3_draft tw_836 qC_3 qk_44 (by decide) rfl rfl (Nat.le_of_ble_eq_true rfl) dX9_storm_63 rfl (fun r13 h14 e15 => ?_)
            refine S_aload_n 0 dX9_storm_66 rfl rfl rfl ?_
            refine S_getr (j := 24) (o := 24) 5 qC_9 (by decide) (by decide) qk_0 rfl rfl (by decide) tw_386 dX9_storm_67 rfl ?_
            refine S_iload_n 1 dX9_storm_70 rfl rfl rfl ?_
            refine S_iload_n 2 dX9_storm_71 rfl rfl rfl ?_
            refine S_callV_i (as := [qi a1, qi a2]) (st := []) (fun _ => rfl) (TX7_swap 24 a1 a2 qk_24 h14) yv_X7_swap tw_911 qC_7 qk_24 (by decide) rfl rfl (Nat.le_of_ble_eq_true rfl) dX9_storm_72 rfl (fun r16 h17 e18 => ?_)
            refine S_istore_n (lv' := [(3, qi r16), (0, qr 0), (1, qi a1), (2, qi a2)]) dX9_storm_75 rfl (by decide) rfl rfl ?_
            refine S_iload_n 0 dX9_storm_76 rfl rfl rfl ?_
            refine S_if_le (tgt := 87) dX9_storm_77 (by decide) rfl (fun _ => ?_) (fun _ => ?_)
            · refine S_iload_n 0 dX9_storm_87 rfl rfl rfl ?_
              exact S_iret dX9_storm_88
            · refine S_aload_n 1 dX9_storm_80 rfl rfl rfl ?_
              refine S_getr (j := 44) (o := 44) 7 qC_9 (by decide) (by decide) qk_0 rfl rfl (by decide) tw_388 dX9_storm_81 rfl ?_
              refine S_callV_0 (as := []) (st := []) (fun _ => rfl) (TX3_commit h17) yv_X3_commit tw_853 qC_3 qk_44 (by decide) rfl rfl (Nat.le_of_ble_eq_true rfl) dX9_storm_84 rfl (fun r19 h20 e21 => ?_)
              refine S_iload_n 0 dX9_storm_87 rfl rfl rfl ?_
              exact S_iret dX9_storm_88
          · refine S_bipush (a := (-5)) dX9_storm_52 rfl (by decide) (by decide) ?_
            exact S_iret dX9_storm_54
      · refine S_bipush (a := (-2)) dX9_storm_27 rfl (by decide) (by decide) ?_
        exact S_iret dX9_storm_29
def DX9_suspects (a1 : Int) (h : qH) : Option (Int × qH) := (qbd (DX9_seenCode a1 h) fun r1 h2 => (if ¬ r1 = 0 then some (r1, h2) else (qbd (DX9_isTray a1 h2) fun r4 h5 => (if ¬ r4 = 0 then (if 0 ≤ a1 ∧ a1 < 4 then (qbd (DX8_hear (168 + 2 * a1.toNat) (h5.1 24 2) (-1) h5) fun r9 h10 => some (h10.1 160 3, h10)) else none) else some (r1, h5)))))
set_option maxRecDepth 100000 in
theorem TX9_suspects {L : Nat} {xs : Nat → Int32} (a1 : Int) (h : qH) : qMet L xs yX9_suspects cX9_suspects 3 (some .int) 1 9 [qr 0, qi a1] h (DX9_suspects a1 h) := by
  refine qMet.of (by decide +kernel) (Or.inr (Or.inl ⟨rfl, rfl⟩)) (Nat.le_of_ble_eq_true rfl) ?_
  show qS L xs cX9_suspects "BottlePost" 3 9 1 0 [(0, qr 0), (1, qi a1)] [] h (DX9_suspects a1 h)
  unfold DX9_suspects
  refine S_aload_n 0 dX9_suspects_0 rfl rfl rfl ?_
  refine S_iload_n 1 dX9_suspects_1 rfl rfl rfl ?_
  refine S_callV_i (as := [qi a1]) (st := []) (fun _ => rfl) (TX9_seenCode a1 h) yv_X9_seenCode tw_1145 qC_9 qk_0 (by decide) rfl rfl (Nat.le_of_ble_eq_true rfl) dX9_suspects_2 rfl (fun r1 h2 e3 => ?_)
  refine S_istore_n (lv' := [(2, qi r1), (0, qr 0), (1, qi a1)]) dX9_suspects_5 rfl (by decide) rfl rfl ?_
  refine S_iload_n 0 dX9_suspects_6 rfl rfl rfl ?_
  refine S_if_ne (tgt := 17) dX9_suspects_7 (by decide) rfl (fun _ => ?_) (fun _ => ?_)
  · refine S_iload_n 0 dX9_suspects_17 rfl rfl rfl ?_
    exact S_iret dX9_suspects_18
  · refine S_iload_n 2 dX9_suspects_10 rfl rfl rfl ?_
    refine S_callS_i (as := [qi a1]) (st := []) (fun _ => rfl) (TX9_isTray a1 h2) yv_X9_isTray tw_940 (by decide) rfl rfl (Nat.le_of_ble_eq_true rfl) dX9_suspects_11 rfl (fun r4 h5 e6 => ?_)
    refine S_if_ne (tgt := 19) dX9_suspects_14 (by decide) rfl (fun _ => ?_) (fun _ => ?_)
    · refine S_aload_n 1 dX9_suspects_19 rfl rfl rfl ?_
      refine S_getr (j := 160) (o := 160) 10 qC_9 (by decide) (by decide) qk_0 rfl rfl (by decide) tw_391 dX9_suspects_20 rfl ?_
      refine S_aload_n 1 dX9_suspects_23 rfl rfl rfl ?_
      refine S_getr (j := 4) (o := 4) 3 qC_9 (by decide) (by decide) qk_0 rfl rfl (by decide) tw_384 dX9_suspects_24 rfl ?_
      refine S_aload_n 1 dX9_suspects_27 rfl rfl rfl ?_
      refine S_getr (j := 164) (o := 164) 12 qC_9 (by decide) (by decide) qk_0 rfl rfl (by decide) tw_393 dX9_suspects_28 rfl ?_
      refine S_iload_n 2 dX9_suspects_31 rfl rfl rfl ?_
      refine S_aald (j := (168 + 2 * a1.toNat)) (C := "BottlePost$Tray") (N := 4) qk_164 (by decide) (by decide) (fun _ => rfl) rfl dX9_suspects_32 rfl (fun g7 g8 => (qel_164 g7 g8).2) (fun g7 g8 => ?_)
      refine S_aload_n 1 dX9_suspects_33 rfl rfl rfl ?_
      refine S_getr (j := 24) (o := 24) 5 qC_9 (by decide) (by decide) qk_0 rfl rfl (by decide) tw_386 dX9_suspects_34 rfl ?_
      refine S_geti 2 qC_7 (by decide) (by decide) qk_24 tw_276 dX9_suspects_37 rfl ?_
      refine S_iconst (a := (-1)) dX9_suspects_40 rfl (by decide) ?_
      refine S_callV_0 (as := [qr 4, qr (168 + 2 * a1.toNat), qi (h5.1 24 2), qi (-1)]) (st := []) (fun _ => rfl) (TX8_hear (168 + 2 * a1.toNat) (h5.1 24 2) (-1) (qel_164 g7 g8).1 h5) yv_X8_hear tw_1150 qC_8 qk_160 (by decide) rfl rfl (Nat.le_of_ble_eq_true rfl) dX9_suspects_41 rfl (fun r9 h10 e11 => ?_)
      refine S_aload_n 1 dX9_suspects_44 rfl rfl rfl ?_
      refine S_getr (j := 160) (o := 160) 10 qC_9 (by decide) (by decide) qk_0 rfl rfl (by decide) tw_391 dX9_suspects_45 rfl ?_
      refine S_geti 3 qC_8 (by decide) (by decide) qk_160 tw_347 dX9_suspects_48 rfl ?_
      exact S_iret dX9_suspects_51
    · refine S_iload_n 0 dX9_suspects_17 rfl rfl rfl ?_
      exact S_iret dX9_suspects_18
def DX9_thrower (a1 : Int) (a2 : Int) (a3 : Int) (h : qH) : Option (Int × qH) := (qbd (DX9_isTray a1 h) fun r1 h2 => (if r1 = 0 then some ((-2), h2) else (if a3 < 0 then some ((-2), h2) else (if a3 ≤ 3 then (qbd (DX9_seenCode a1 h2) fun r4 h5 => (if r4 = 0 then (if 0 ≤ a2 then (if 0 ≤ a1 ∧ a1 < 4 then (qbd (DX8_hear (168 + 2 * a1.toNat) (h5.1 24 2) a2 h5) fun r9 h10 => (if a2 < h10.1 160 2 then (if 0 ≤ a3 ∧ a3 < 4 then some (h10.1 162 a3.toNat, h10) else none) else (if ¬ a3 = 1 then some ((-1), h10) else some ((-9), h10)))) else none) else some ((-3), h5)) else some (r4, h5))) else some ((-2), h2)))))
set_option maxRecDepth 100000 in
theorem TX9_thrower {L : Nat} {xs : Nat → Int32} (a1 : Int) (a2 : Int) (a3 : Int) (h : qH) : qMet L xs yX9_thrower cX9_thrower 5 (some .int) 1 9 [qr 0, qi a1, qi a2, qi a3] h (DX9_thrower a1 a2 a3 h) := by
  refine qMet.of (by decide +kernel) (Or.inr (Or.inl ⟨rfl, rfl⟩)) (Nat.le_of_ble_eq_true rfl) ?_
  show qS L xs cX9_thrower "BottlePost" 5 9 1 0 [(0, qr 0), (1, qi a1), (2, qi a2), (3, qi a3)] [] h (DX9_thrower a1 a2 a3 h)
  unfold DX9_thrower
  refine S_iload_n 1 dX9_thrower_0 rfl rfl rfl ?_
  refine S_callS_i (as := [qi a1]) (st := []) (fun _ => rfl) (TX9_isTray a1 h) yv_X9_isTray tw_940 (by decide) rfl rfl (Nat.le_of_ble_eq_true rfl) dX9_thrower_1 rfl (fun r1 h2 e3 => ?_)
  refine S_if_eq (tgt := 16) dX9_thrower_4 (by decide) rfl (fun _ => ?_) (fun _ => ?_)
  · refine S_bipush (a := (-2)) dX9_thrower_16 rfl (by decide) (by decide) ?_
    exact S_iret dX9_thrower_18
  · refine S_iload_n 3 dX9_thrower_7 rfl rfl rfl ?_
    refine S_if_lt (tgt := 16) dX9_thrower_8 (by decide) rfl (fun _ => ?_) (fun _ => ?_)
    · refine S_bipush (a := (-2)) dX9_thrower_16 rfl (by decide) (by decide) ?_
      exact S_iret dX9_thrower_18
    · refine S_iload_n 3 dX9_thrower_11 rfl rfl rfl ?_
      refine S_iconst (a := 3) dX9_thrower_12 rfl (by decide) ?_
      refine S_icmp_le (tgt := 19) dX9_thrower_13 (by decide) rfl (fun _ => ?_) (fun _ => ?_)
      · refine S_aload_n 0 dX9_thrower_19 rfl rfl rfl ?_
        refine S_iload_n 1 dX9_thrower_20 rfl rfl rfl ?_
        refine S_callV_i (as := [qi a1]) (st := []) (fun _ => rfl) (TX9_seenCode a1 h2) yv_X9_seenCode tw_1145 qC_9 qk_0 (by decide) rfl rfl (Nat.le_of_ble_eq_true rfl) dX9_thrower_21 rfl (fun r4 h5 e6 => ?_)
        refine S_istore (lv' := [(4, qi r4), (0, qr 0), (1, qi a1), (2, qi a2), (3, qi a3)]) dX9_thrower_24 (by decide) rfl rfl ?_
        refine S_iload 0 dX9_thrower_26 rfl rfl ?_
        refine S_if_eq (tgt := 34) dX9_thrower_28 (by decide) rfl (fun _ => ?_) (fun _ => ?_)
        · refine S_iload_n 3 dX9_thrower_34 rfl rfl rfl ?_
          refine S_if_ge (tgt := 41) dX9_thrower_35 (by decide) rfl (fun _ => ?_) (fun _ => ?_)
          · refine S_aload_n 1 dX9_thrower_41 rfl rfl rfl ?_
            refine S_getr (j := 160) (o := 160) 10 qC_9 (by decide) (by decide) qk_0 rfl rfl (by decide) tw_391 dX9_thrower_42 rfl ?_
            refine S_aload_n 1 dX9_thrower_45 rfl rfl rfl ?_
            refine S_getr (j := 4) (o := 4) 3 qC_9 (by decide) (by decide) qk_0 rfl rfl (by decide) tw_384 dX9_thrower_46 rfl ?_
            refine S_aload_n 1 dX9_thrower_49 rfl rfl rfl ?_
            refine S_getr (j := 164) (o := 164) 12 qC_9 (by decide) (by decide) qk_0 rfl rfl (by decide) tw_393 dX9_thrower_50 rfl ?_
            refine S_iload_n 2 dX9_thrower_53 rfl rfl rfl ?_
            refine S_aald (j := (168 + 2 * a1.toNat)) (C := "BottlePost$Tray") (N := 4) qk_164 (by decide) (by decide) (fun _ => rfl) rfl dX9_thrower_54 rfl (fun g7 g8 => (qel_164 g7 g8).2) (fun g7 g8 => ?_)
            refine S_aload_n 1 dX9_thrower_55 rfl rfl rfl ?_
            refine S_getr (j := 24) (o := 24) 5 qC_9 (by decide) (by decide) qk_0 rfl rfl (by decide) tw_386 dX9_thrower_56 rfl ?_
            refine S_geti 2 qC_7 (by decide) (by decide) qk_24 tw_276 dX9_thrower_59 rfl ?_
            refine S_iload_n 3 dX9_thrower_62 rfl rfl rfl ?_
            refine S_callV_0 (as := [qr 4, qr (168 + 2 * a1.toNat), qi (h5.1 24 2), qi a2]) (st := []) (fun _ => rfl) (TX8_hear (168 + 2 * a1.toNat) (h5.1 24 2) a2 (qel_164 g7 g8).1 h5) yv_X8_hear tw_1150 qC_8 qk_160 (by decide) rfl rfl (Nat.le_of_ble_eq_true rfl) dX9_thrower_63 rfl (fun r9 h10 e11 => ?_)
            refine S_iload_n 3 dX9_thrower_66 rfl rfl rfl ?_
            refine S_aload_n 1 dX9_thrower_67 rfl rfl rfl ?_
            refine S_getr (j := 160) (o := 160) 10 qC_9 (by decide) (by decide) qk_0 rfl rfl (by decide) tw_391 dX9_thrower_68 rfl ?_
            refine S_geti 2 qC_8 (by decide) (by decide) qk_160 tw_345 dX9_thrower_71 rfl ?_
            refine S_icmp_lt (tgt := 89) dX9_thrower_74 (by decide) rfl (fun _ => ?_) (fun _ => ?_)
            · refine S_aload_n 1 dX9_thrower_89 rfl rfl rfl ?_
              refine S_getr (j := 160) (o := 160) 10 qC_9 (by decide) (by decide) qk_0 rfl rfl (by decide) tw_391 dX9_thrower_90 rfl ?_
              refine S_getr (j := 162) (o := 2) 1 qC_8 (by decide) (by decide) qk_160 rfl rfl (by decide) tw_343 dX9_thrower_93 rfl ?_
              refine S_iload_n 4 dX9_thrower_96 rfl rfl rfl ?_
              refine S_iald (N := 4) qk_162 rfl dX9_thrower_97 rfl (fun g12 g13 => ?_)
              exact S_iret dX9_thrower_98
            · refine S_iload_n 4 dX9_thrower_77 rfl rfl rfl ?_
              refine S_iconst (a := 1) dX9_thrower_78 rfl (by decide) ?_
              refine S_icmp_ne (tgt := 87) dX9_thrower_79 (by decide) rfl (fun _ => ?_) (fun _ => ?_)
              · refine S_iconst (a := (-1)) dX9_thrower_87 rfl (by decide) ?_
                exact S_iret dX9_thrower_88
              · refine S_bipush (a := (-9)) dX9_thrower_82 rfl (by decide) (by decide) ?_
                refine S_goto (pc' := 88) dX9_thrower_84 (by decide) ?_
                exact S_iret dX9_thrower_88
          · refine S_bipush (a := (-3)) dX9_thrower_38 rfl (by decide) (by decide) ?_
            exact S_iret dX9_thrower_40
        · refine S_iload 0 dX9_thrower_31 rfl rfl ?_
          exact S_iret dX9_thrower_33
      · refine S_bipush (a := (-2)) dX9_thrower_16 rfl (by decide) (by decide) ?_
        exact S_iret dX9_thrower_18
