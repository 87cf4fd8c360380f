def DX4_lineEnds (h : qH) : Option (Int × qH) := (qbd (DX4_takeSign 59 h) fun r1 h2 => (if ¬ r1 = 0 then (if h2.2.2.2.2 = true then (qlt (qu h2 16 16 (qw (h2.1 16 16 + 1))) fun h4 => some (1, h4)) else none) else some (0, h2)))
set_option maxRecDepth 100000 in
theorem TX4_lineEnds {L : Nat} {xs : Nat → Int32} (h : qH) : qMet L xs yX4_lineEnds cX4_lineEnds 1 (some .boolean) 4 10 [qr 2] h (DX4_lineEnds h) := by
  refine qMet.of (by decide +kernel) (Or.inr (Or.inr (Or.inr (Or.inr (Or.inl ⟨rfl, rfl⟩))))) (Nat.le_of_ble_eq_true rfl) ?_
  show qS L xs cX4_lineEnds "BottlePost$Reader" 1 10 4 0 [(0, qr 2)] [] h (DX4_lineEnds h)
  unfold DX4_lineEnds
  refine S_aload_n 0 dX4_lineEnds_0 rfl rfl rfl ?_
  refine S_bipush (a := 59) dX4_lineEnds_1 rfl (by decide) (by decide) ?_
  refine S_callV_i (as := [qi 59]) (st := []) (fun _ => rfl) (TX4_takeSign 59 h) yv_X4_takeSign tw_592 qC_4 qk_2 (by decide) rfl rfl (Nat.le_of_ble_eq_true rfl) dX4_lineEnds_3 rfl (fun r1 h2 e3 => ?_)
  refine S_if_ne (tgt := 11) dX4_lineEnds_6 (by decide) rfl (fun _ => ?_) (fun _ => ?_)
  · refine S_aload_n 0 dX4_lineEnds_11 rfl rfl rfl ?_
    refine S_getc qC_4 tw_144 dX4_lineEnds_12 rfl (fun _ => ?_)
    refine S_dup dX4_lineEnds_15 rfl rfl ?_
    refine S_geti 16 qC_1 (by decide) (by decide) qk_16 tw_93 dX4_lineEnds_16 rfl ?_
    refine S_iconst (a := 1) dX4_lineEnds_19 rfl (by decide) ?_
    refine S_iadd dX4_lineEnds_20 rfl ?_
    refine S_puti 16 qC_1 (by decide) (by decide) rfl rfl qk_16 (by decide) tw_93 dX4_lineEnds_21 rfl ?_
    refine S_lh (fun h4 => ?_)
    refine S_iconst (a := 1) dX4_lineEnds_24 rfl (by decide) ?_
    exact S_zretl (by decide) dX4_lineEnds_25
  · refine S_iconst (a := 0) dX4_lineEnds_9 rfl (by decide) ?_
    exact S_zretl (by decide) dX4_lineEnds_10
def DX4_takeNumber_b32 (h : qH) : Option (Int × qH) := (qbd (DX4_refuse 3 h) fun r1 h2 => some ((-1), h2))
set_option maxRecDepth 100000 in
theorem TX4_takeNumber_b32 {L : Nat} {xs : Nat → Int32} (h : qH) : qS L xs cX4_takeNumber "BottlePost$Reader" 4 9 1 32 [(0, qr 2)] [] h (DX4_takeNumber_b32 h) := by
  unfold DX4_takeNumber_b32
  refine S_aload_n 0 dX4_takeNumber_32 rfl rfl rfl ?_
  refine S_iconst (a := 3) dX4_takeNumber_33 rfl (by decide) ?_
  refine S_callV_i (as := [qi 3]) (st := []) (fun _ => rfl) (TX4_refuse 3 h) yv_X4_refuse tw_579 qC_4 qk_2 (by decide) rfl rfl (Nat.le_of_ble_eq_true rfl) dX4_takeNumber_34 rfl (fun r1 h2 e3 => ?_)
  refine S_pop dX4_takeNumber_37 rfl rfl ?_
  refine S_iconst (a := (-1)) dX4_takeNumber_38 rfl (by decide) ?_
  exact S_iret dX4_takeNumber_39
def DX4_takeNumber (a1 : Int) (a2 : Int) (h : qH) : Option (Int × qH) := (if h.1 2 6 = 2 then (if h.1 2 9 < a1 then (DX4_takeNumber_b32 h) else (if h.1 2 9 ≤ a2 then (qlt (h.1 2 9) fun v4 => (qbd (DX4_advance h) fun r5 h6 => some (v4, h6))) else (DX4_takeNumber_b32 h))) else (qbd (DX4_refuse 2 h) fun r8 h9 => some ((-1), h9)))
set_option maxRecDepth 100000 in
theorem TX4_takeNumber {L : Nat} {xs : Nat → Int32} (a1 : Int) (a2 : Int) (h : qH) : qMet L xs yX4_takeNumber cX4_takeNumber 4 (some .int) 1 9 [qr 2, qi a1, qi a2] h (DX4_takeNumber a1 a2 h) := by
  refine qMet.of (by decide +kernel) (Or.inr (Or.inl ⟨rfl, rfl⟩)) (Nat.le_of_ble_eq_true rfl) ?_
  show qS L xs cX4_takeNumber "BottlePost$Reader" 4 9 1 0 [(0, qr 2), (1, qi a1), (2, qi a2)] [] h (DX4_takeNumber a1 a2 h)
  unfold DX4_takeNumber
  refine S_aload_n 0 dX4_takeNumber_0 rfl rfl rfl ?_
  refine S_geti 6 qC_4 (by decide) (by decide) qk_2 tw_153 dX4_takeNumber_1 rfl ?_
  refine S_iconst (a := 2) dX4_takeNumber_4 rfl (by decide) ?_
  refine S_icmp_eq (tgt := 16) dX4_takeNumber_5 (by decide) rfl (fun _ => ?_) (fun _ => ?_)
  · refine S_aload_n 0 dX4_takeNumber_16 rfl rfl rfl ?_
    refine S_geti 9 qC_4 (by decide) (by decide) qk_2 tw_156 dX4_takeNumber_17 rfl ?_
    refine S_iload_n 1 dX4_takeNumber_20 rfl rfl rfl ?_
    refine S_icmp_lt (tgt := 32) dX4_takeNumber_21 (by decide) rfl (fun _ => ?_) (fun _ => ?_)
    · refine S_sub [0] rfl ?_
      exact TX4_takeNumber_b32 h
    · refine S_aload_n 0 dX4_takeNumber_24 rfl rfl rfl ?_
      refine S_geti 9 qC_4 (by decide) (by decide) qk_2 tw_156 dX4_takeNumber_25 rfl ?_
      refine S_iload_n 2 dX4_takeNumber_28 rfl rfl rfl ?_
      refine S_icmp_le (tgt := 40) dX4_takeNumber_29 (by decide) rfl (fun _ => ?_) (fun _ => ?_)
      · refine S_aload_n 0 dX4_takeNumber_40 rfl rfl rfl ?_
        refine S_geti 9 qC_4 (by decide) (by decide) qk_2 tw_156 dX4_takeNumber_41 rfl ?_
        refine S_istore_n (lv' := [(3, qi (h.1 2 9)), (0, qr 2), (1, qi a1), (2, qi a2)]) dX4_takeNumber_44 rfl (by decide) rfl rfl ?_
        refine S_li (fun v4 => ?_)
        refine S_aload_n 1 dX4_takeNumber_45 rfl rfl rfl ?_
        refine S_callV_0 (as := []) (st := []) (fun _ => rfl) (TX4_advance h) yv_X4_advance tw_456 qC_4 qk_2 (by decide) rfl rfl (Nat.le_of_ble_eq_true rfl) dX4_takeNumber_46 rfl (fun r5 h6 e7 => ?_)
        refine S_iload_n 0 dX4_takeNumber_49 rfl rfl rfl ?_
        exact S_iret dX4_takeNumber_50
      · refine S_sub [0] rfl ?_
        exact TX4_takeNumber_b32 h
  · refine S_aload_n 0 dX4_takeNumber_8 rfl rfl rfl ?_
    refine S_iconst (a := 2) dX4_takeNumber_9 rfl (by decide) ?_
    refine S_callV_i (as := [qi 2]) (st := []) (fun _ => rfl) (TX4_refuse 2 h) yv_X4_refuse tw_579 qC_4 qk_2 (by decide) rfl rfl (Nat.le_of_ble_eq_true rfl) dX4_takeNumber_10 rfl (fun r8 h9 e10 => ?_)
    refine S_pop dX4_takeNumber_13 rfl rfl ?_
    refine S_iconst (a := (-1)) dX4_takeNumber_14 rfl (by decide) ?_
    exact S_iret dX4_takeNumber_15
def DX4_corkLine (h : qH) : Option (Int × qH) := (qbd (DX4_advance h) fun r1 h2 => (qbd (DX4_takeNumber 1 99 h2) fun r4 h5 => (if ¬ r4 = (-1) then (if h5.2.2.2.2 = true then (qlt (qu h5 16 19 r4) fun h7 => some (1, h7)) else none) else some (0, h5))))
set_option maxRecDepth 100000 in
theorem TX4_corkLine {L : Nat} {xs : Nat → Int32} (h : qH) : qMet L xs yX4_corkLine cX4_corkLine 2 (some .boolean) 4 10 [qr 2] h (DX4_corkLine h) := by
  refine qMet.of (by decide +kernel) (Or.inr (Or.inr (Or.inr (Or.inr (Or.inl ⟨rfl, rfl⟩))))) (Nat.le_of_ble_eq_true rfl) ?_
  show qS L xs cX4_corkLine "BottlePost$Reader" 2 10 4 0 [(0, qr 2)] [] h (DX4_corkLine h)
  unfold DX4_corkLine
  refine S_aload_n 0 dX4_corkLine_0 rfl rfl rfl ?_
  refine S_callV_0 (as := []) (st := []) (fun _ => rfl) (TX4_advance h) yv_X4_advance tw_456 qC_4 qk_2 (by decide) rfl rfl (Nat.le_of_ble_eq_true rfl) dX4_corkLine_1 rfl (fun r1 h2 e3 => ?_)
  refine S_aload_n 0 dX4_corkLine_4 rfl rfl rfl ?_
  refine S_iconst (a := 1) dX4_corkLine_5 rfl (by decide) ?_
  refine S_bipush (a := 99) dX4_corkLine_6 rfl (by decide) (by decide) ?_
  refine S_callV_i (as := [qi 1, qi 99]) (st := []) (fun _ => rfl) (TX4_takeNumber 1 99 h2) yv_X4_takeNumber tw_583 qC_4 qk_2 (by decide) rfl rfl (Nat.le_of_ble_eq_true rfl) dX4_corkLine_8 rfl (fun r4 h5 e6 => ?_)
  refine S_istore_n (lv' := [(1, qi r4), (0, qr 2)]) dX4_corkLine_11 rfl (by decide) rfl rfl ?_
  refine S_iload_n 0 dX4_corkLine_12 rfl rfl rfl ?_
  refine S_iconst (a := (-1)) dX4_corkLine_13 rfl (by decide) ?_
  refine S_icmp_ne (tgt := 19) dX4_corkLine_14 (by decide) rfl (fun _ => ?_) (fun _ => ?_)
  · refine S_aload_n 1 dX4_corkLine_19 rfl rfl rfl ?_
    refine S_getc qC_4 tw_144 dX4_corkLine_20 rfl (fun _ => ?_)
    refine S_iload_n 0 dX4_corkLine_23 rfl rfl rfl ?_
    refine S_puti 19 qC_1 (by decide) (by decide) rfl rfl qk_16 (by decide) tw_100 dX4_corkLine_24 rfl ?_
    refine S_lh (fun h7 => ?_)
    refine S_iconst (a := 1) dX4_corkLine_27 rfl (by decide) ?_
    exact S_zretl (by decide) dX4_corkLine_28
  · refine S_iconst (a := 0) dX4_corkLine_17 rfl (by decide) ?_
    exact S_zretl (by decide) dX4_corkLine_18
def DX4_takeCell_b90 (a2 : Int) (h : qH) : Option (Int × qH) := (if h.2.2.2.2 = true then (qbd (DX4_takeNumber 0 (qw (h.1 16 12 - 1)) h) fun r1 h2 => (if ¬ r1 = (-1) then (if h2.2.2.2.2 = true then some (qw (qw (r1 * h2.1 16 11) + a2), h2) else none) else some ((-1), h2))) else none)
set_option maxRecDepth 100000 in
theorem TX4_takeCell_b90 {L : Nat} {xs : Nat → Int32} (a2 : Int) (h : qH) : qS L xs cX4_takeCell "BottlePost$Reader" 5 10 1 90 [(0, qr 2), (2, qi a2)] [] h (DX4_takeCell_b90 a2 h) := by
  unfold DX4_takeCell_b90
  refine S_aload_n 0 dX4_takeCell_90 rfl rfl rfl ?_
  refine S_iconst (a := 0) dX4_takeCell_91 rfl (by decide) ?_
  refine S_aload_n 0 dX4_takeCell_92 rfl rfl rfl ?_
  refine S_getc qC_4 tw_144 dX4_takeCell_93 rfl (fun _ => ?_)
  refine S_geti 12 qC_1 (by decide) (by decide) qk_16 tw_78 dX4_takeCell_96 rfl ?_
  refine S_iconst (a := 1) dX4_takeCell_99 rfl (by decide) ?_
  refine S_isub dX4_takeCell_100 rfl ?_
  refine S_callV_i (as := [qi 0, qi (qw (h.1 16 12 - 1))]) (st := []) (fun _ => rfl) (TX4_takeNumber 0 (qw (h.1 16 12 - 1)) h) yv_X4_takeNumber tw_583 qC_4 qk_2 (by decide) rfl rfl (Nat.le_of_ble_eq_true rfl) dX4_takeCell_101 rfl (fun r1 h2 e3 => ?_)
  refine S_istore (lv' := [(4, qi r1), (0, qr 2), (2, qi a2)]) dX4_takeCell_104 (by decide) rfl rfl ?_
  refine S_iload 0 dX4_takeCell_106 rfl rfl ?_
  refine S_iconst (a := (-1)) dX4_takeCell_108 rfl (by decide) ?_
  refine S_icmp_ne (tgt := 116) dX4_takeCell_109 (by decide) rfl (fun _ => ?_) (fun _ => ?_)
  · refine S_iload 0 dX4_takeCell_116 rfl rfl ?_
    refine S_aload_n 1 dX4_takeCell_118 rfl rfl rfl ?_
    refine S_getc qC_4 tw_144 dX4_takeCell_119 rfl (fun _ => ?_)
    refine S_geti 11 qC_1 (by decide) (by decide) qk_16 tw_75 dX4_takeCell_122 rfl ?_
    refine S_imul dX4_takeCell_125 rfl ?_
    refine S_iload_n 2 dX4_takeCell_126 rfl rfl rfl ?_
    refine S_iadd dX4_takeCell_127 rfl ?_
    exact S_iret dX4_takeCell_128
  · refine S_iconst (a := (-1)) dX4_takeCell_112 rfl (by decide) ?_
    refine S_goto (pc' := 128) dX4_takeCell_113 (by decide) ?_
    exact S_iret dX4_takeCell_128
def DX4_takeCell_b49 (a1 : Int) (a2 : Int) (b0 : Int) (h : qH) : Option (Int × qH) := (if a1 = 0 then (DX4_takeCell_b90 a2 h) else (if b0 = 0 then (DX4_takeCell_b90 a2 h) else (if h.2.2.2.2 = true then (if h.2.2.2.2 = true then (qbd (DX1_isOpen 16 (qw (qw (h.1 2 9 * h.1 16 11) + a2)) h) fun r4 h5 => (if ¬ r4 = 0 then (DX4_takeCell_b90 a2 h5) else (qbd (DX4_refuse 3 h5) fun r7 h8 => some ((-1), h8)))) else none) else none)))
set_option maxRecDepth 100000 in
theorem TX4_takeCell_b49 {L : Nat} {xs : Nat → Int32} (a1 : Int) (a2 : Int) (b0 : Int) (h : qH) : qS L xs cX4_takeCell "BottlePost$Reader" 5 10 1 49 [(0, qr 2), (1, qi a1), (2, qi a2)] [qi b0] h (DX4_takeCell_b49 a1 a2 b0 h) := by
  unfold DX4_takeCell_b49
  refine S_istore_n (lv' := [(3, qi b0), (0, qr 2), (1, qi a1), (2, qi a2)]) dX4_takeCell_49 rfl (by decide) rfl rfl ?_
  refine S_iload_n 2 dX4_takeCell_50 rfl rfl rfl ?_
  refine S_if_eq (tgt := 90) dX4_takeCell_51 (by decide) rfl (fun _ => ?_) (fun _ => ?_)
  · refine S_sub [1, 3] rfl ?_
    exact TX4_takeCell_b90 a2 h
  · refine S_iload_n 0 dX4_takeCell_54 rfl rfl rfl ?_
    refine S_if_eq (tgt := 90) dX4_takeCell_55 (by decide) rfl (fun _ => ?_) (fun _ => ?_)
    · refine S_sub [1, 3] rfl ?_
      exact TX4_takeCell_b90 a2 h
    · refine S_aload_n 1 dX4_takeCell_58 rfl rfl rfl ?_
      refine S_getc qC_4 tw_144 dX4_takeCell_59 rfl (fun _ => ?_)
      refine S_aload_n 1 dX4_takeCell_62 rfl rfl rfl ?_
      refine S_geti 9 qC_4 (by decide) (by decide) qk_2 tw_156 dX4_takeCell_63 rfl ?_
      refine S_aload_n 1 dX4_takeCell_66 rfl rfl rfl ?_
      refine S_getc qC_4 tw_144 dX4_takeCell_67 rfl (fun _ => ?_)
      refine S_geti 11 qC_1 (by decide) (by decide) qk_16 tw_75 dX4_takeCell_70 rfl ?_
      refine S_imul dX4_takeCell_73 rfl ?_
      refine S_iload_n 3 dX4_takeCell_74 rfl rfl rfl ?_
      refine S_iadd dX4_takeCell_75 rfl ?_
      refine S_callV_i (as := [qi (qw (qw (h.1 2 9 * h.1 16 11) + a2))]) (st := []) (fun _ => rfl) (TX1_isOpen 16 (qw (qw (h.1 2 9 * h.1 16 11) + a2)) qk_16 h) yv_X1_isOpen tw_609 qC_1 qk_16 (by decide) rfl rfl (Nat.le_of_ble_eq_true rfl) dX4_takeCell_76 rfl (fun r4 h5 e6 => ?_)
      refine S_if_ne (tgt := 90) dX4_takeCell_79 (by decide) rfl (fun _ => ?_) (fun _ => ?_)
      · refine S_sub [1, 3] rfl ?_
        exact TX4_takeCell_b90 a2 h5
      · refine S_aload_n 1 dX4_takeCell_82 rfl rfl rfl ?_
        refine S_iconst (a := 3) dX4_takeCell_83 rfl (by decide) ?_
        refine S_callV_i (as := [qi 3]) (st := []) (fun _ => rfl) (TX4_refuse 3 h5) yv_X4_refuse tw_579 qC_4 qk_2 (by decide) rfl rfl (Nat.le_of_ble_eq_true rfl) dX4_takeCell_84 rfl (fun r7 h8 e9 => ?_)
        refine S_pop dX4_takeCell_87 rfl rfl ?_
        refine S_iconst (a := (-1)) dX4_takeCell_88 rfl (by decide) ?_
        exact S_iret dX4_takeCell_89
def DX4_takeCell (a1 : Int) (h : qH) : Option (Int × qH) := (if h.2.2.2.2 = true then (qbd (DX4_takeNumber 0 (qw (h.1 16 11 - 1)) h) fun r10 h11 => (if ¬ r10 = (-1) then (if ¬ h11.1 2 6 = 2 then (DX4_takeCell_b49 a1 r10 0 h11) else (if h11.2.2.2.2 = true then (if h11.1 16 12 ≤ h11.1 2 9 then (DX4_takeCell_b49 a1 r10 0 h11) else (DX4_takeCell_b49 a1 r10 1 h11)) else none)) else some ((-1), h11))) else none)
set_option maxRecDepth 100000 in
theorem TX4_takeCell {L : Nat} {xs : Nat → Int32} (a1 : Int) (h : qH) : qMet L xs yX4_takeCell cX4_takeCell 5 (some .int) 1 10 [qr 2, qi a1] h (DX4_takeCell a1 h) := by
  refine qMet.of (by decide +kernel) (Or.inr (Or.inl ⟨rfl, rfl⟩)) (Nat.le_of_ble_eq_true rfl) ?_
  show qS L xs cX4_takeCell "BottlePost$Reader" 5 10 1 0 [(0, qr 2), (1, qi a1)] [] h (DX4_takeCell a1 h)
  unfold DX4_takeCell
  refine S_aload_n 0 dX4_takeCell_0 rfl rfl rfl ?_
  refine S_iconst (a := 0) dX4_takeCell_1 rfl (by decide) ?_
  refine S_aload_n 0 dX4_takeCell_2 rfl rfl rfl ?_
  refine S_getc qC_4 tw_144 dX4_takeCell_3 rfl (fun _ => ?_)
  refine S_geti 11 qC_1 (by decide) (by decide) qk_16 tw_75 dX4_takeCell_6 rfl ?_
  refine S_iconst (a := 1) dX4_takeCell_9 rfl (by decide) ?_
  refine S_isub dX4_takeCell_10 rfl ?_
  refine S_callV_i (as := [qi 0, qi (qw (h.1 16 11 - 1))]) (st := []) (fun _ => rfl) (TX4_takeNumber 0 (qw (h.1 16 11 - 1)) h) yv_X4_takeNumber tw_583 qC_4 qk_2 (by decide) rfl rfl (Nat.le_of_ble_eq_true rfl) dX4_takeCell_11 rfl (fun r10 h11 e12 => ?_)
  refine S_istore_n (lv' := [(2, qi r10), (0, qr 2), (1, qi a1)]) dX4_takeCell_14 rfl (by decide) rfl rfl ?_
  refine S_iload_n 0 dX4_takeCell_15 rfl rfl rfl ?_
  refine S_iconst (a := (-1)) dX4_takeCell_16 rfl (by decide) ?_
  refine S_icmp_ne (tgt := 22) dX4_takeCell_17 (by decide) rfl (fun _ => ?_) (fun _ => ?_)
  · refine S_aload_n 1 dX4_takeCell_22 rfl rfl rfl ?_
    refine S_geti 6 qC_4 (by decide) (by decide) qk_2 tw_153 dX4_takeCell_23 rfl ?_
    refine S_iconst (a := 2) dX4_takeCell_26 rfl (by decide) ?_
    refine S_icmp_ne (tgt := 48) dX4_takeCell_27 (by decide) rfl (fun _ => ?_) (fun _ => ?_)
    · refine S_iconst (a := 0) dX4_takeCell_48 rfl (by decide) ?_
      refine S_sub [1, 2, 0] rfl ?_
      exact TX4_takeCell_b49 a1 r10 0 h11
    · refine S_aload_n 1 dX4_takeCell_30 rfl rfl rfl ?_
      refine S_geti 9 qC_4 (by decide) (by decide) qk_2 tw_156 dX4_takeCell_31 rfl ?_
      refine S_aload_n 1 dX4_takeCell_34 rfl rfl rfl ?_
      refine S_getc qC_4 tw_144 dX4_takeCell_35 rfl (fun _ => ?_)
      refine S_geti 12 qC_1 (by decide) (by decide) qk_16 tw_78 dX4_takeCell_38 rfl ?_
      refine S_icmp_ge (tgt := 48) dX4_takeCell_41 (by decide) rfl (fun _ => ?_) (fun _ => ?_)
      · refine S_iconst (a := 0) dX4_takeCell_48 rfl (by decide) ?_
        refine S_sub [1, 2, 0] rfl ?_
        exact TX4_takeCell_b49 a1 r10 0 h11
      · refine S_iconst (a := 1) dX4_takeCell_44 rfl (by decide) ?_
        refine S_goto (pc' := 49) dX4_takeCell_45 (by decide) ?_
        refine S_sub [1, 2, 0] rfl ?_
        exact TX4_takeCell_b49 a1 r10 1 h11
  · refine S_iconst (a := (-1)) dX4_takeCell_20 rfl (by decide) ?_
    exact S_iret dX4_takeCell_21
def DX4_currentLine_l25 : Nat → Int → Int → qH → Option (Int × qH)
  | 0, _, _, _ => none
  | n + 1, a1, a2, h => (if h.2.2.2.2 = true then (if h.1 16 13 ≤ a2 then some (1, h) else (if 6 ≤ a2 then some (1, h) else (qbd (DX4_takeNumber 0 4 h) fun r1 h2 => (if ¬ r1 = (-1) then (if h2.2.2.2.2 = true then (if 0 ≤ qw (qw (a1 * 6) + a2) ∧ qw (qw (a1 * 6) + a2) < 216 then qlt (qu h2 18 (qw (qw (a1 * 6) + a2)).toNat r1) fun h4 => ((DX4_currentLine_l25 n) a1 (qw (a2 + 1)) h4) else none) else none) else some (0, h2))))) else none)
set_option maxRecDepth 100000 in
theorem TX4_currentLine_l25 {L : Nat} {xs : Nat → Int32} : ∀ (n : Nat) (a1 : Int) (a2 : Int) (h : qH), qS L xs cX4_currentLine "BottlePost$Reader" 4 11 4 25 [(0, qr 2), (1, qi a1), (2, qi a2)] [] h (DX4_currentLine_l25 n a1 a2 h) := by
  intro n
  induction n with
  | zero =>
    intro a1 a2 h
    exact S_none
  | succ n ih =>
    intro a1 a2 h
    rw [DX4_currentLine_l25.eq_2]
    refine S_iload_n 2 dX4_currentLine_25 rfl rfl rfl ?_
    refine S_aload_n 0 dX4_currentLine_26 rfl rfl rfl ?_
    refine S_getc qC_4 tw_144 dX4_currentLine_27 rfl (fun _ => ?_)
    refine S_geti 13 qC_1 (by decide) (by decide) qk_16 tw_82 dX4_currentLine_30 rfl ?_
    refine S_icmp_ge (tgt := 77) dX4_currentLine_33 (by decide) rfl (fun _ => ?_) (fun _ => ?_)
    · refine S_iconst (a := 1) dX4_currentLine_77 rfl (by decide) ?_
      exact S_zretl (by decide) dX4_currentLine_78
    · refine S_iload_n 2 dX4_currentLine_36 rfl rfl rfl ?_
      refine S_bipush (a := 6) dX4_currentLine_37 rfl (by decide) (by decide) ?_
      refine S_icmp_ge (tgt := 77) dX4_currentLine_39 (by decide) rfl (fun _ => ?_) (fun _ => ?_)
      · refine S_iconst (a := 1) dX4_currentLine_77 rfl (by decide) ?_
        exact S_zretl (by decide) dX4_currentLine_78
      · refine S_aload_n 0 dX4_currentLine_42 rfl rfl rfl ?_
        refine S_iconst (a := 0) dX4_currentLine_43 rfl (by decide) ?_
        refine S_iconst (a := 4) dX4_currentLine_44 rfl (by decide) ?_
        refine S_callV_i (as := [qi 0, qi 4]) (st := []) (fun _ => rfl) (TX4_takeNumber 0 4 h) yv_X4_takeNumber tw_583 qC_4 qk_2 (by decide) rfl rfl (Nat.le_of_ble_eq_true rfl) dX4_currentLine_45 rfl (fun r1 h2 e3 => ?_)
        refine S_istore_n (lv' := [(3, qi r1), (0, qr 2), (1, qi a1), (2, qi a2)]) dX4_currentLine_48 rfl (by decide) rfl rfl ?_
        refine S_iload_n 0 dX4_currentLine_49 rfl rfl rfl ?_
        refine S_iconst (a := (-1)) dX4_currentLine_50 rfl (by decide) ?_
        refine S_icmp_ne (tgt := 56) dX4_currentLine_51 (by decide) rfl (fun _ => ?_) (fun _ => ?_)
        · refine S_aload_n 1 dX4_currentLine_56 rfl rfl rfl ?_
          refine S_getc qC_4 tw_144 dX4_currentLine_57 rfl (fun _ => ?_)
          refine S_getr (j := 18) (o := 2) 1 qC_1 (by decide) (by decide) qk_16 rfl rfl (by decide) tw_46 dX4_currentLine_60 rfl ?_
          refine S_iload_n 2 dX4_currentLine_63 rfl rfl rfl ?_
          refine S_bipush (a := 6) dX4_currentLine_64 rfl (by decide) (by decide) ?_
          refine S_imul dX4_currentLine_66 rfl ?_
          refine S_iload_n 3 dX4_currentLine_67 rfl rfl rfl ?_
          refine S_iadd dX4_currentLine_68 rfl ?_
          refine S_iload_n 0 dX4_currentLine_69 rfl rfl rfl ?_
          refine S_iast (N := 216) qk_18 rfl dX4_currentLine_70 rfl (fun _ _ => ?_)
          refine S_lh (fun h4 => ?_)
          refine S_iinc (lv' := [(2, qi (qw (a2 + 1))), (3, qi r1), (0, qr 2), (1, qi a1)]) 3 dX4_currentLine_71 rfl (by decide) rfl rfl ?_
          refine S_goto (pc' := 25) dX4_currentLine_74 (by decide) ?_
          refine S_sub [2, 3, 0] rfl ?_
          exact ih a1 (qw (a2 + 1)) h4
        · refine S_iconst (a := 0) dX4_currentLine_54 rfl (by decide) ?_
          exact S_zretl (by decide) dX4_currentLine_55
def DX4_currentLine (h : qH) : Option (Int × qH) := (qbd (DX4_advance h) fun r5 h6 => (qbd (DX4_takeCell 0 h6) fun r8 h9 => (if h9.2.2.2.2 = true then (qbd (DX1_isCell 16 r8 h9) fun r11 h12 => (if ¬ r11 = 0 then (DX4_currentLine_l25 LF r8 0 h12) else some (0, h12))) else none)))
set_option maxRecDepth 100000 in
theorem TX4_currentLine {L : Nat} {xs : Nat → Int32} (h : qH) : qMet L xs yX4_currentLine cX4_currentLine 4 (some .boolean) 4 11 [qr 2] h (DX4_currentLine h) := by
  refine qMet.of (by decide +kernel) (Or.inr (Or.inr (Or.inr (Or.inr (Or.inl ⟨rfl, rfl⟩))))) (Nat.le_of_ble_eq_true rfl) ?_
  show qS L xs cX4_currentLine "BottlePost$Reader" 4 11 4 0 [(0, qr 2)] [] h (DX4_currentLine h)
  unfold DX4_currentLine
  refine S_aload_n 0 dX4_currentLine_0 rfl rfl rfl ?_
  refine S_callV_0 (as := []) (st := []) (fun _ => rfl) (TX4_advance h) yv_X4_advance tw_456 qC_4 qk_2 (by decide) rfl rfl (Nat.le_of_ble_eq_true rfl) dX4_currentLine_1 rfl (fun r5 h6 e7 => ?_)
  refine S_aload_n 0 dX4_currentLine_4 rfl rfl rfl ?_
  refine S_iconst (a := 0) dX4_currentLine_5 rfl (by decide) ?_
  refine S_callV_i (as := [qi 0]) (st := []) (fun _ => rfl) (TX4_takeCell 0 h6) yv_X4_takeCell tw_605 qC_4 qk_2 (by decide) rfl rfl (Nat.le_of_ble_eq_true rfl) dX4_currentLine_6 rfl (fun r8 h9 e10 => ?_)
  refine S_istore_n (lv' := [(1, qi r8), (0, qr 2)]) dX4_currentLine_9 rfl (by decide) rfl rfl ?_
  refine S_aload_n 1 dX4_currentLine_10 rfl rfl rfl ?_
  refine S_getc qC_4 tw_144 dX4_currentLine_11 rfl (fun _ => ?_)
  refine S_iload_n 0 dX4_currentLine_14 rfl rfl rfl ?_
  refine S_callV_i (as := [qi r8]) (st := []) (fun _ => rfl) (TX1_isCell 16 r8 qk_16 h9) yv_X1_isCell tw_613 qC_1 qk_16 (by decide) rfl rfl (Nat.le_of_ble_eq_true rfl) dX4_currentLine_15 rfl (fun r11 h12 e13 => ?_)
  refine S_if_ne (tgt := 23) dX4_currentLine_18 (by decide) rfl (fun _ => ?_) (fun _ => ?_)
  · refine S_iconst (a := 0) dX4_currentLine_23 rfl (by decide) ?_
    refine S_istore_n (lv' := [(2, qi 0), (1, qi r8), (0, qr 2)]) dX4_currentLine_24 rfl (by decide) rfl rfl ?_
    refine S_sub [2, 1, 0] rfl ?_
    exact TX4_currentLine_l25 LF r8 0 h12
  · refine S_iconst (a := 0) dX4_currentLine_21 rfl (by decide) ?_
    exact S_zretl (by decide) dX4_currentLine_22
def DX4_isWord_l28 : Nat → Nat → Int → qH → Option (Int × qH)
  | 0, _, _, _ => none
  | n + 1, s1, a2, h => (qbd (DJ0_length_8abf5 s1 h) fun r1 h2 => (if r1 ≤ a2 then some (1, h2) else (if h2.1 2 4 ≤ qw (h2.1 2 7 + a2) then some (0, h2) else (if h2.2.2.2.1 = true then (if 0 ≤ qw (h2.1 2 7 + a2) ∧ qw (h2.1 2 7 + a2) < 900 then (qbd (DJ0_charAt_5068e s1 a2 h2) fun r6 h7 => (if h2.1 1 (qw (h2.1 2 7 + a2)).toNat = r6 then ((DX4_isWord_l28 n) s1 (qw (a2 + 1)) h7) else some (0, h7))) else none) else none))))
set_option maxRecDepth 100000 in
theorem TX4_isWord_l28 {L : Nat} {xs : Nat → Int32} : ∀ (n : Nat) (s1 : Nat) (a2 : Int) (t1 : s1 < 31) (h : qH), qS L xs cX4_isWord "BottlePost$Reader" 3 6 4 28 [(0, qr 2), (1, qr (300 + 2 * s1)), (2, qi a2)] [] h (DX4_isWord_l28 n s1 a2 h) := by
  intro n
  induction n with
  | zero =>
    intro s1 a2 t1 h
    exact S_none
  | succ n ih =>
    intro s1 a2 t1 h
    rw [DX4_isWord_l28.eq_2]
    refine S_iload_n 2 dX4_isWord_28 rfl rfl rfl ?_
    refine S_aload_n 1 dX4_isWord_29 rfl rfl rfl ?_
    refine S_callT_i (as := []) (st := [qi a2]) (t := s1) (fun _ => rfl) (TJ0_length_8abf5 s1 t1 h) yv_J0_length_8abf5 tw_558 t1 (by decide) rfl rfl (Nat.le_of_ble_eq_true rfl) dX4_isWord_30 rfl (fun r1 h2 e3 => ?_)
    refine S_icmp_ge (tgt := 76) dX4_isWord_33 (by decide) rfl (fun _ => ?_) (fun _ => ?_)
    · refine S_iconst (a := 1) dX4_isWord_76 rfl (by decide) ?_
      exact S_zretl (by decide) dX4_isWord_77
    · refine S_aload_n 0 dX4_isWord_36 rfl rfl rfl ?_
      refine S_geti 7 qC_4 (by decide) (by decide) qk_2 tw_154 dX4_isWord_37 rfl ?_
      refine S_iload_n 2 dX4_isWord_40 rfl rfl rfl ?_
      refine S_iadd dX4_isWord_41 rfl ?_
      refine S_aload_n 0 dX4_isWord_42 rfl rfl rfl ?_
      refine S_geti 4 qC_4 (by decide) (by decide) qk_2 tw_151 dX4_isWord_43 rfl ?_
      refine S_icmp_ge (tgt := 68) dX4_isWord_46 (by decide) rfl (fun _ => ?_) (fun _ => ?_)
      · refine S_iconst (a := 0) dX4_isWord_68 rfl (by decide) ?_
        exact S_zretl (by decide) dX4_isWord_69
      · refine S_aload_n 0 dX4_isWord_49 rfl rfl rfl ?_
        refine S_gett qC_4 tw_150 dX4_isWord_50 rfl (fun _ => ?_)
        refine S_aload_n 0 dX4_isWord_53 rfl rfl rfl ?_
        refine S_geti 7 qC_4 (by decide) (by decide) qk_2 tw_154 dX4_isWord_54 rfl ?_
        refine S_iload_n 2 dX4_isWord_57 rfl rfl rfl ?_
        refine S_iadd dX4_isWord_58 rfl ?_
        refine S_bald (N := 900) qk_1 rfl dX4_isWord_59 rfl (fun g4 g5 => ?_)
        refine S_aload_n 1 dX4_isWord_60 rfl rfl rfl ?_
        refine S_iload_n 2 dX4_isWord_61 rfl rfl rfl ?_
        refine S_callT_i (as := [qi a2]) (st := [qi (h2.1 1 (qw (h2.1 2 7 + a2)).toNat)]) (t := s1) (fun _ => rfl) (TJ0_charAt_5068e s1 a2 t1 h2) yv_J0_charAt_5068e tw_559 t1 (by decide) rfl rfl (Nat.le_of_ble_eq_true rfl) dX4_isWord_62 rfl (fun r6 h7 e8 => ?_)
        refine S_icmp_eq (tgt := 70) dX4_isWord_65 (by decide) rfl (fun _ => ?_) (fun _ => ?_)
        · refine S_iinc (lv' := [(2, qi (qw (a2 + 1))), (0, qr 2), (1, qr (300 + 2 * s1))]) 2 dX4_isWord_70 rfl (by decide) rfl rfl ?_
          refine S_goto (pc' := 28) dX4_isWord_73 (by decide) ?_
          refine S_sub [1, 2, 0] rfl ?_
          exact ih s1 (qw (a2 + 1)) t1 h7
        · refine S_iconst (a := 0) dX4_isWord_68 rfl (by decide) ?_
          exact S_zretl (by decide) dX4_isWord_69
def DX4_isWord (s1 : Nat) (h : qH) : Option (Int × qH) := (if ¬ h.1 2 6 = 1 then some (0, h) else (qbd (DJ0_length_8abf5 s1 h) fun r9 h10 => (if qw (h.1 2 8 - h.1 2 7) = r9 then (DX4_isWord_l28 LF s1 0 h10) else some (0, h10))))
set_option maxRecDepth 100000 in
theorem TX4_isWord {L : Nat} {xs : Nat → Int32} (s1 : Nat) (t1 : s1 < 31) (h : qH) : qMet L xs yX4_isWord cX4_isWord 3 (some .boolean) 4 6 [qr 2, qr (300 + 2 * s1)] h (DX4_isWord s1 h) := by
  refine qMet.of (by decide +kernel) (Or.inr (Or.inr (Or.inr (Or.inr (Or.inl ⟨rfl, rfl⟩))))) (Nat.le_of_ble_eq_true rfl) ?_
  show qS L xs cX4_isWord "BottlePost$Reader" 3 6 4 0 [(0, qr 2), (1, qr (300 + 2 * s1))] [] h (DX4_isWord s1 h)
  unfold DX4_isWord
  refine S_aload_n 0 dX4_isWord_0 rfl rfl rfl ?_
  refine S_geti 6 qC_4 (by decide) (by decide) qk_2 tw_153 dX4_isWord_1 rfl ?_
  refine S_iconst (a := 1) dX4_isWord_4 rfl (by decide) ?_
  refine S_icmp_ne (tgt := 24) dX4_isWord_5 (by decide) rfl (fun _ => ?_) (fun _ => ?_)
  · refine S_iconst (a := 0) dX4_isWord_24 rfl (by decide) ?_
    exact S_zretl (by decide) dX4_isWord_25
  · refine S_aload_n 0 dX4_isWord_8 rfl rfl rfl ?_
    refine S_geti 8 qC_4 (by decide) (by decide) qk_2 tw_155 dX4_isWord_9 rfl ?_
    refine S_aload_n 0 dX4_isWord_12 rfl rfl rfl ?_
    refine S_geti 7 qC_4 (by decide) (by decide) qk_2 tw_154 dX4_isWord_13 rfl ?_
    refine S_isub dX4_isWord_16 rfl ?_
    refine S_aload_n 1 dX4_isWord_17 rfl rfl rfl ?_
    refine S_callT_i (as := []) (st := [qi (qw (h.1 2 8 - h.1 2 7))]) (t := s1) (fun _ => rfl) (TJ0_length_8abf5 s1 t1 h) yv_J0_length_8abf5 tw_558 t1 (by decide) rfl rfl (Nat.le_of_ble_eq_true rfl) dX4_isWord_18 rfl (fun r9 h10 e11 => ?_)
    refine S_icmp_eq (tgt := 26) dX4_isWord_21 (by decide) rfl (fun _ => ?_) (fun _ => ?_)
    · refine S_iconst (a := 0) dX4_isWord_26 rfl (by decide) ?_
      refine S_istore_n (lv' := [(2, qi 0), (0, qr 2), (1, qr (300 + 2 * s1))]) dX4_isWord_27 rfl (by decide) rfl rfl ?_
      refine S_sub [1, 2, 0] rfl ?_
      exact TX4_isWord_l28 LF s1 0 t1 h10
    · refine S_iconst (a := 0) dX4_isWord_24 rfl (by decide) ?_
      exact S_zretl (by decide) dX4_isWord_25
def DX4_emit (a1 : Int) (h : qH) : Option (Int × qH) := (if h.1 2 5 < 0 then some (0, h) else (if 900 ≤ h.1 2 5 then some (0, h) else (if h.2.2.2.2 = true then (if 0 ≤ h.1 2 5 ∧ h.1 2 5 < 900 then qlt (qu h 23 (h.1 2 5).toNat a1) fun h1 => (qlt (qu h1 2 5 (qw (h1.1 2 5 + 1))) fun h2 => some (0, h2)) else none) else none)))
set_option maxRecDepth 100000 in
theorem TX4_emit {L : Nat} {xs : Nat → Int32} (a1 : Int) (h : qH) : qMet L xs yX4_emit cX4_emit 2 (none) 0 1 [qr 2, qi a1] h (DX4_emit a1 h) := by
  refine qMet.of (by decide +kernel) (Or.inl ⟨rfl, rfl⟩) (Nat.le_of_ble_eq_true rfl) ?_
  show qS L xs cX4_emit "BottlePost$Reader" 2 1 0 0 [(0, qr 2), (1, qi a1)] [] h (DX4_emit a1 h)
  unfold DX4_emit
  refine S_aload_n 0 dX4_emit_0 rfl rfl rfl ?_
  refine S_geti 5 qC_4 (by decide) (by decide) qk_2 tw_152 dX4_emit_1 rfl ?_
  refine S_if_lt (tgt := 40) dX4_emit_4 (by decide) rfl (fun _ => ?_) (fun _ => ?_)
  · exact S_vret dX4_emit_40
  · refine S_aload_n 0 dX4_emit_7 rfl rfl rfl ?_
    refine S_geti 5 qC_4 (by decide) (by decide) qk_2 tw_152 dX4_emit_8 rfl ?_
    refine S_sipush (a := 900) dX4_emit_11 rfl (by decide) (by decide) ?_
    refine S_icmp_ge (tgt := 40) dX4_emit_14 (by decide) rfl (fun _ => ?_) (fun _ => ?_)
    · exact S_vret dX4_emit_40
    · refine S_aload_n 0 dX4_emit_17 rfl rfl rfl ?_
      refine S_getc qC_4 tw_144 dX4_emit_18 rfl (fun _ => ?_)
      refine S_getr (j := 23) (o := 7) 6 qC_1 (by decide) (by decide) qk_16 rfl rfl (by decide) tw_60 dX4_emit_21 rfl ?_
      refine S_aload_n 0 dX4_emit_24 rfl rfl rfl ?_
      refine S_geti 5 qC_4 (by decide) (by decide) qk_2 tw_152 dX4_emit_25 rfl ?_
      refine S_iload_n 1 dX4_emit_28 rfl rfl rfl ?_
      refine S_iast (N := 900) qk_23 rfl dX4_emit_29 rfl (fun _ _ => ?_)
      refine S_lh (fun h1 => ?_)
      refine S_aload_n 0 dX4_emit_30 rfl rfl rfl ?_
      refine S_dup dX4_emit_31 rfl rfl ?_
      refine S_geti 5 qC_4 (by decide) (by decide) qk_2 tw_152 dX4_emit_32 rfl ?_
      refine S_iconst (a := 1) dX4_emit_35 rfl (by decide) ?_
      refine S_iadd dX4_emit_36 rfl ?_
      refine S_puti 5 qC_4 (by decide) (by decide) rfl rfl qk_2 (by decide) tw_152 dX4_emit_37 rfl ?_
      refine S_lh (fun h2 => ?_)
      exact S_vret dX4_emit_40
def DX4_keepsWord (h : qH) : Option (Int × qH) := (qbd (DX4_isWord 13 h) fun r1 h2 => (if r1 = 0 then (qbd (DX4_isWord 14 h2) fun r4 h5 => (if r4 = 0 then (qbd (DX4_isWord 15 h5) fun r7 h8 => (if r7 = 0 then (qbd (DX4_isWord 16 h8) fun r10 h11 => (if r10 = 0 then (qbd (DX4_isWord 17 h11) fun r13 h14 => (if r13 = 0 then (qbd (DX4_isWord 18 h14) fun r16 h17 => (if r16 = 0 then (qbd (DX4_isWord 19 h17) fun r19 h20 => (if r19 = 0 then some ((-1), h20) else some (6, h20))) else some (5, h17))) else some (4, h14))) else some (3, h11))) else some (2, h8))) else some (1, h5))) else some (0, h2)))
set_option maxRecDepth 100000 in
theorem TX4_keepsWord {L : Nat} {xs : Nat → Int32} (h : qH) : qMet L xs yX4_keepsWord cX4_keepsWord 1 (some .int) 1 7 [qr 2] h (DX4_keepsWord h) := by
  refine qMet.of (by decide +kernel) (Or.inr (Or.inl ⟨rfl, rfl⟩)) (Nat.le_of_ble_eq_true rfl) ?_
  show qS L xs cX4_keepsWord "BottlePost$Reader" 1 7 1 0 [(0, qr 2)] [] h (DX4_keepsWord h)
  unfold DX4_keepsWord
  refine S_aload_n 0 dX4_keepsWord_0 rfl rfl rfl ?_
  refine S_ldcsw (t := 13) (by decide) ⟨rfl, rfl⟩ dX4_keepsWord_1 rfl ?_
  refine S_callV_i (as := [qr (300 + 2 * 13)]) (st := []) (fun _ => rfl) (TX4_isWord 13 (by decide) h) yv_X4_isWord tw_554 qC_4 qk_2 (by decide) rfl rfl (Nat.le_of_ble_eq_true rfl) dX4_keepsWord_4 rfl (fun r1 h2 e3 => ?_)
  refine S_if_eq (tgt := 12) dX4_keepsWord_7 (by decide) rfl (fun _ => ?_) (fun _ => ?_)
  · refine S_aload_n 0 dX4_keepsWord_12 rfl rfl rfl ?_
    refine S_ldcsw (t := 14) (by decide) ⟨rfl, rfl⟩ dX4_keepsWord_13 rfl ?_
    refine S_callV_i (as := [qr (300 + 2 * 14)]) (st := []) (fun _ => rfl) (TX4_isWord 14 (by decide) h2) yv_X4_isWord tw_554 qC_4 qk_2 (by decide) rfl rfl (Nat.le_of_ble_eq_true rfl) dX4_keepsWord_16 rfl (fun r4 h5 e6 => ?_)
    refine S_if_eq (tgt := 24) dX4_keepsWord_19 (by decide) rfl (fun _ => ?_) (fun _ => ?_)
    · refine S_aload_n 0 dX4_keepsWord_24 rfl rfl rfl ?_
      refine S_ldcsw (t := 15) (by decide) ⟨rfl, rfl⟩ dX4_keepsWord_25 rfl ?_
      refine S_callV_i (as := [qr (300 + 2 * 15)]) (st := []) (fun _ => rfl) (TX4_isWord 15 (by decide) h5) yv_X4_isWord tw_554 qC_4 qk_2 (by decide) rfl rfl (Nat.le_of_ble_eq_true rfl) dX4_keepsWord_28 rfl (fun r7 h8 e9 => ?_)
      refine S_if_eq (tgt := 36) dX4_keepsWord_31 (by decide) rfl (fun _ => ?_) (fun _ => ?_)
      · refine S_aload_n 0 dX4_keepsWord_36 rfl rfl rfl ?_
        refine S_ldcsw (t := 16) (by decide) ⟨rfl, rfl⟩ dX4_keepsWord_37 rfl ?_
        refine S_callV_i (as := [qr (300 + 2 * 16)]) (st := []) (fun _ => rfl) (TX4_isWord 16 (by decide) h8) yv_X4_isWord tw_554 qC_4 qk_2 (by decide) rfl rfl (Nat.le_of_ble_eq_true rfl) dX4_keepsWord_40 rfl (fun r10 h11 e12 => ?_)
        refine S_if_eq (tgt := 48) dX4_keepsWord_43 (by decide) rfl (fun _ => ?_) (fun _ => ?_)
        · refine S_aload_n 0 dX4_keepsWord_48 rfl rfl rfl ?_
          refine S_ldcsw (t := 17) (by decide) ⟨rfl, rfl⟩ dX4_keepsWord_49 rfl ?_
          refine S_callV_i (as := [qr (300 + 2 * 17)]) (st := []) (fun _ => rfl) (TX4_isWord 17 (by decide) h11) yv_X4_isWord tw_554 qC_4 qk_2 (by decide) rfl rfl (Nat.le_of_ble_eq_true rfl) dX4_keepsWord_52 rfl (fun r13 h14 e15 => ?_)
          refine S_if_eq (tgt := 60) dX4_keepsWord_55 (by decide) rfl (fun _ => ?_) (fun _ => ?_)
          · refine S_aload_n 0 dX4_keepsWord_60 rfl rfl rfl ?_
            refine S_ldcsw (t := 18) (by decide) ⟨rfl, rfl⟩ dX4_keepsWord_61 rfl ?_
            refine S_callV_i (as := [qr (300 + 2 * 18)]) (st := []) (fun _ => rfl) (TX4_isWord 18 (by decide) h14) yv_X4_isWord tw_554 qC_4 qk_2 (by decide) rfl rfl (Nat.le_of_ble_eq_true rfl) dX4_keepsWord_64 rfl (fun r16 h17 e18 => ?_)
            refine S_if_eq (tgt := 72) dX4_keepsWord_67 (by decide) rfl (fun _ => ?_) (fun _ => ?_)
            · refine S_aload_n 0 dX4_keepsWord_72 rfl rfl rfl ?_
              refine S_ldcsw (t := 19) (by decide) ⟨rfl, rfl⟩ dX4_keepsWord_73 rfl ?_
              refine S_callV_i (as := [qr (300 + 2 * 19)]) (st := []) (fun _ => rfl) (TX4_isWord 19 (by decide) h17) yv_X4_isWord tw_554 qC_4 qk_2 (by decide) rfl rfl (Nat.le_of_ble_eq_true rfl) dX4_keepsWord_76 rfl (fun r19 h20 e21 => ?_)
              refine S_if_eq (tgt := 87) dX4_keepsWord_79 (by decide) rfl (fun _ => ?_) (fun _ => ?_)
              · refine S_iconst (a := (-1)) dX4_keepsWord_87 rfl (by decide) ?_
                exact S_iret dX4_keepsWord_88
              · refine S_bipush (a := 6) dX4_keepsWord_82 rfl (by decide) (by decide) ?_
                refine S_goto (pc' := 88) dX4_keepsWord_84 (by decide) ?_
                exact S_iret dX4_keepsWord_88
            · refine S_iconst (a := 5) dX4_keepsWord_70 rfl (by decide) ?_
              exact S_iret dX4_keepsWord_71
          · refine S_iconst (a := 4) dX4_keepsWord_58 rfl (by decide) ?_
            exact S_iret dX4_keepsWord_59
        · refine S_iconst (a := 3) dX4_keepsWord_46 rfl (by decide) ?_
          exact S_iret dX4_keepsWord_47
      · refine S_iconst (a := 2) dX4_keepsWord_34 rfl (by decide) ?_
        exact S_iret dX4_keepsWord_35
    · refine S_iconst (a := 1) dX4_keepsWord_22 rfl (by decide) ?_
      exact S_iret dX4_keepsWord_23
  · refine S_iconst (a := 0) dX4_keepsWord_10 rfl (by decide) ?_
    exact S_iret dX4_keepsWord_11
def DX4_windWord (h : qH) : Option (Int × qH) := (qbd (DX4_isWord 20 h) fun r1 h2 => (if r1 = 0 then (qbd (DX4_isWord 21 h2) fun r4 h5 => (if r4 = 0 then (qbd (DX4_isWord 19 h5) fun r7 h8 => (if r7 = 0 then (qbd (DX4_isWord 22 h8) fun r10 h11 => (if r10 = 0 then some ((-1), h11) else some (3, h11))) else some (2, h8))) else some (1, h5))) else some (0, h2)))
set_option maxRecDepth 100000 in
theorem TX4_windWord {L : Nat} {xs : Nat → Int32} (h : qH) : qMet L xs yX4_windWord cX4_windWord 1 (some .int) 1 7 [qr 2] h (DX4_windWord h) := by
  refine qMet.of (by decide +kernel) (Or.inr (Or.inl ⟨rfl, rfl⟩)) (Nat.le_of_ble_eq_true rfl) ?_
  show qS L xs cX4_windWord "BottlePost$Reader" 1 7 1 0 [(0, qr 2)] [] h (DX4_windWord h)
  unfold DX4_windWord
  refine S_aload_n 0 dX4_windWord_0 rfl rfl rfl ?_
  refine S_ldcsw (t := 20) (by decide) ⟨rfl, rfl⟩ dX4_windWord_1 rfl ?_
  refine S_callV_i (as := [qr (300 + 2 * 20)]) (st := []) (fun _ => rfl) (TX4_isWord 20 (by decide) h) yv_X4_isWord tw_554 qC_4 qk_2 (by decide) rfl rfl (Nat.le_of_ble_eq_true rfl) dX4_windWord_4 rfl (fun r1 h2 e3 => ?_)
  refine S_if_eq (tgt := 12) dX4_windWord_7 (by decide) rfl (fun _ => ?_) (fun _ => ?_)
  · refine S_aload_n 0 dX4_windWord_12 rfl rfl rfl ?_
    refine S_ldcsw (t := 21) (by decide) ⟨rfl, rfl⟩ dX4_windWord_13 rfl ?_
    refine S_callV_i (as := [qr (300 + 2 * 21)]) (st := []) (fun _ => rfl) (TX4_isWord 21 (by decide) h2) yv_X4_isWord tw_554 qC_4 qk_2 (by decide) rfl rfl (Nat.le_of_ble_eq_true rfl) dX4_windWord_16 rfl (fun r4 h5 e6 => ?_)
    refine S_if_eq (tgt := 24) dX4_windWord_19 (by decide) rfl (fun _ => ?_) (fun _ => ?_)
    · refine S_aload_n 0 dX4_windWord_24 rfl rfl rfl ?_
      refine S_ldcsw (t := 19) (by decide) ⟨rfl, rfl⟩ dX4_windWord_25 rfl ?_
      refine S_callV_i (as := [qr (300 + 2 * 19)]) (st := []) (fun _ => rfl) (TX4_isWord 19 (by decide) h5) yv_X4_isWord tw_554 qC_4 qk_2 (by decide) rfl rfl (Nat.le_of_ble_eq_true rfl) dX4_windWord_28 rfl (fun r7 h8 e9 => ?_)
      refine S_if_eq (tgt := 36) dX4_windWord_31 (by decide) rfl (fun _ => ?_) (fun _ => ?_)
      · refine S_aload_n 0 dX4_windWord_36 rfl rfl rfl ?_
        refine S_ldcs (t := 22) (by decide) ⟨rfl, rfl⟩ dX4_windWord_37 rfl ?_
        refine S_callV_i (as := [qr (300 + 2 * 22)]) (st := []) (fun _ => rfl) (TX4_isWord 22 (by decide) h8) yv_X4_isWord tw_554 qC_4 qk_2 (by decide) rfl rfl (Nat.le_of_ble_eq_true rfl) dX4_windWord_39 rfl (fun r10 h11 e12 => ?_)
        refine S_if_eq (tgt := 49) dX4_windWord_42 (by decide) rfl (fun _ => ?_) (fun _ => ?_)
        · refine S_iconst (a := (-1)) dX4_windWord_49 rfl (by decide) ?_
          exact S_iret dX4_windWord_50
        · refine S_iconst (a := 3) dX4_windWord_45 rfl (by decide) ?_
          refine S_goto (pc' := 50) dX4_windWord_46 (by decide) ?_
          exact S_iret dX4_windWord_50
      · refine S_iconst (a := 2) dX4_windWord_34 rfl (by decide) ?_
        exact S_iret dX4_windWord_35
    · refine S_iconst (a := 1) dX4_windWord_22 rfl (by decide) ?_
      exact S_iret dX4_windWord_23
  · refine S_iconst (a := 0) dX4_windWord_10 rfl (by decide) ?_
    exact S_iret dX4_windWord_11
def DX4_atom_b88 (f_X4_truth : Int → qH → Option (Int × qH)) (f_X4_both : Int → qH → Option (Int × qH)) (f_X4_unit : Int → qH → Option (Int × qH)) (f_X4_sum : Int → Int → qH → Option (Int × qH)) (f_X4_term : Int → Int → qH → Option (Int × qH)) (f_X4_atom : Int → Int → qH → Option (Int × qH)) (b0 : Int) (h : qH) : Option (Int × qH) := (if ¬ b0 = (-1) then (qbd (DX4_emit (qw (1000 + b0)) h) fun r1 h2 => (qbd (DX4_advance h2) fun r4 h5 => some (1, h5))) else (qbd (DX4_refuse 2 h) fun r7 h8 => (if r7 = 0 ∨ r7 = 1 then some (r7, h8) else none)))
set_option maxRecDepth 100000 in
theorem TX4_atom_b88 {L : Nat} {xs : Nat → Int32} {dd : Nat} (f_X4_truth : Int → qH → Option (Int × qH)) (f_X4_both : Int → qH → Option (Int × qH)) (f_X4_unit : Int → qH → Option (Int × qH)) (f_X4_sum : Int → Int → qH → Option (Int × qH)) (f_X4_term : Int → Int → qH → Option (Int × qH)) (f_X4_atom : Int → Int → qH → Option (Int × qH)) (hf_X4_truth : ∀ (a1 : Int) (h : qH), qMet L xs yX4_truth cX4_truth 4 (some .boolean) 4 dd [qr 2, qi a1] h (f_X4_truth a1 h)) (hf_X4_both : ∀ (a1 : Int) (h : qH), qMet L xs yX4_both cX4_both 4 (some .boolean) 4 dd [qr 2, qi a1] h (f_X4_both a1 h)) (hf_X4_unit : ∀ (a1 : Int) (h : qH), qMet L xs yX4_unit cX4_unit 5 (some .boolean) 4 dd [qr 2, qi a1] h (f_X4_unit a1 h)) (hf_X4_sum : ∀ (a1 : Int) (a2 : Int) (h : qH), qMet L xs yX4_sum cX4_sum 6 (some .boolean) 4 dd [qr 2, qi a1, qi a2] h (f_X4_sum a1 a2 h)) (hf_X4_term : ∀ (a1 : Int) (a2 : Int) (h : qH), qMet L xs yX4_term cX4_term 5 (some .boolean) 4 dd [qr 2, qi a1, qi a2] h (f_X4_term a1 a2 h)) (hf_X4_atom : ∀ (a1 : Int) (a2 : Int) (h : qH), qMet L xs yX4_atom cX4_atom 4 (some .boolean) 4 dd [qr 2, qi a1, qi a2] h (f_X4_atom a1 a2 h)) (hdd : 10 ≤ dd) (b0 : Int) (h : qH) : qS L xs cX4_atom "BottlePost$Reader" 4 (dd + 1) 4 88 [(0, qr 2)] [qi b0] h (DX4_atom_b88 f_X4_truth f_X4_both f_X4_unit f_X4_sum f_X4_term f_X4_atom b0 h) := by
  unfold DX4_atom_b88
  refine S_istore_n (lv' := [(3, qi b0), (0, qr 2)]) dX4_atom_88 rfl (by decide) rfl rfl ?_
  refine S_iload_n 0 dX4_atom_89 rfl rfl rfl ?_
  refine S_iconst (a := (-1)) dX4_atom_90 rfl (by decide) ?_
  refine S_icmp_ne (tgt := 100) dX4_atom_91 (by decide) rfl (fun _ => ?_) (fun _ => ?_)
  · refine S_aload_n 1 dX4_atom_100 rfl rfl rfl ?_
    refine S_sipush (a := 1000) dX4_atom_101 rfl (by decide) (by decide) ?_
    refine S_iload_n 0 dX4_atom_104 rfl rfl rfl ?_
    refine S_iadd dX4_atom_105 rfl ?_
    refine S_callV_0 (as := [qi (qw (1000 + b0))]) (st := []) (fun _ => rfl) (TX4_emit (qw (1000 + b0)) h) yv_X4_emit tw_658 qC_4 qk_2 (by omega) rfl rfl (Nat.le_of_ble_eq_true rfl) dX4_atom_106 rfl (fun r1 h2 e3 => ?_)
    refine S_aload_n 1 dX4_atom_109 rfl rfl rfl ?_
    refine S_callV_0 (as := []) (st := []) (fun _ => rfl) (TX4_advance h2) yv_X4_advance tw_456 qC_4 qk_2 (by omega) rfl rfl (Nat.le_of_ble_eq_true rfl) dX4_atom_110 rfl (fun r4 h5 e6 => ?_)
    refine S_iconst (a := 1) dX4_atom_113 rfl (by decide) ?_
    exact S_zretl (by decide) dX4_atom_114
  · refine S_aload_n 1 dX4_atom_94 rfl rfl rfl ?_
    refine S_iconst (a := 2) dX4_atom_95 rfl (by decide) ?_
    refine S_callV_i (as := [qi 2]) (st := []) (fun _ => rfl) (TX4_refuse 2 h) yv_X4_refuse tw_579 qC_4 qk_2 (by omega) rfl rfl (Nat.le_of_ble_eq_true rfl) dX4_atom_96 rfl (fun r7 h8 e9 => ?_)
    exact S_zret dX4_atom_99
def DX4_atom (f_X4_truth : Int → qH → Option (Int × qH)) (f_X4_both : Int → qH → Option (Int × qH)) (f_X4_unit : Int → qH → Option (Int × qH)) (f_X4_sum : Int → Int → qH → Option (Int × qH)) (f_X4_term : Int → Int → qH → Option (Int × qH)) (f_X4_atom : Int → Int → qH → Option (Int × qH)) (a1 : Int) (a2 : Int) (h : qH) : Option (Int × qH) := (if ¬ h.1 2 6 = 40 then (if ¬ h.1 2 6 = 2 then (if a2 = 0 then (qbd (DX4_windWord h) fun r10 h11 => (DX4_atom_b88 f_X4_truth f_X4_both f_X4_unit f_X4_sum f_X4_term f_X4_atom r10 h11)) else (qbd (DX4_keepsWord h) fun r13 h14 => (DX4_atom_b88 f_X4_truth f_X4_both f_X4_unit f_X4_sum f_X4_term f_X4_atom r13 h14))) else (qbd (DX4_emit (h.1 2 9) h) fun r16 h17 => (qbd (DX4_advance h17) fun r19 h20 => some (1, h20)))) else (if a1 < 6 then (qbd (DX4_advance h) fun r22 h23 => (qbd (f_X4_sum (qw (a1 + 1)) a2 h23) fun r25 h26 => (if r25 = 0 then some (0, h26) else (qbd (DX4_takeSign 41 h26) fun r28 h29 => (if r28 = 0 then some (0, h29) else some (1, h29)))))) else (qbd (DX4_refuse 4 h) fun r31 h32 => (if r31 = 0 ∨ r31 = 1 then some (r31, h32) else none))))
set_option maxRecDepth 100000 in
theorem TX4_atom {L : Nat} {xs : Nat → Int32} {dd : Nat} (f_X4_truth : Int → qH → Option (Int × qH)) (f_X4_both : Int → qH → Option (Int × qH)) (f_X4_unit : Int → qH → Option (Int × qH)) (f_X4_sum : Int → Int → qH → Option (Int × qH)) (f_X4_term : Int → Int → qH → Option (Int × qH)) (f_X4_atom : Int → Int → qH → Option (Int × qH)) (hf_X4_truth : ∀ (a1 : Int) (h : qH), qMet L xs yX4_truth cX4_truth 4 (some .boolean) 4 dd [qr 2, qi a1] h (f_X4_truth a1 h)) (hf_X4_both : ∀ (a1 : Int) (h : qH), qMet L xs yX4_both cX4_both 4 (some .boolean) 4 dd [qr 2, qi a1] h (f_X4_both a1 h)) (hf_X4_unit : ∀ (a1 : Int) (h : qH), qMet L xs yX4_unit cX4_unit 5 (some .boolean) 4 dd [qr 2, qi a1] h (f_X4_unit a1 h)) (hf_X4_sum : ∀ (a1 : Int) (a2 : Int) (h : qH), qMet L xs yX4_sum cX4_sum 6 (some .boolean) 4 dd [qr 2, qi a1, qi a2] h (f_X4_sum a1 a2 h)) (hf_X4_term : ∀ (a1 : Int) (a2 : Int) (h : qH), qMet L xs yX4_term cX4_term 5 (some .boolean) 4 dd [qr 2, qi a1, qi a2] h (f_X4_term a1 a2 h)) (hf_X4_atom : ∀ (a1 : Int) (a2 : Int) (h : qH), qMet L xs yX4_atom cX4_atom 4 (some .boolean) 4 dd [qr 2, qi a1, qi a2] h (f_X4_atom a1 a2 h)) (hdd : 10 ≤ dd) (a1 : Int) (a2 : Int) (h : qH) : qMet L xs yX4_atom cX4_atom 4 (some .boolean) 4 (dd + 1) [qr 2, qi a1, qi a2] h (DX4_atom f_X4_truth f_X4_both f_X4_unit f_X4_sum f_X4_term f_X4_atom a1 a2 h) := by
  refine qMet.of (by decide +kernel) (Or.inr (Or.inr (Or.inr (Or.inr (Or.inl ⟨rfl, rfl⟩))))) (Nat.le_of_ble_eq_true rfl) ?_
  show qS L xs cX4_atom "BottlePost$Reader" 4 (dd + 1) 4 0 [(0, qr 2), (1, qi a1), (2, qi a2)] [] h (DX4_atom f_X4_truth f_X4_both f_X4_unit f_X4_sum f_X4_term f_X4_atom a1 a2 h)
  unfold DX4_atom
  refine S_aload_n 0 dX4_atom_0 rfl rfl rfl ?_
  refine S_geti 6 qC_4 (by decide) (by decide) qk_2 tw_153 dX4_atom_1 rfl ?_
  refine S_bipush (a := 40) dX4_atom_4 rfl (by decide) (by decide) ?_
  refine S_icmp_ne (tgt := 51) dX4_atom_6 (by decide) rfl (fun _ => ?_) (fun _ => ?_)
  · refine S_aload_n 0 dX4_atom_51 rfl rfl rfl ?_
    refine S_geti 6 qC_4 (by decide) (by decide) qk_2 tw_153 dX4_atom_52 rfl ?_
    refine S_iconst (a := 2) dX4_atom_55 rfl (by decide) ?_
    refine S_icmp_ne (tgt := 73) dX4_atom_56 (by decide) rfl (fun _ => ?_) (fun _ => ?_)
    · refine S_iload_n 2 dX4_atom_73 rfl rfl rfl ?_
      refine S_if_eq (tgt := 84) dX4_atom_74 (by decide) rfl (fun _ => ?_) (fun _ => ?_)
      · refine S_aload_n 0 dX4_atom_84 rfl rfl rfl ?_
        refine S_callV_i (as := []) (st := []) (fun _ => rfl) (TX4_windWord h) yv_X4_windWord tw_673 qC_4 qk_2 (by omega) rfl rfl (Nat.le_of_ble_eq_true rfl) dX4_atom_85 rfl (fun r10 h11 e12 => ?_)
        refine S_sub [0] rfl ?_
        exact TX4_atom_b88 f_X4_truth f_X4_both f_X4_unit f_X4_sum f_X4_term f_X4_atom hf_X4_truth hf_X4_both hf_X4_unit hf_X4_sum hf_X4_term hf_X4_atom hdd r10 h11
      · refine S_aload_n 0 dX4_atom_77 rfl rfl rfl ?_
        refine S_callV_i (as := []) (st := []) (fun _ => rfl) (TX4_keepsWord h) yv_X4_keepsWord tw_662 qC_4 qk_2 (by omega) rfl rfl (Nat.le_of_ble_eq_true rfl) dX4_atom_78 rfl (fun r13 h14 e15 => ?_)
        refine S_goto (pc' := 88) dX4_atom_81 (by decide) ?_
        refine S_sub [0] rfl ?_
        exact TX4_atom_b88 f_X4_truth f_X4_both f_X4_unit f_X4_sum f_X4_term f_X4_atom hf_X4_truth hf_X4_both hf_X4_unit hf_X4_sum hf_X4_term hf_X4_atom hdd r13 h14
    · refine S_aload_n 0 dX4_atom_59 rfl rfl rfl ?_
      refine S_aload_n 0 dX4_atom_60 rfl rfl rfl ?_
      refine S_geti 9 qC_4 (by decide) (by decide) qk_2 tw_156 dX4_atom_61 rfl ?_
      refine S_callV_0 (as := [qi (h.1 2 9)]) (st := []) (fun _ => rfl) (TX4_emit (h.1 2 9) h) yv_X4_emit tw_658 qC_4 qk_2 (by omega) rfl rfl (Nat.le_of_ble_eq_true rfl) dX4_atom_64 rfl (fun r16 h17 e18 => ?_)
      refine S_aload_n 0 dX4_atom_67 rfl rfl rfl ?_
      refine S_callV_0 (as := []) (st := []) (fun _ => rfl) (TX4_advance h17) yv_X4_advance tw_456 qC_4 qk_2 (by omega) rfl rfl (Nat.le_of_ble_eq_true rfl) dX4_atom_68 rfl (fun r19 h20 e21 => ?_)
      refine S_iconst (a := 1) dX4_atom_71 rfl (by decide) ?_
      exact S_zretl (by decide) dX4_atom_72
  · refine S_iload_n 1 dX4_atom_9 rfl rfl rfl ?_
    refine S_bipush (a := 6) dX4_atom_10 rfl (by decide) (by decide) ?_
    refine S_icmp_lt (tgt := 21) dX4_atom_12 (by decide) rfl (fun _ => ?_) (fun _ => ?_)
    · refine S_aload_n 0 dX4_atom_21 rfl rfl rfl ?_
      refine S_callV_0 (as := []) (st := []) (fun _ => rfl) (TX4_advance h) yv_X4_advance tw_456 qC_4 qk_2 (by omega) rfl rfl (Nat.le_of_ble_eq_true rfl) dX4_atom_22 rfl (fun r22 h23 e24 => ?_)
      refine S_aload_n 0 dX4_atom_25 rfl rfl rfl ?_
      refine S_iload_n 1 dX4_atom_26 rfl rfl rfl ?_
      refine S_iconst (a := 1) dX4_atom_27 rfl (by decide) ?_
      refine S_iadd dX4_atom_28 rfl ?_
      refine S_iload_n 2 dX4_atom_29 rfl rfl rfl ?_
      refine S_callV_i (as := [qi (qw (a1 + 1)), qi a2]) (st := []) (fun _ => rfl) (hf_X4_sum (qw (a1 + 1)) a2 h23) yv_X4_sum tw_646 qC_4 qk_2 (Nat.le_refl _) rfl rfl (Nat.le_of_ble_eq_true rfl) dX4_atom_30 rfl (fun r25 h26 e27 => ?_)
      refine S_if_eq (tgt := 49) dX4_atom_33 (by decide) rfl (fun _ => ?_) (fun _ => ?_)
      · refine S_iconst (a := 0) dX4_atom_49 rfl (by decide) ?_
        exact S_zretl (by decide) dX4_atom_50
      · refine S_aload_n 0 dX4_atom_36 rfl rfl rfl ?_
        refine S_bipush (a := 41) dX4_atom_37 rfl (by decide) (by decide) ?_
        refine S_callV_i (as := [qi 41]) (st := []) (fun _ => rfl) (TX4_takeSign 41 h26) yv_X4_takeSign tw_592 qC_4 qk_2 (by omega) rfl rfl (Nat.le_of_ble_eq_true rfl) dX4_atom_39 rfl (fun r28 h29 e30 => ?_)
        refine S_if_eq (tgt := 49) dX4_atom_42 (by decide) rfl (fun _ => ?_) (fun _ => ?_)
        · refine S_iconst (a := 0) dX4_atom_49 rfl (by decide) ?_
          exact S_zretl (by decide) dX4_atom_50
        · refine S_iconst (a := 1) dX4_atom_45 rfl (by decide) ?_
          refine S_goto (pc' := 50) dX4_atom_46 (by decide) ?_
          exact S_zretl (by decide) dX4_atom_50
    · refine S_aload_n 0 dX4_atom_15 rfl rfl rfl ?_
      refine S_iconst (a := 4) dX4_atom_16 rfl (by decide) ?_
      refine S_callV_i (as := [qi 4]) (st := []) (fun _ => rfl) (TX4_refuse 4 h) yv_X4_refuse tw_579 qC_4 qk_2 (by omega) rfl rfl (Nat.le_of_ble_eq_true rfl) dX4_atom_17 rfl (fun r31 h32 e33 => ?_)
      exact S_zret dX4_atom_20
def DX4_term_l10 (f_X4_truth : Int → qH → Option (Int × qH)) (f_X4_both : Int → qH → Option (Int × qH)) (f_X4_unit : Int → qH → Option (Int × qH)) (f_X4_sum : Int → Int → qH → Option (Int × qH)) (f_X4_term : Int → Int → qH → Option (Int × qH)) (f_X4_atom : Int → Int → qH → Option (Int × qH)) : Nat → Int → Int → Int → Int → qH → Option (Int × qH)
  | 0, _, _, _, _, _ => none
  | n + 1, a1, a2, a3, a4, h => (if 900 ≤ a4 then (if a3 = 0 ∨ a3 = 1 then some (a3, h) else none) else (if a3 = 0 then (if a3 = 0 ∨ a3 = 1 then some (a3, h) else none) else (if ¬ h.1 2 6 = 42 then (if a3 = 0 ∨ a3 = 1 then some (a3, h) else none) else (qbd (DX4_advance h) fun r1 h2 => (qbd (f_X4_atom a1 a2 h2) fun r4 h5 => (qbd (DX4_emit 2042 h5) fun r7 h8 => ((DX4_term_l10 f_X4_truth f_X4_both f_X4_unit f_X4_sum f_X4_term f_X4_atom n) a1 a2 r4 (qw (a4 + 1)) h8)))))))
set_option maxRecDepth 100000 in
theorem TX4_term_l10 {L : Nat} {xs : Nat → Int32} {dd : Nat} (f_X4_truth : Int → qH → Option (Int × qH)) (f_X4_both : Int → qH → Option (Int × qH)) (f_X4_unit : Int → qH → Option (Int × qH)) (f_X4_sum : Int → Int → qH → Option (Int × qH)) (f_X4_term : Int → Int → qH → Option (Int × qH)) (f_X4_atom : Int → Int → qH → Option (Int × qH)) (hf_X4_truth : ∀ (a1 : Int) (h : qH), qMet L xs yX4_truth cX4_truth 4 (some .boolean) 4 dd [qr 2, qi a1] h (f_X4_truth a1 h)) (hf_X4_both : ∀ (a1 : Int) (h : qH), qMet L xs yX4_both cX4_both 4 (some .boolean) 4 dd [qr 2, qi a1] h (f_X4_both a1 h)) (hf_X4_unit : ∀ (a1 : Int) (h : qH), qMet L xs yX4_unit cX4_unit 5 (some .boolean) 4 dd [qr 2, qi a1] h (f_X4_unit a1 h)) (hf_X4_sum : ∀ (a1 : Int) (a2 : Int) (h : qH), qMet L xs yX4_sum cX4_sum 6 (some .boolean) 4 dd [qr 2, qi a1, qi a2] h (f_X4_sum a1 a2 h)) (hf_X4_term : ∀ (a1 : Int) (a2 : Int) (h : qH), qMet L xs yX4_term cX4_term 5 (some .boolean) 4 dd [qr 2, qi a1, qi a2] h (f_X4_term a1 a2 h)) (hf_X4_atom : ∀ (a1 : Int) (a2 : Int) (h : qH), qMet L xs yX4_atom cX4_atom 4 (some .boolean) 4 dd [qr 2, qi a1, qi a2] h (f_X4_atom a1 a2 h)) (hdd : 9 ≤ dd) : ∀ (n : Nat) (a1 : Int) (a2 : Int) (a3 : Int) (a4 : Int) (h : qH), qS L xs cX4_term "BottlePost$Reader" 5 (dd + 1) 4 10 [(0, qr 2), (1, qi a1), (2, qi a2), (3, qi a3), (4, qi a4)] [] h (DX4_term_l10 f_X4_truth f_X4_both f_X4_unit f_X4_sum f_X4_term f_X4_atom n a1 a2 a3 a4 h) := by
  intro n
  induction n with
  | zero =>
    intro a1 a2 a3 a4 h
    exact S_none
  | succ n ih =>
    intro a1 a2 a3 a4 h
    rw [DX4_term_l10.eq_2]
    refine S_iload 4 dX4_term_10 rfl rfl ?_
    refine S_sipush (a := 900) dX4_term_12 rfl (by decide) (by decide) ?_
    refine S_icmp_ge (tgt := 55) dX4_term_15 (by decide) rfl (fun _ => ?_) (fun _ => ?_)
    · refine S_iload_n 3 dX4_term_55 rfl rfl rfl ?_
      exact S_zret dX4_term_56
    · refine S_iload_n 3 dX4_term_18 rfl rfl rfl ?_
      refine S_if_eq (tgt := 55) dX4_term_19 (by decide) rfl (fun _ => ?_) (fun _ => ?_)
      · refine S_iload_n 3 dX4_term_55 rfl rfl rfl ?_
        exact S_zret dX4_term_56
      · refine S_aload_n 0 dX4_term_22 rfl rfl rfl ?_
        refine S_geti 6 qC_4 (by decide) (by decide) qk_2 tw_153 dX4_term_23 rfl ?_
        refine S_bipush (a := 42) dX4_term_26 rfl (by decide) (by decide) ?_
        refine S_icmp_ne (tgt := 55) dX4_term_28 (by decide) rfl (fun _ => ?_) (fun _ => ?_)
        · refine S_iload_n 3 dX4_term_55 rfl rfl rfl ?_
          exact S_zret dX4_term_56
        · refine S_aload_n 0 dX4_term_31 rfl rfl rfl ?_
          refine S_callV_0 (as := []) (st := []) (fun _ => rfl) (TX4_advance h) yv_X4_advance tw_456 qC_4 qk_2 (by omega) rfl rfl (Nat.le_of_ble_eq_true rfl) dX4_term_32 rfl (fun r1 h2 e3 => ?_)
          refine S_aload_n 0 dX4_term_35 rfl rfl rfl ?_
          refine S_iload_n 1 dX4_term_36 rfl rfl rfl ?_
          refine S_iload_n 2 dX4_term_37 rfl rfl rfl ?_
          refine S_callV_i (as := [qi a1, qi a2]) (st := []) (fun _ => rfl) (hf_X4_atom a1 a2 h2) yv_X4_atom tw_654 qC_4 qk_2 (Nat.le_refl _) rfl rfl (Nat.le_of_ble_eq_true rfl) dX4_term_38 rfl (fun r4 h5 e6 => ?_)
          refine S_istore_n (lv' := [(3, qi r4), (0, qr 2), (1, qi a1), (2, qi a2), (4, qi a4)]) dX4_term_41 rfl (by decide) rfl rfl ?_
          refine S_aload_n 1 dX4_term_42 rfl rfl rfl ?_
          refine S_sipush (a := 2042) dX4_term_43 rfl (by decide) (by decide) ?_
          refine S_callV_0 (as := [qi 2042]) (st := []) (fun _ => rfl) (TX4_emit 2042 h5) yv_X4_emit tw_658 qC_4 qk_2 (by omega) rfl rfl (Nat.le_of_ble_eq_true rfl) dX4_term_46 rfl (fun r7 h8 e9 => ?_)
          refine S_iinc (lv' := [(4, qi (qw (a4 + 1))), (3, qi r4), (0, qr 2), (1, qi a1), (2, qi a2)]) 4 dX4_term_49 rfl (by decide) rfl rfl ?_
          refine S_goto (pc' := 10) dX4_term_52 (by decide) ?_
          refine S_sub [2, 3, 4, 1, 0] rfl ?_
          exact ih a1 a2 r4 (qw (a4 + 1)) h8
def DX4_term (f_X4_truth : Int → qH → Option (Int × qH)) (f_X4_both : Int → qH → Option (Int × qH)) (f_X4_unit : Int → qH → Option (Int × qH)) (f_X4_sum : Int → Int → qH → Option (Int × qH)) (f_X4_term : Int → Int → qH → Option (Int × qH)) (f_X4_atom : Int → Int → qH → Option (Int × qH)) (a1 : Int) (a2 : Int) (h : qH) : Option (Int × qH) := (qbd (f_X4_atom a1 a2 h) fun r10 h11 => (DX4_term_l10 f_X4_truth f_X4_both f_X4_unit f_X4_sum f_X4_term f_X4_atom LF a1 a2 r10 0 h11))
set_option maxRecDepth 100000 in
theorem TX4_term {L : Nat} {xs : Nat → Int32} {dd : Nat} (f_X4_truth : Int → qH → Option (Int × qH)) (f_X4_both : Int → qH → Option (Int × qH)) (f_X4_unit : Int → qH → Option (Int × qH)) (f_X4_sum : Int → Int → qH → Option (Int × qH)) (f_X4_term : Int → Int → qH → Option (Int × qH)) (f_X4_atom : Int → Int → qH → Option (Int × qH)) (hf_X4_truth : ∀ (a1 : Int) (h : qH), qMet L xs yX4_truth cX4_truth 4 (some .boolean) 4 dd [qr 2, qi a1] h (f_X4_truth a1 h)) (hf_X4_both : ∀ (a1 : Int) (h : qH), qMet L xs yX4_both cX4_both 4 (some .boolean) 4 dd [qr 2, qi a1] h (f_X4_both a1 h)) (hf_X4_unit : ∀ (a1 : Int) (h : qH), qMet L xs yX4_unit cX4_unit 5 (some .boolean) 4 dd [qr 2, qi a1] h (f_X4_unit a1 h)) (hf_X4_sum : ∀ (a1 : Int) (a2 : Int) (h : qH), qMet L xs yX4_sum cX4_sum 6 (some .boolean) 4 dd [qr 2, qi a1, qi a2] h (f_X4_sum a1 a2 h)) (hf_X4_term : ∀ (a1 : Int) (a2 : Int) (h : qH), qMet L xs yX4_term cX4_term 5 (some .boolean) 4 dd [qr 2, qi a1, qi a2] h (f_X4_term a1 a2 h)) (hf_X4_atom : ∀ (a1 : Int) (a2 : Int) (h : qH), qMet L xs yX4_atom cX4_atom 4 (some .boolean) 4 dd [qr 2, qi a1, qi a2] h (f_X4_atom a1 a2 h)) (hdd : 9 ≤ dd) (a1 : Int) (a2 : Int) (h : qH) : qMet L xs yX4_term cX4_term 5 (some .boolean) 4 (dd + 1) [qr 2, qi a1, qi a2] h (DX4_term f_X4_truth f_X4_both f_X4_unit f_X4_sum f_X4_term f_X4_atom a1 a2 h) := by
  refine qMet.of (by decide +kernel) (Or.inr (Or.inr (Or.inr (Or.inr (Or.inl ⟨rfl, rfl⟩))))) (Nat.le_of_ble_eq_true rfl) ?_
  show qS L xs cX4_term "BottlePost$Reader" 5 (dd + 1) 4 0 [(0, qr 2), (1, qi a1), (2, qi a2)] [] h (DX4_term f_X4_truth f_X4_both f_X4_unit f_X4_sum f_X4_term f_X4_atom a1 a2 h)
  unfold DX4_term
  refine S_aload_n 0 dX4_term_0 rfl rfl rfl ?_
  refine S_iload_n 1 dX4_term_1 rfl rfl rfl ?_
  refine S_iload_n 2 dX4_term_2 rfl rfl rfl ?_
  refine S_callV_i (as := [qi a1, qi a2]) (st := []) (fun _ => rfl) (hf_X4_atom a1 a2 h) yv_X4_atom tw_654 qC_4 qk_2 (Nat.le_refl _) rfl rfl (Nat.le_of_ble_eq_true rfl) dX4_term_3 rfl (fun r10 h11 e12 => ?_)
  refine S_istore_n (lv' := [(3, qi r10), (0, qr 2), (1, qi a1), (2, qi a2)]) dX4_term_6 rfl (by decide) rfl rfl ?_
  refine S_iconst (a := 0) dX4_term_7 rfl (by decide) ?_
  refine S_istore (lv' := [(4, qi 0), (3, qi r10), (0, qr 2), (1, qi a1), (2, qi a2)]) dX4_term_8 (by decide) rfl rfl ?_
  refine S_sub [2, 3, 4, 1, 0] rfl ?_
  exact TX4_term_l10 f_X4_truth f_X4_both f_X4_unit f_X4_sum f_X4_term f_X4_atom hf_X4_truth hf_X4_both hf_X4_unit hf_X4_sum hf_X4_term hf_X4_atom hdd LF a1 a2 r10 0 h11
def DX4_sum_b40 (f_X4_truth : Int → qH → Option (Int × qH)) (f_X4_both : Int → qH → Option (Int × qH)) (f_X4_unit : Int → qH → Option (Int × qH)) (f_X4_sum : Int → Int → qH → Option (Int × qH)) (f_X4_term : Int → Int → qH → Option (Int × qH)) (f_X4_atom : Int → Int → qH → Option (Int × qH)) (k10 : Int → Int → Int → Int → qH → Option (Int × qH)) (a1 : Int) (a2 : Int) (a4 : Int) (h : qH) : Option (Int × qH) := (qlt (h.1 2 6) fun v1 => (qbd (DX4_advance h) fun r2 h3 => (qbd (f_X4_term a1 a2 h3) fun r5 h6 => (qbd (DX4_emit (qw (2000 + v1)) h6) fun r8 h9 => (k10 a1 a2 r5 (qw (a4 + 1)) h9)))))
set_option maxRecDepth 100000 in
theorem TX4_sum_b40 {L : Nat} {xs : Nat → Int32} {dd : Nat} (f_X4_truth : Int → qH → Option (Int × qH)) (f_X4_both : Int → qH → Option (Int × qH)) (f_X4_unit : Int → qH → Option (Int × qH)) (f_X4_sum : Int → Int → qH → Option (Int × qH)) (f_X4_term : Int → Int → qH → Option (Int × qH)) (f_X4_atom : Int → Int → qH → Option (Int × qH)) (hf_X4_truth : ∀ (a1 : Int) (h : qH), qMet L xs yX4_truth cX4_truth 4 (some .boolean) 4 dd [qr 2, qi a1] h (f_X4_truth a1 h)) (hf_X4_both : ∀ (a1 : Int) (h : qH), qMet L xs yX4_both cX4_both 4 (some .boolean) 4 dd [qr 2, qi a1] h (f_X4_both a1 h)) (hf_X4_unit : ∀ (a1 : Int) (h : qH), qMet L xs yX4_unit cX4_unit 5 (some .boolean) 4 dd [qr 2, qi a1] h (f_X4_unit a1 h)) (hf_X4_sum : ∀ (a1 : Int) (a2 : Int) (h : qH), qMet L xs yX4_sum cX4_sum 6 (some .boolean) 4 dd [qr 2, qi a1, qi a2] h (f_X4_sum a1 a2 h)) (hf_X4_term : ∀ (a1 : Int) (a2 : Int) (h : qH), qMet L xs yX4_term cX4_term 5 (some .boolean) 4 dd [qr 2, qi a1, qi a2] h (f_X4_term a1 a2 h)) (hf_X4_atom : ∀ (a1 : Int) (a2 : Int) (h : qH), qMet L xs yX4_atom cX4_atom 4 (some .boolean) 4 dd [qr 2, qi a1, qi a2] h (f_X4_atom a1 a2 h)) (hdd : 9 ≤ dd) (k10 : Int → Int → Int → Int → qH → Option (Int × qH)) (hk10 : ∀ (a1 : Int) (a2 : Int) (a3 : Int) (a4 : Int) (h : qH), qS L xs cX4_sum "BottlePost$Reader" 6 (dd + 1) 4 10 [(0, qr 2), (1, qi a1), (2, qi a2), (3, qi a3), (4, qi a4)] [] h (k10 a1 a2 a3 a4 h)) (a1 : Int) (a2 : Int) (a4 : Int) (h : qH) : qS L xs cX4_sum "BottlePost$Reader" 6 (dd + 1) 4 40 [(0, qr 2), (1, qi a1), (2, qi a2), (4, qi a4)] [] h (DX4_sum_b40 f_X4_truth f_X4_both f_X4_unit f_X4_sum f_X4_term f_X4_atom k10 a1 a2 a4 h) := by
  unfold DX4_sum_b40
  refine S_aload_n 0 dX4_sum_40 rfl rfl rfl ?_
  refine S_geti 6 qC_4 (by decide) (by decide) qk_2 tw_153 dX4_sum_41 rfl ?_
  refine S_istore (lv' := [(5, qi (h.1 2 6)), (0, qr 2), (1, qi a1), (2, qi a2), (4, qi a4)]) dX4_sum_44 (by decide) rfl rfl ?_
  refine S_li (fun v1 => ?_)
  refine S_aload_n 1 dX4_sum_46 rfl rfl rfl ?_
  refine S_callV_0 (as := []) (st := []) (fun _ => rfl) (TX4_advance h) yv_X4_advance tw_456 qC_4 qk_2 (by omega) rfl rfl (Nat.le_of_ble_eq_true rfl) dX4_sum_47 rfl (fun r2 h3 e4 => ?_)
  refine S_aload_n 1 dX4_sum_50 rfl rfl rfl ?_
  refine S_iload_n 2 dX4_sum_51 rfl rfl rfl ?_
  refine S_iload_n 3 dX4_sum_52 rfl rfl rfl ?_
  refine S_callV_i (as := [qi a1, qi a2]) (st := []) (fun _ => rfl) (hf_X4_term a1 a2 h3) yv_X4_term tw_650 qC_4 qk_2 (Nat.le_refl _) rfl rfl (Nat.le_of_ble_eq_true rfl) dX4_sum_53 rfl (fun r5 h6 e7 => ?_)
  refine S_istore_n (lv' := [(3, qi r5), (5, qi v1), (0, qr 2), (1, qi a1), (2, qi a2), (4, qi a4)]) dX4_sum_56 rfl (by decide) rfl rfl ?_
  refine S_aload_n 2 dX4_sum_57 rfl rfl rfl ?_
  refine S_sipush (a := 2000) dX4_sum_58 rfl (by decide) (by decide) ?_
  refine S_iload 1 dX4_sum_61 rfl rfl ?_
  refine S_iadd dX4_sum_63 rfl ?_
  refine S_callV_0 (as := [qi (qw (2000 + v1))]) (st := []) (fun _ => rfl) (TX4_emit (qw (2000 + v1)) h6) yv_X4_emit tw_658 qC_4 qk_2 (by omega) rfl rfl (Nat.le_of_ble_eq_true rfl) dX4_sum_64 rfl (fun r8 h9 e10 => ?_)
  refine S_iinc (lv' := [(4, qi (qw (a4 + 1))), (3, qi r5), (5, qi v1), (0, qr 2), (1, qi a1), (2, qi a2)]) 5 dX4_sum_67 rfl (by decide) rfl rfl ?_
  refine S_goto (pc' := 10) dX4_sum_70 (by decide) ?_
  refine S_sub [3, 4, 5, 1, 0] rfl ?_
  exact hk10 a1 a2 r5 (qw (a4 + 1)) h9
def DX4_sum_l10 (f_X4_truth : Int → qH → Option (Int × qH)) (f_X4_both : Int → qH → Option (Int × qH)) (f_X4_unit : Int → qH → Option (Int × qH)) (f_X4_sum : Int → Int → qH → Option (Int × qH)) (f_X4_term : Int → Int → qH → Option (Int × qH)) (f_X4_atom : Int → Int → qH → Option (Int × qH)) : Nat → Int → Int → Int → Int → qH → Option (Int × qH)
  | 0, _, _, _, _, _ => none
  | n + 1, a1, a2, a3, a4, h => (if 900 ≤ a4 then (if a3 = 0 ∨ a3 = 1 then some (a3, h) else none) else (if a3 = 0 then (if a3 = 0 ∨ a3 = 1 then some (a3, h) else none) else (if h.1 2 6 = 43 then (DX4_sum_b40 f_X4_truth f_X4_both f_X4_unit f_X4_sum f_X4_term f_X4_atom (DX4_sum_l10 f_X4_truth f_X4_both f_X4_unit f_X4_sum f_X4_term f_X4_atom n) a1 a2 a4 h) else (if ¬ h.1 2 6 = 45 then (if a3 = 0 ∨ a3 = 1 then some (a3, h) else none) else (DX4_sum_b40 f_X4_truth f_X4_both f_X4_unit f_X4_sum f_X4_term f_X4_atom (DX4_sum_l10 f_X4_truth f_X4_both f_X4_unit f_X4_sum f_X4_term f_X4_atom n) a1 a2 a4 h)))))
set_option maxRecDepth 100000 in
theorem TX4_sum_l10 {L : Nat} {xs : Nat → Int32} {dd : Nat} (f_X4_truth : Int → qH → Option (Int × qH)) (f_X4_both : Int → qH → Option (Int × qH)) (f_X4_unit : Int → qH → Option (Int × qH)) (f_X4_sum : Int → Int → qH → Option (Int × qH)) (f_X4_term : Int → Int → qH → Option (Int × qH)) (f_X4_atom : Int → Int → qH → Option (Int × qH)) (hf_X4_truth : ∀ (a1 : Int) (h : qH), qMet L xs yX4_truth cX4_truth 4 (some .boolean) 4 dd [qr 2, qi a1] h (f_X4_truth a1 h)) (hf_X4_both : ∀ (a1 : Int) (h : qH), qMet L xs yX4_both cX4_both 4 (some .boolean) 4 dd [qr 2, qi a1] h (f_X4_both a1 h)) (hf_X4_unit : ∀ (a1 : Int) (h : qH), qMet L xs yX4_unit cX4_unit 5 (some .boolean) 4 dd [qr 2, qi a1] h (f_X4_unit a1 h)) (hf_X4_sum : ∀ (a1 : Int) (a2 : Int) (h : qH), qMet L xs yX4_sum cX4_sum 6 (some .boolean) 4 dd [qr 2, qi a1, qi a2] h (f_X4_sum a1 a2 h)) (hf_X4_term : ∀ (a1 : Int) (a2 : Int) (h : qH), qMet L xs yX4_term cX4_term 5 (some .boolean) 4 dd [qr 2, qi a1, qi a2] h (f_X4_term a1 a2 h)) (hf_X4_atom : ∀ (a1 : Int) (a2 : Int) (h : qH), qMet L xs yX4_atom cX4_atom 4 (some .boolean) 4 dd [qr 2, qi a1, qi a2] h (f_X4_atom a1 a2 h)) (hdd : 9 ≤ dd) : ∀ (n : Nat) (a1 : Int) (a2 : Int) (a3 : Int) (a4 : Int) (h : qH), qS L xs cX4_sum "BottlePost$Reader" 6 (dd + 1) 4 10 [(0, qr 2), (1, qi a1), (2, qi a2), (3, qi a3), (4, qi a4)] [] h (DX4_sum_l10 f_X4_truth f_X4_both f_X4_unit f_X4_sum f_X4_term f_X4_atom n a1 a2 a3 a4 h) := by
  intro n
  induction n with
  | zero =>
    intro a1 a2 a3 a4 h
    exact S_none
  | succ n ih =>
    intro a1 a2 a3 a4 h
    rw [DX4_sum_l10.eq_2]
    refine S_iload 4 dX4_sum_10 rfl rfl ?_
    refine S_sipush (a := 900) dX4_sum_12 rfl (by decide) (by decide) ?_
    refine S_icmp_ge (tgt := 73) dX4_sum_15 (by decide) rfl (fun _ => ?_) (fun _ => ?_)
    · refine S_iload_n 3 dX4_sum_73 rfl rfl rfl ?_
      exact S_zret dX4_sum_74
    · refine S_iload_n 3 dX4_sum_18 rfl rfl rfl ?_
      refine S_if_eq (tgt := 73) dX4_sum_19 (by decide) rfl (fun _ => ?_) (fun _ => ?_)
      · refine S_iload_n 3 dX4_sum_73 rfl rfl rfl ?_
        exact S_zret dX4_sum_74
      · refine S_aload_n 0 dX4_sum_22 rfl rfl rfl ?_
        refine S_geti 6 qC_4 (by decide) (by decide) qk_2 tw_153 dX4_sum_23 rfl ?_
        refine S_bipush (a := 43) dX4_sum_26 rfl (by decide) (by decide) ?_
        refine S_icmp_eq (tgt := 40) dX4_sum_28 (by decide) rfl (fun _ => ?_) (fun _ => ?_)
        · refine S_sub [0, 1, 2, 4] rfl ?_
          exact TX4_sum_b40 f_X4_truth f_X4_both f_X4_unit f_X4_sum f_X4_term f_X4_atom hf_X4_truth hf_X4_both hf_X4_unit hf_X4_sum hf_X4_term hf_X4_atom hdd (DX4_sum_l10 f_X4_truth f_X4_both f_X4_unit f_X4_sum f_X4_term f_X4_atom n) ih a1 a2 a4 h
        · refine S_aload_n 0 dX4_sum_31 rfl rfl rfl ?_
          refine S_geti 6 qC_4 (by decide) (by decide) qk_2 tw_153 dX4_sum_32 rfl ?_
          refine S_bipush (a := 45) dX4_sum_35 rfl (by decide) (by decide) ?_
          refine S_icmp_ne (tgt := 73) dX4_sum_37 (by decide) rfl (fun _ => ?_) (fun _ => ?_)
          · refine S_iload_n 3 dX4_sum_73 rfl rfl rfl ?_
            exact S_zret dX4_sum_74
          · refine S_sub [0, 1, 2, 4] rfl ?_
            exact TX4_sum_b40 f_X4_truth f_X4_both f_X4_unit f_X4_sum f_X4_term f_X4_atom hf_X4_truth hf_X4_both hf_X4_unit hf_X4_sum hf_X4_term hf_X4_atom hdd (DX4_sum_l10 f_X4_truth f_X4_both f_X4_unit f_X4_sum f_X4_term f_X4_atom n) ih a1 a2 a4 h
def DX4_sum (f_X4_truth : Int → qH → Option (Int × qH)) (f_X4_both : Int → qH → Option (Int × qH)) (f_X4_unit : Int → qH → Option (Int × qH)) (f_X4_sum : Int → Int → qH → Option (Int × qH)) (f_X4_term : Int → Int → qH → Option (Int × qH)) (f_X4_atom : Int → Int → qH → Option (Int × qH)) (a1 : Int) (a2 : Int) (h : qH) : Option (Int × qH) := (qbd (f_X4_term a1 a2 h) fun r11 h12 => (DX4_sum_l10 f_X4_truth f_X4_both f_X4_unit f_X4_sum f_X4_term f_X4_atom LF a1 a2 r11 0 h12))
set_option maxRecDepth 100000 in
theorem TX4_sum {L : Nat} {xs : Nat → Int32} {dd : Nat} (f_X4_truth : Int → qH → Option (Int × qH)) (f_X4_both : Int → qH → Option (Int × qH)) (f_X4_unit : Int → qH → Option (Int × qH)) (f_X4_sum : Int → Int → qH → Option (Int × qH)) (f_X4_term : Int → Int → qH → Option (Int × qH)) (f_X4_atom : Int → Int → qH → Option (Int × qH)) (hf_X4_truth : ∀ (a1 : Int) (h : qH), qMet L xs yX4_truth cX4_truth 4 (some .boolean) 4 dd [qr 2, qi a1] h (f_X4_truth a1 h)) (hf_X4_both : ∀ (a1 : Int) (h : qH), qMet L xs yX4_both cX4_both 4 (some .boolean) 4 dd [qr 2, qi a1] h (f_X4_both a1 h)) (hf_X4_unit : ∀ (a1 : Int) (h : qH), qMet L xs yX4_unit cX4_unit 5 (some .boolean) 4 dd [qr 2, qi a1] h (f_X4_unit a1 h)) (hf_X4_sum : ∀ (a1 : Int) (a2 : Int) (h : qH), qMet L xs yX4_sum cX4_sum 6 (some .boolean) 4 dd [qr 2, qi a1, qi a2] h (f_X4_sum a1 a2 h)) (hf_X4_term : ∀ (a1 : Int) (a2 : Int) (h : qH), qMet L xs yX4_term cX4_term 5 (some .boolean) 4 dd [qr 2, qi a1, qi a2] h (f_X4_term a1 a2 h)) (hf_X4_atom : ∀ (a1 : Int) (a2 : Int) (h : qH), qMet L xs yX4_atom cX4_atom 4 (some .boolean) 4 dd [qr 2, qi a1, qi a2] h (f_X4_atom a1 a2 h)) (hdd : 9 ≤ dd) (a1 : Int) (a2 : Int) (h : qH) : qMet L xs yX4_sum cX4_sum 6 (some .boolean) 4 (dd + 1) [qr 2, qi a1, qi a2] h (DX4_sum f_X4_truth f_X4_both f_X4_unit f_X4_sum f_X4_term f_X4_atom a1 a2 h) := by
  refine qMet.of (by decide +kernel) (Or.inr (Or.inr (Or.inr (Or.inr (Or.inl ⟨rfl, rfl⟩))))) (Nat.le_of_ble_eq_true rfl) ?_
  show qS L xs cX4_sum "BottlePost$Reader" 6 (dd + 1) 4 0 [(0, qr 2), (1, qi a1), (2, qi a2)] [] h (DX4_sum f_X4_truth f_X4_both f_X4_unit f_X4_sum f_X4_term f_X4_atom a1 a2 h)
  unfold DX4_sum
  refine S_aload_n 0 dX4_sum_0 rfl rfl rfl ?_
  refine S_iload_n 1 dX4_sum_1 rfl rfl rfl ?_
  refine S_iload_n 2 dX4_sum_2 rfl rfl rfl ?_
  refine S_callV_i (as := [qi a1, qi a2]) (st := []) (fun _ => rfl) (hf_X4_term a1 a2 h) yv_X4_term tw_650 qC_4 qk_2 (Nat.le_refl _) rfl rfl (Nat.le_of_ble_eq_true rfl) dX4_sum_3 rfl (fun r11 h12 e13 => ?_)
  refine S_istore_n (lv' := [(3, qi r11), (0, qr 2), (1, qi a1), (2, qi a2)]) dX4_sum_6 rfl (by decide) rfl rfl ?_
  refine S_iconst (a := 0) dX4_sum_7 rfl (by decide) ?_
  refine S_istore (lv' := [(4, qi 0), (3, qi r11), (0, qr 2), (1, qi a1), (2, qi a2)]) dX4_sum_8 (by decide) rfl rfl ?_
  refine S_sub [2, 3, 4, 1, 0] rfl ?_
  exact TX4_sum_l10 f_X4_truth f_X4_both f_X4_unit f_X4_sum f_X4_term f_X4_atom hf_X4_truth hf_X4_both hf_X4_unit hf_X4_sum hf_X4_term hf_X4_atom hdd LF a1 a2 r11 0 h12
def DX4_unit_b20 (f_X4_truth : Int → qH → Option (Int × qH)) (f_X4_both : Int → qH → Option (Int × qH)) (f_X4_unit : Int → qH → Option (Int × qH)) (f_X4_sum : Int → Int → qH → Option (Int × qH)) (f_X4_term : Int → Int → qH → Option (Int × qH)) (f_X4_atom : Int → Int → qH → Option (Int × qH)) (a1 : Int) (a2 : Int) (h : qH) : Option (Int × qH) := (if a1 < 6 then (qbd (DX4_advance h) fun r1 h2 => (if ¬ a2 = 0 then (qbd (f_X4_unit (qw (a1 + 1)) h2) fun r4 h5 => (qbd (DX4_emit 2003 h5) fun r7 h8 => (if r4 = 0 ∨ r4 = 1 then some (r4, h8) else none))) else (qbd (f_X4_truth (qw (a1 + 1)) h2) fun r10 h11 => (if r10 = 0 then some (0, h11) else (qbd (DX4_takeSign 93 h11) fun r13 h14 => (if r13 = 0 then some (0, h14) else some (1, h14))))))) else (qbd (DX4_refuse 4 h) fun r16 h17 => (if r16 = 0 ∨ r16 = 1 then some (r16, h17) else none)))
set_option maxRecDepth 100000 in
theorem TX4_unit_b20 {L : Nat} {xs : Nat → Int32} {dd : Nat} (f_X4_truth : Int → qH → Option (Int × qH)) (f_X4_both : Int → qH → Option (Int × qH)) (f_X4_unit : Int → qH → Option (Int × qH)) (f_X4_sum : Int → Int → qH → Option (Int × qH)) (f_X4_term : Int → Int → qH → Option (Int × qH)) (f_X4_atom : Int → Int → qH → Option (Int × qH)) (hf_X4_truth : ∀ (a1 : Int) (h : qH), qMet L xs yX4_truth cX4_truth 4 (some .boolean) 4 dd [qr 2, qi a1] h (f_X4_truth a1 h)) (hf_X4_both : ∀ (a1 : Int) (h : qH), qMet L xs yX4_both cX4_both 4 (some .boolean) 4 dd [qr 2, qi a1] h (f_X4_both a1 h)) (hf_X4_unit : ∀ (a1 : Int) (h : qH), qMet L xs yX4_unit cX4_unit 5 (some .boolean) 4 dd [qr 2, qi a1] h (f_X4_unit a1 h)) (hf_X4_sum : ∀ (a1 : Int) (a2 : Int) (h : qH), qMet L xs yX4_sum cX4_sum 6 (some .boolean) 4 dd [qr 2, qi a1, qi a2] h (f_X4_sum a1 a2 h)) (hf_X4_term : ∀ (a1 : Int) (a2 : Int) (h : qH), qMet L xs yX4_term cX4_term 5 (some .boolean) 4 dd [qr 2, qi a1, qi a2] h (f_X4_term a1 a2 h)) (hf_X4_atom : ∀ (a1 : Int) (a2 : Int) (h : qH), qMet L xs yX4_atom cX4_atom 4 (some .boolean) 4 dd [qr 2, qi a1, qi a2] h (f_X4_atom a1 a2 h)) (hdd : 10 ≤ dd) (a1 : Int) (a2 : Int) (h : qH) : qS L xs cX4_unit "BottlePost$Reader" 5 (dd + 1) 4 20 [(0, qr 2), (1, qi a1), (2, qi a2)] [] h (DX4_unit_b20 f_X4_truth f_X4_both f_X4_unit f_X4_sum f_X4_term f_X4_atom a1 a2 h) := by
  unfold DX4_unit_b20
  refine S_iload_n 1 dX4_unit_20 rfl rfl rfl ?_
  refine S_bipush (a := 6) dX4_unit_21 rfl (by decide) (by decide) ?_
  refine S_icmp_lt (tgt := 32) dX4_unit_23 (by decide) rfl (fun _ => ?_) (fun _ => ?_)
  · refine S_aload_n 0 dX4_unit_32 rfl rfl rfl ?_
    refine S_callV_0 (as := []) (st := []) (fun _ => rfl) (TX4_advance h) yv_X4_advance tw_456 qC_4 qk_2 (by omega) rfl rfl (Nat.le_of_ble_eq_true rfl) dX4_unit_33 rfl (fun r1 h2 e3 => ?_)
    refine S_iload_n 2 dX4_unit_36 rfl rfl rfl ?_
    refine S_if_ne (tgt := 65) dX4_unit_37 (by decide) rfl (fun _ => ?_) (fun _ => ?_)
    · refine S_aload_n 0 dX4_unit_65 rfl rfl rfl ?_
      refine S_iload_n 1 dX4_unit_66 rfl rfl rfl ?_
      refine S_iconst (a := 1) dX4_unit_67 rfl (by decide) ?_
      refine S_iadd dX4_unit_68 rfl ?_
      refine S_callV_i (as := [qi (qw (a1 + 1))]) (st := []) (fun _ => rfl) (hf_X4_unit (qw (a1 + 1)) h2) yv_X4_unit tw_693 qC_4 qk_2 (Nat.le_refl _) rfl rfl (Nat.le_of_ble_eq_true rfl) dX4_unit_69 rfl (fun r4 h5 e6 => ?_)
      refine S_istore_n (lv' := [(3, qi r4), (0, qr 2), (1, qi a1), (2, qi a2)]) dX4_unit_72 rfl (by decide) rfl rfl ?_
      refine S_aload_n 1 dX4_unit_73 rfl rfl rfl ?_
      refine S_sipush (a := 2003) dX4_unit_74 rfl (by decide) (by decide) ?_
      refine S_callV_0 (as := [qi 2003]) (st := []) (fun _ => rfl) (TX4_emit 2003 h5) yv_X4_emit tw_658 qC_4 qk_2 (by omega) rfl rfl (Nat.le_of_ble_eq_true rfl) dX4_unit_77 rfl (fun r7 h8 e9 => ?_)
      refine S_iload_n 0 dX4_unit_80 rfl rfl rfl ?_
      exact S_zret dX4_unit_81
    · refine S_aload_n 0 dX4_unit_40 rfl rfl rfl ?_
      refine S_iload_n 1 dX4_unit_41 rfl rfl rfl ?_
      refine S_iconst (a := 1) dX4_unit_42 rfl (by decide) ?_
      refine S_iadd dX4_unit_43 rfl ?_
      refine S_callV_i (as := [qi (qw (a1 + 1))]) (st := []) (fun _ => rfl) (hf_X4_truth (qw (a1 + 1)) h2) yv_X4_truth tw_685 qC_4 qk_2 (Nat.le_refl _) rfl rfl (Nat.le_of_ble_eq_true rfl) dX4_unit_44 rfl (fun r10 h11 e12 => ?_)
      refine S_if_eq (tgt := 63) dX4_unit_47 (by decide) rfl (fun _ => ?_) (fun _ => ?_)
      · refine S_iconst (a := 0) dX4_unit_63 rfl (by decide) ?_
        exact S_zretl (by decide) dX4_unit_64
      · refine S_aload_n 0 dX4_unit_50 rfl rfl rfl ?_
        refine S_bipush (a := 93) dX4_unit_51 rfl (by decide) (by decide) ?_
        refine S_callV_i (as := [qi 93]) (st := []) (fun _ => rfl) (TX4_takeSign 93 h11) yv_X4_takeSign tw_592 qC_4 qk_2 (by omega) rfl rfl (Nat.le_of_ble_eq_true rfl) dX4_unit_53 rfl (fun r13 h14 e15 => ?_)
        refine S_if_eq (tgt := 63) dX4_unit_56 (by decide) rfl (fun _ => ?_) (fun _ => ?_)
        · refine S_iconst (a := 0) dX4_unit_63 rfl (by decide) ?_
          exact S_zretl (by decide) dX4_unit_64
        · refine S_iconst (a := 1) dX4_unit_59 rfl (by decide) ?_
          refine S_goto (pc' := 64) dX4_unit_60 (by decide) ?_
          exact S_zretl (by decide) dX4_unit_64
  · refine S_aload_n 0 dX4_unit_26 rfl rfl rfl ?_
    refine S_iconst (a := 4) dX4_unit_27 rfl (by decide) ?_
    refine S_callV_i (as := [qi 4]) (st := []) (fun _ => rfl) (TX4_refuse 4 h) yv_X4_refuse tw_579 qC_4 qk_2 (by omega) rfl rfl (Nat.le_of_ble_eq_true rfl) dX4_unit_28 rfl (fun r16 h17 e18 => ?_)
    exact S_zret dX4_unit_31
def DX4_unit_b122 (f_X4_truth : Int → qH → Option (Int × qH)) (f_X4_both : Int → qH → Option (Int × qH)) (f_X4_unit : Int → qH → Option (Int × qH)) (f_X4_sum : Int → Int → qH → Option (Int × qH)) (f_X4_term : Int → Int → qH → Option (Int × qH)) (f_X4_atom : Int → Int → qH → Option (Int × qH)) (a1 : Int) (a3 : Int) (h : qH) : Option (Int × qH) := (qbd (DX4_advance h) fun r19 h20 => (qbd (f_X4_sum a1 1 h20) fun r22 h23 => (qbd (DX4_emit (qw (2000 + a3)) h23) fun r25 h26 => (if r22 = 0 ∨ r22 = 1 then some (r22, h26) else none))))
set_option maxRecDepth 100000 in
theorem TX4_unit_b122 {L : Nat} {xs : Nat → Int32} {dd : Nat} (f_X4_truth : Int → qH → Option (Int × qH)) (f_X4_both : Int → qH → Option (Int × qH)) (f_X4_unit : Int → qH → Option (Int × qH)) (f_X4_sum : Int → Int → qH → Option (Int × qH)) (f_X4_term : Int → Int → qH → Option (Int × qH)) (f_X4_atom : Int → Int → qH → Option (Int × qH)) (hf_X4_truth : ∀ (a1 : Int) (h : qH), qMet L xs yX4_truth cX4_truth 4 (some .boolean) 4 dd [qr 2, qi a1] h (f_X4_truth a1 h)) (hf_X4_both : ∀ (a1 : Int) (h : qH), qMet L xs yX4_both cX4_both 4 (some .boolean) 4 dd [qr 2, qi a1] h (f_X4_both a1 h)) (hf_X4_unit : ∀ (a1 : Int) (h : qH), qMet L xs yX4_unit cX4_unit 5 (some .boolean) 4 dd [qr 2, qi a1] h (f_X4_unit a1 h)) (hf_X4_sum : ∀ (a1 : Int) (a2 : Int) (h : qH), qMet L xs yX4_sum cX4_sum 6 (some .boolean) 4 dd [qr 2, qi a1, qi a2] h (f_X4_sum a1 a2 h)) (hf_X4_term : ∀ (a1 : Int) (a2 : Int) (h : qH), qMet L xs yX4_term cX4_term 5 (some .boolean) 4 dd [qr 2, qi a1, qi a2] h (f_X4_term a1 a2 h)) (hf_X4_atom : ∀ (a1 : Int) (a2 : Int) (h : qH), qMet L xs yX4_atom cX4_atom 4 (some .boolean) 4 dd [qr 2, qi a1, qi a2] h (f_X4_atom a1 a2 h)) (hdd : 10 ≤ dd) (a1 : Int) (a3 : Int) (h : qH) : qS L xs cX4_unit "BottlePost$Reader" 5 (dd + 1) 4 122 [(0, qr 2), (1, qi a1), (3, qi a3)] [] h (DX4_unit_b122 f_X4_truth f_X4_both f_X4_unit f_X4_sum f_X4_term f_X4_atom a1 a3 h) := by
  unfold DX4_unit_b122
  refine S_aload_n 0 dX4_unit_122 rfl rfl rfl ?_
  refine S_callV_0 (as := []) (st := []) (fun _ => rfl) (TX4_advance h) yv_X4_advance tw_456 qC_4 qk_2 (by omega) rfl rfl (Nat.le_of_ble_eq_true rfl) dX4_unit_123 rfl (fun r19 h20 e21 => ?_)
  refine S_aload_n 0 dX4_unit_126 rfl rfl rfl ?_
  refine S_iload_n 1 dX4_unit_127 rfl rfl rfl ?_
  refine S_iconst (a := 1) dX4_unit_128 rfl (by decide) ?_
  refine S_callV_i (as := [qi a1, qi 1]) (st := []) (fun _ => rfl) (hf_X4_sum a1 1 h20) yv_X4_sum tw_646 qC_4 qk_2 (Nat.le_refl _) rfl rfl (Nat.le_of_ble_eq_true rfl) dX4_unit_129 rfl (fun r22 h23 e24 => ?_)
  refine S_istore (lv' := [(4, qi r22), (0, qr 2), (1, qi a1), (3, qi a3)]) dX4_unit_132 (by decide) rfl rfl ?_
  refine S_aload_n 1 dX4_unit_134 rfl rfl rfl ?_
  refine S_sipush (a := 2000) dX4_unit_135 rfl (by decide) (by decide) ?_
  refine S_iload_n 3 dX4_unit_138 rfl rfl rfl ?_
  refine S_iadd dX4_unit_139 rfl ?_
  refine S_callV_0 (as := [qi (qw (2000 + a3))]) (st := []) (fun _ => rfl) (TX4_emit (qw (2000 + a3)) h23) yv_X4_emit tw_658 qC_4 qk_2 (by omega) rfl rfl (Nat.le_of_ble_eq_true rfl) dX4_unit_140 rfl (fun r25 h26 e27 => ?_)
  refine S_iload 0 dX4_unit_143 rfl rfl ?_
  exact S_zret dX4_unit_145
def DX4_unit (f_X4_truth : Int → qH → Option (Int × qH)) (f_X4_both : Int → qH → Option (Int × qH)) (f_X4_unit : Int → qH → Option (Int × qH)) (f_X4_sum : Int → Int → qH → Option (Int × qH)) (f_X4_term : Int → Int → qH → Option (Int × qH)) (f_X4_atom : Int → Int → qH → Option (Int × qH)) (a1 : Int) (h : qH) : Option (Int × qH) := (qbd (DX4_isWord 24 h) fun r28 h29 => (if ¬ r28 = 0 then (DX4_unit_b20 f_X4_truth f_X4_both f_X4_unit f_X4_sum f_X4_term f_X4_atom a1 r28 h29) else (if ¬ h29.1 2 6 = 91 then (qbd (f_X4_sum a1 1 h29) fun r31 h32 => (if ¬ r31 = 0 then (qlt (h32.1 2 6) fun v34 => (if v34 = 61 then (DX4_unit_b122 f_X4_truth f_X4_both f_X4_unit f_X4_sum f_X4_term f_X4_atom a1 v34 h32) else (if v34 = 60 then (DX4_unit_b122 f_X4_truth f_X4_both f_X4_unit f_X4_sum f_X4_term f_X4_atom a1 v34 h32) else (if v34 = 62 then (DX4_unit_b122 f_X4_truth f_X4_both f_X4_unit f_X4_sum f_X4_term f_X4_atom a1 v34 h32) else (qbd (DX4_refuse 2 h32) fun r35 h36 => (if r35 = 0 ∨ r35 = 1 then some (r35, h36) else none)))))) else some (0, h32))) else (DX4_unit_b20 f_X4_truth f_X4_both f_X4_unit f_X4_sum f_X4_term f_X4_atom a1 r28 h29))))
set_option maxRecDepth 100000 in
theorem TX4_unit {L : Nat} {xs : Nat → Int32} {dd : Nat} (f_X4_truth : Int → qH → Option (Int × qH)) (f_X4_both : Int → qH → Option (Int × qH)) (f_X4_unit : Int → qH → Option (Int × qH)) (f_X4_sum : Int → Int → qH → Option (Int × qH)) (f_X4_term : Int → Int → qH → Option (Int × qH)) (f_X4_atom : Int → Int → qH → Option (Int × qH)) (hf_X4_truth : ∀ (a1 : Int) (h : qH), qMet L xs yX4_truth cX4_truth 4 (some .boolean) 4 dd [qr 2, qi a1] h (f_X4_truth a1 h)) (hf_X4_both : ∀ (a1 : Int) (h : qH), qMet L xs yX4_both cX4_both 4 (some .boolean) 4 dd [qr 2, qi a1] h (f_X4_both a1 h)) (hf_X4_unit : ∀ (a1 : Int) (h : qH), qMet L xs yX4_unit cX4_unit 5 (some .boolean) 4 dd [qr 2, qi a1] h (f_X4_unit a1 h)) (hf_X4_sum : ∀ (a1 : Int) (a2 : Int) (h : qH), qMet L xs yX4_sum cX4_sum 6 (some .boolean) 4 dd [qr 2, qi a1, qi a2] h (f_X4_sum a1 a2 h)) (hf_X4_term : ∀ (a1 : Int) (a2 : Int) (h : qH), qMet L xs yX4_term cX4_term 5 (some .boolean) 4 dd [qr 2, qi a1, qi a2] h (f_X4_term a1 a2 h)) (hf_X4_atom : ∀ (a1 : Int) (a2 : Int) (h : qH), qMet L xs yX4_atom cX4_atom 4 (some .boolean) 4 dd [qr 2, qi a1, qi a2] h (f_X4_atom a1 a2 h)) (hdd : 10 ≤ dd) (a1 : Int) (h : qH) : qMet L xs yX4_unit cX4_unit 5 (some .boolean) 4 (dd + 1) [qr 2, qi a1] h (DX4_unit f_X4_truth f_X4_both f_X4_unit f_X4_sum f_X4_term f_X4_atom a1 h) := by
  refine qMet.of (by decide +kernel) (Or.inr (Or.inr (Or.inr (Or.inr (Or.inl ⟨rfl, rfl⟩))))) (Nat.le_of_ble_eq_true rfl) ?_
  show qS L xs cX4_unit "BottlePost$Reader" 5 (dd + 1) 4 0 [(0, qr 2), (1, qi a1)] [] h (DX4_unit f_X4_truth f_X4_both f_X4_unit f_X4_sum f_X4_term f_X4_atom a1 h)
  unfold DX4_unit
  refine S_aload_n 0 dX4_unit_0 rfl rfl rfl ?_
  refine S_ldcs (t := 24) (by decide) ⟨rfl, rfl⟩ dX4_unit_1 rfl ?_
  refine S_callV_i (as := [qr (300 + 2 * 24)]) (st := []) (fun _ => rfl) (TX4_isWord 24 (by decide) h) yv_X4_isWord tw_554 qC_4 qk_2 (by omega) rfl rfl (Nat.le_of_ble_eq_true rfl) dX4_unit_3 rfl (fun r28 h29 e30 => ?_)
  refine S_istore_n (lv' := [(2, qi r28), (0, qr 2), (1, qi a1)]) dX4_unit_6 rfl (by decide) rfl rfl ?_
  refine S_iload_n 0 dX4_unit_7 rfl rfl rfl ?_
  refine S_if_ne (tgt := 20) dX4_unit_8 (by decide) rfl (fun _ => ?_) (fun _ => ?_)
  · refine S_sub [1, 2, 0] rfl ?_
    exact TX4_unit_b20 f_X4_truth f_X4_both f_X4_unit f_X4_sum f_X4_term f_X4_atom hf_X4_truth hf_X4_both hf_X4_unit hf_X4_sum hf_X4_term hf_X4_atom hdd a1 r28 h29
  · refine S_aload_n 1 dX4_unit_11 rfl rfl rfl ?_
    refine S_geti 6 qC_4 (by decide) (by decide) qk_2 tw_153 dX4_unit_12 rfl ?_
    refine S_bipush (a := 91) dX4_unit_15 rfl (by decide) (by decide) ?_
    refine S_icmp_ne (tgt := 82) dX4_unit_17 (by decide) rfl (fun _ => ?_) (fun _ => ?_)
    · refine S_aload_n 1 dX4_unit_82 rfl rfl rfl ?_
      refine S_iload_n 2 dX4_unit_83 rfl rfl rfl ?_
      refine S_iconst (a := 1) dX4_unit_84 rfl (by decide) ?_
      refine S_callV_i (as := [qi a1, qi 1]) (st := []) (fun _ => rfl) (hf_X4_sum a1 1 h29) yv_X4_sum tw_646 qC_4 qk_2 (Nat.le_refl _) rfl rfl (Nat.le_of_ble_eq_true rfl) dX4_unit_85 rfl (fun r31 h32 e33 => ?_)
      refine S_if_ne (tgt := 93) dX4_unit_88 (by decide) rfl (fun _ => ?_) (fun _ => ?_)
      · refine S_aload_n 1 dX4_unit_93 rfl rfl rfl ?_
        refine S_geti 6 qC_4 (by decide) (by decide) qk_2 tw_153 dX4_unit_94 rfl ?_
        refine S_istore_n (lv' := [(3, qi (h32.1 2 6)), (2, qi r28), (0, qr 2), (1, qi a1)]) dX4_unit_97 rfl (by decide) rfl rfl ?_
        refine S_li (fun v34 => ?_)
        refine S_iload_n 0 dX4_unit_98 rfl rfl rfl ?_
        refine S_bipush (a := 61) dX4_unit_99 rfl (by decide) (by decide) ?_
        refine S_icmp_eq (tgt := 122) dX4_unit_101 (by decide) rfl (fun _ => ?_) (fun _ => ?_)
        · refine S_sub [2, 3, 0] rfl ?_
          exact TX4_unit_b122 f_X4_truth f_X4_both f_X4_unit f_X4_sum f_X4_term f_X4_atom hf_X4_truth hf_X4_both hf_X4_unit hf_X4_sum hf_X4_term hf_X4_atom hdd a1 v34 h32
        · refine S_iload_n 0 dX4_unit_104 rfl rfl rfl ?_
          refine S_bipush (a := 60) dX4_unit_105 rfl (by decide) (by decide) ?_
          refine S_icmp_eq (tgt := 122) dX4_unit_107 (by decide) rfl (fun _ => ?_) (fun _ => ?_)
          · refine S_sub [2, 3, 0] rfl ?_
            exact TX4_unit_b122 f_X4_truth f_X4_both f_X4_unit f_X4_sum f_X4_term f_X4_atom hf_X4_truth hf_X4_both hf_X4_unit hf_X4_sum hf_X4_term hf_X4_atom hdd a1 v34 h32
          · refine S_iload_n 0 dX4_unit_110 rfl rfl rfl ?_
            refine S_bipush (a := 62) dX4_unit_111 rfl (by decide) (by decide) ?_
            refine S_icmp_eq (tgt := 122) dX4_unit_113 (by decide) rfl (fun _ => ?_) (fun _ => ?_)
            · refine S_sub [2, 3, 0] rfl ?_
              exact TX4_unit_b122 f_X4_truth f_X4_both f_X4_unit f_X4_sum f_X4_term f_X4_atom hf_X4_truth hf_X4_both hf_X4_unit hf_X4_sum hf_X4_term hf_X4_atom hdd a1 v34 h32
            · refine S_aload_n 2 dX4_unit_116 rfl rfl rfl ?_
              refine S_iconst (a := 2) dX4_unit_117 rfl (by decide) ?_
              refine S_callV_i (as := [qi 2]) (st := []) (fun _ => rfl) (TX4_refuse 2 h32) yv_X4_refuse tw_579 qC_4 qk_2 (by omega) rfl rfl (Nat.le_of_ble_eq_true rfl) dX4_unit_118 rfl (fun r35 h36 e37 => ?_)
              exact S_zret dX4_unit_121
      · refine S_iconst (a := 0) dX4_unit_91 rfl (by decide) ?_
        exact S_zretl (by decide) dX4_unit_92
    · refine S_sub [1, 2, 0] rfl ?_
      exact TX4_unit_b20 f_X4_truth f_X4_both f_X4_unit f_X4_sum f_X4_term f_X4_atom hf_X4_truth hf_X4_both hf_X4_unit hf_X4_sum hf_X4_term hf_X4_atom hdd a1 r28 h29
def DX4_both_l8 (f_X4_truth : Int → qH → Option (Int × qH)) (f_X4_both : Int → qH → Option (Int × qH)) (f_X4_unit : Int → qH → Option (Int × qH)) (f_X4_sum : Int → Int → qH → Option (Int × qH)) (f_X4_term : Int → Int → qH → Option (Int × qH)) (f_X4_atom : Int → Int → qH → Option (Int × qH)) : Nat → Int → Int → Int → qH → Option (Int × qH)
  | 0, _, _, _, _ => none
  | n + 1, a1, a2, a3, h => (if 900 ≤ a3 then (if a2 = 0 ∨ a2 = 1 then some (a2, h) else none) else (if a2 = 0 then (if a2 = 0 ∨ a2 = 1 then some (a2, h) else none) else (qbd (DX4_isWord 25 h) fun r1 h2 => (if r1 = 0 then (if a2 = 0 ∨ a2 = 1 then some (a2, h2) else none) else (qbd (DX4_advance h2) fun r4 h5 => (qbd (f_X4_unit a1 h5) fun r7 h8 => (qbd (DX4_emit 2002 h8) fun r10 h11 => ((DX4_both_l8 f_X4_truth f_X4_both f_X4_unit f_X4_sum f_X4_term f_X4_atom n) a1 r7 (qw (a3 + 1)) h11))))))))
set_option maxRecDepth 100000 in
theorem TX4_both_l8 {L : Nat} {xs : Nat → Int32} {dd : Nat} (f_X4_truth : Int → qH → Option (Int × qH)) (f_X4_both : Int → qH → Option (Int × qH)) (f_X4_unit : Int → qH → Option (Int × qH)) (f_X4_sum : Int → Int → qH → Option (Int × qH)) (f_X4_term : Int → Int → qH → Option (Int × qH)) (f_X4_atom : Int → Int → qH → Option (Int × qH)) (hf_X4_truth : ∀ (a1 : Int) (h : qH), qMet L xs yX4_truth cX4_truth 4 (some .boolean) 4 dd [qr 2, qi a1] h (f_X4_truth a1 h)) (hf_X4_both : ∀ (a1 : Int) (h : qH), qMet L xs yX4_both cX4_both 4 (some .boolean) 4 dd [qr 2, qi a1] h (f_X4_both a1 h)) (hf_X4_unit : ∀ (a1 : Int) (h : qH), qMet L xs yX4_unit cX4_unit 5 (some .boolean) 4 dd [qr 2, qi a1] h (f_X4_unit a1 h)) (hf_X4_sum : ∀ (a1 : Int) (a2 : Int) (h : qH), qMet L xs yX4_sum cX4_sum 6 (some .boolean) 4 dd [qr 2, qi a1, qi a2] h (f_X4_sum a1 a2 h)) (hf_X4_term : ∀ (a1 : Int) (a2 : Int) (h : qH), qMet L xs yX4_term cX4_term 5 (some .boolean) 4 dd [qr 2, qi a1, qi a2] h (f_X4_term a1 a2 h)) (hf_X4_atom : ∀ (a1 : Int) (a2 : Int) (h : qH), qMet L xs yX4_atom cX4_atom 4 (some .boolean) 4 dd [qr 2, qi a1, qi a2] h (f_X4_atom a1 a2 h)) (hdd : 9 ≤ dd) : ∀ (n : Nat) (a1 : Int) (a2 : Int) (a3 : Int) (h : qH), qS L xs cX4_both "BottlePost$Reader" 4 (dd + 1) 4 8 [(0, qr 2), (1, qi a1), (2, qi a2), (3, qi a3)] [] h (DX4_both_l8 f_X4_truth f_X4_both f_X4_unit f_X4_sum f_X4_term f_X4_atom n a1 a2 a3 h) := by
  intro n
  induction n with
  | zero =>
    intro a1 a2 a3 h
    exact S_none
  | succ n ih =>
    intro a1 a2 a3 h
    rw [DX4_both_l8.eq_2]
    refine S_iload_n 3 dX4_both_8 rfl rfl rfl ?_
    refine S_sipush (a := 900) dX4_both_9 rfl (by decide) (by decide) ?_
    refine S_icmp_ge (tgt := 51) dX4_both_12 (by decide) rfl (fun _ => ?_) (fun _ => ?_)
    · refine S_iload_n 2 dX4_both_51 rfl rfl rfl ?_
      exact S_zret dX4_both_52
    · refine S_iload_n 2 dX4_both_15 rfl rfl rfl ?_
      refine S_if_eq (tgt := 51) dX4_both_16 (by decide) rfl (fun _ => ?_) (fun _ => ?_)
      · refine S_iload_n 2 dX4_both_51 rfl rfl rfl ?_
        exact S_zret dX4_both_52
      · refine S_aload_n 0 dX4_both_19 rfl rfl rfl ?_
        refine S_ldcs (t := 25) (by decide) ⟨rfl, rfl⟩ dX4_both_20 rfl ?_
        refine S_callV_i (as := [qr (300 + 2 * 25)]) (st := []) (fun _ => rfl) (TX4_isWord 25 (by decide) h) yv_X4_isWord tw_554 qC_4 qk_2 (by omega) rfl rfl (Nat.le_of_ble_eq_true rfl) dX4_both_22 rfl (fun r1 h2 e3 => ?_)
        refine S_if_eq (tgt := 51) dX4_both_25 (by decide) rfl (fun _ => ?_) (fun _ => ?_)
        · refine S_iload_n 2 dX4_both_51 rfl rfl rfl ?_
          exact S_zret dX4_both_52
        · refine S_aload_n 0 dX4_both_28 rfl rfl rfl ?_
          refine S_callV_0 (as := []) (st := []) (fun _ => rfl) (TX4_advance h2) yv_X4_advance tw_456 qC_4 qk_2 (by omega) rfl rfl (Nat.le_of_ble_eq_true rfl) dX4_both_29 rfl (fun r4 h5 e6 => ?_)
          refine S_aload_n 0 dX4_both_32 rfl rfl rfl ?_
          refine S_iload_n 1 dX4_both_33 rfl rfl rfl ?_
          refine S_callV_i (as := [qi a1]) (st := []) (fun _ => rfl) (hf_X4_unit a1 h5) yv_X4_unit tw_693 qC_4 qk_2 (Nat.le_refl _) rfl rfl (Nat.le_of_ble_eq_true rfl) dX4_both_34 rfl (fun r7 h8 e9 => ?_)
          refine S_istore_n (lv' := [(2, qi r7), (0, qr 2), (1, qi a1), (3, qi a3)]) dX4_both_37 rfl (by decide) rfl rfl ?_
          refine S_aload_n 1 dX4_both_38 rfl rfl rfl ?_
          refine S_sipush (a := 2002) dX4_both_39 rfl (by decide) (by decide) ?_
          refine S_callV_0 (as := [qi 2002]) (st := []) (fun _ => rfl) (TX4_emit 2002 h8) yv_X4_emit tw_658 qC_4 qk_2 (by omega) rfl rfl (Nat.le_of_ble_eq_true rfl) dX4_both_42 rfl (fun r10 h11 e12 => ?_)
          refine S_iinc (lv' := [(3, qi (qw (a3 + 1))), (2, qi r7), (0, qr 2), (1, qi a1)]) 3 dX4_both_45 rfl (by decide) rfl rfl ?_
          refine S_goto (pc' := 8) dX4_both_48 (by decide) ?_
          refine S_sub [2, 3, 1, 0] rfl ?_
          exact ih a1 r7 (qw (a3 + 1)) h11
def DX4_both (f_X4_truth : Int → qH → Option (Int × qH)) (f_X4_both : Int → qH → Option (Int × qH)) (f_X4_unit : Int → qH → Option (Int × qH)) (f_X4_sum : Int → Int → qH → Option (Int × qH)) (f_X4_term : Int → Int → qH → Option (Int × qH)) (f_X4_atom : Int → Int → qH → Option (Int × qH)) (a1 : Int) (h : qH) : Option (Int × qH) := (qbd (f_X4_unit a1 h) fun r13 h14 => (DX4_both_l8 f_X4_truth f_X4_both f_X4_unit f_X4_sum f_X4_term f_X4_atom LF a1 r13 0 h14))
set_option maxRecDepth 100000 in
theorem TX4_both {L : Nat} {xs : Nat → Int32} {dd : Nat} (f_X4_truth : Int → qH → Option (Int × qH)) (f_X4_both : Int → qH → Option (Int × qH)) (f_X4_unit : Int → qH → Option (Int × qH)) (f_X4_sum : Int → Int → qH → Option (Int × qH)) (f_X4_term : Int → Int → qH → Option (Int × qH)) (f_X4_atom : Int → Int → qH → Option (Int × qH)) (hf_X4_truth : ∀ (a1 : Int) (h : qH), qMet L xs yX4_truth cX4_truth 4 (some .boolean) 4 dd [qr 2, qi a1] h (f_X4_truth a1 h)) (hf_X4_both : ∀ (a1 : Int) (h : qH), qMet L xs yX4_both cX4_both 4 (some .boolean) 4 dd [qr 2, qi a1] h (f_X4_both a1 h)) (hf_X4_unit : ∀ (a1 : Int) (h : qH), qMet L xs yX4_unit cX4_unit 5 (some .boolean) 4 dd [qr 2, qi a1] h (f_X4_unit a1 h)) (hf_X4_sum : ∀ (a1 : Int) (a2 : Int) (h : qH), qMet L xs yX4_sum cX4_sum 6 (some .boolean) 4 dd [qr 2, qi a1, qi a2] h (f_X4_sum a1 a2 h)) (hf_X4_term : ∀ (a1 : Int) (a2 : Int) (h : qH), qMet L xs yX4_term cX4_term 5 (some .boolean) 4 dd [qr 2, qi a1, qi a2] h (f_X4_term a1 a2 h)) (hf_X4_atom : ∀ (a1 : Int) (a2 : Int) (h : qH), qMet L xs yX4_atom cX4_atom 4 (some .boolean) 4 dd [qr 2, qi a1, qi a2] h (f_X4_atom a1 a2 h)) (hdd : 9 ≤ dd) (a1 : Int) (h : qH) : qMet L xs yX4_both cX4_both 4 (some .boolean) 4 (dd + 1) [qr 2, qi a1] h (DX4_both f_X4_truth f_X4_both f_X4_unit f_X4_sum f_X4_term f_X4_atom a1 h) := by
  refine qMet.of (by decide +kernel) (Or.inr (Or.inr (Or.inr (Or.inr (Or.inl ⟨rfl, rfl⟩))))) (Nat.le_of_ble_eq_true rfl) ?_
  show qS L xs cX4_both "BottlePost$Reader" 4 (dd + 1) 4 0 [(0, qr 2), (1, qi a1)] [] h (DX4_both f_X4_truth f_X4_both f_X4_unit f_X4_sum f_X4_term f_X4_atom a1 h)
  unfold DX4_both
  refine S_aload_n 0 dX4_both_0 rfl rfl rfl ?_
  refine S_iload_n 1 dX4_both_1 rfl rfl rfl ?_
  refine S_callV_i (as := [qi a1]) (st := []) (fun _ => rfl) (hf_X4_unit a1 h) yv_X4_unit tw_693 qC_4 qk_2 (Nat.le_refl _) rfl rfl (Nat.le_of_ble_eq_true rfl) dX4_both_2 rfl (fun r13 h14 e15 => ?_)
  refine S_istore_n (lv' := [(2, qi r13), (0, qr 2), (1, qi a1)]) dX4_both_5 rfl (by decide) rfl rfl ?_
  refine S_iconst (a := 0) dX4_both_6 rfl (by decide) ?_
  refine S_istore_n (lv' := [(3, qi 0), (2, qi r13), (0, qr 2), (1, qi a1)]) dX4_both_7 rfl (by decide) rfl rfl ?_
  refine S_sub [2, 3, 1, 0] rfl ?_
  exact TX4_both_l8 f_X4_truth f_X4_both f_X4_unit f_X4_sum f_X4_term f_X4_atom hf_X4_truth hf_X4_both hf_X4_unit hf_X4_sum hf_X4_term hf_X4_atom hdd LF a1 r13 0 h14
def DX4_truth_l8 (f_X4_truth : Int → qH → Option (Int × qH)) (f_X4_both : Int → qH → Option (Int × qH)) (f_X4_unit : Int → qH → Option (Int × qH)) (f_X4_sum : Int → Int → qH → Option (Int × qH)) (f_X4_term : Int → Int → qH → Option (Int × qH)) (f_X4_atom : Int → Int → qH → Option (Int × qH)) : Nat → Int → Int → Int → qH → Option (Int × qH)
  | 0, _, _, _, _ => none
  | n + 1, a1, a2, a3, h => (if 900 ≤ a3 then (if a2 = 0 ∨ a2 = 1 then some (a2, h) else none) else (if a2 = 0 then (if a2 = 0 ∨ a2 = 1 then some (a2, h) else none) else (qbd (DX4_isWord 26 h) fun r1 h2 => (if r1 = 0 then (if a2 = 0 ∨ a2 = 1 then some (a2, h2) else none) else (qbd (DX4_advance h2) fun r4 h5 => (qbd (f_X4_both a1 h5) fun r7 h8 => (qbd (DX4_emit 2001 h8) fun r10 h11 => ((DX4_truth_l8 f_X4_truth f_X4_both f_X4_unit f_X4_sum f_X4_term f_X4_atom n) a1 r7 (qw (a3 + 1)) h11))))))))
set_option maxRecDepth 100000 in
theorem TX4_truth_l8 {L : Nat} {xs : Nat → Int32} {dd : Nat} (f_X4_truth : Int → qH → Option (Int × qH)) (f_X4_both : Int → qH → Option (Int × qH)) (f_X4_unit : Int → qH → Option (Int × qH)) (f_X4_sum : Int → Int → qH → Option (Int × qH)) (f_X4_term : Int → Int → qH → Option (Int × qH)) (f_X4_atom : Int → Int → qH → Option (Int × qH)) (hf_X4_truth : ∀ (a1 : Int) (h : qH), qMet L xs yX4_truth cX4_truth 4 (some .boolean) 4 dd [qr 2, qi a1] h (f_X4_truth a1 h)) (hf_X4_both : ∀ (a1 : Int) (h : qH), qMet L xs yX4_both cX4_both 4 (some .boolean) 4 dd [qr 2, qi a1] h (f_X4_both a1 h)) (hf_X4_unit : ∀ (a1 : Int) (h : qH), qMet L xs yX4_unit cX4_unit 5 (some .boolean) 4 dd [qr 2, qi a1] h (f_X4_unit a1 h)) (hf_X4_sum : ∀ (a1 : Int) (a2 : Int) (h : qH), qMet L xs yX4_sum cX4_sum 6 (some .boolean) 4 dd [qr 2, qi a1, qi a2] h (f_X4_sum a1 a2 h)) (hf_X4_term : ∀ (a1 : Int) (a2 : Int) (h : qH), qMet L xs yX4_term cX4_term 5 (some .boolean) 4 dd [qr 2, qi a1, qi a2] h (f_X4_term a1 a2 h)) (hf_X4_atom : ∀ (a1 : Int) (a2 : Int) (h : qH), qMet L xs yX4_atom cX4_atom 4 (some .boolean) 4 dd [qr 2, qi a1, qi a2] h (f_X4_atom a1 a2 h)) (hdd : 9 ≤ dd) : ∀ (n : Nat) (a1 : Int) (a2 : Int) (a3 : Int) (h : qH), qS L xs cX4_truth "BottlePost$Reader" 4 (dd + 1) 4 8 [(0, qr 2), (1, qi a1), (2, qi a2), (3, qi a3)] [] h (DX4_truth_l8 f_X4_truth f_X4_both f_X4_unit f_X4_sum f_X4_term f_X4_atom n a1 a2 a3 h) := by
  intro n
  induction n with
  | zero =>
    intro a1 a2 a3 h
    exact S_none
  | succ n ih =>
    intro a1 a2 a3 h
    rw [DX4_truth_l8.eq_2]
    refine S_iload_n 3 dX4_truth_8 rfl rfl rfl ?_
    refine S_sipush (a := 900) dX4_truth_9 rfl (by decide) (by decide) ?_
    refine S_icmp_ge (tgt := 51) dX4_truth_12 (by decide) rfl (fun _ => ?_) (fun _ => ?_)
    · refine S_iload_n 2 dX4_truth_51 rfl rfl rfl ?_
      exact S_zret dX4_truth_52
    · refine S_iload_n 2 dX4_truth_15 rfl rfl rfl ?_
      refine S_if_eq (tgt := 51) dX4_truth_16 (by decide) rfl (fun _ => ?_) (fun _ => ?_)
      · refine S_iload_n 2 dX4_truth_51 rfl rfl rfl ?_
        exact S_zret dX4_truth_52
      · refine S_aload_n 0 dX4_truth_19 rfl rfl rfl ?_
        refine S_ldcs (t := 26) (by decide) ⟨rfl, rfl⟩ dX4_truth_20 rfl ?_
        refine S_callV_i (as := [qr (300 + 2 * 26)]) (st := []) (fun _ => rfl) (TX4_isWord 26 (by decide) h) yv_X4_isWord tw_554 qC_4 qk_2 (by omega) rfl rfl (Nat.le_of_ble_eq_true rfl) dX4_truth_22 rfl (fun r1 h2 e3 => ?_)
        refine S_if_eq (tgt := 51) dX4_truth_25 (by decide) rfl (fun _ => ?_) (fun _ => ?_)
        · refine S_iload_n 2 dX4_truth_51 rfl rfl rfl ?_
          exact S_zret dX4_truth_52
        · refine S_aload_n 0 dX4_truth_28 rfl rfl rfl ?_
          refine S_callV_0 (as := []) (st := []) (fun _ => rfl) (TX4_advance h2) yv_X4_advance tw_456 qC_4 qk_2 (by omega) rfl rfl (Nat.le_of_ble_eq_true rfl) dX4_truth_29 rfl (fun r4 h5 e6 => ?_)
          refine S_aload_n 0 dX4_truth_32 rfl rfl rfl ?_
          refine S_iload_n 1 dX4_truth_33 rfl rfl rfl ?_
          refine S_callV_i (as := [qi a1]) (st := []) (fun _ => rfl) (hf_X4_both a1 h5) yv_X4_both tw_689 qC_4 qk_2 (Nat.le_refl _) rfl rfl (Nat.le_of_ble_eq_true rfl) dX4_truth_34 rfl (fun r7 h8 e9 => ?_)
          refine S_istore_n (lv' := [(2, qi r7), (0, qr 2), (1, qi a1), (3, qi a3)]) dX4_truth_37 rfl (by decide) rfl rfl ?_
          refine S_aload_n 1 dX4_truth_38 rfl rfl rfl ?_
          refine S_sipush (a := 2001) dX4_truth_39 rfl (by decide) (by decide) ?_
          refine S_callV_0 (as := [qi 2001]) (st := []) (fun _ => rfl) (TX4_emit 2001 h8) yv_X4_emit tw_658 qC_4 qk_2 (by omega) rfl rfl (Nat.le_of_ble_eq_true rfl) dX4_truth_42 rfl (fun r10 h11 e12 => ?_)
          refine S_iinc (lv' := [(3, qi (qw (a3 + 1))), (2, qi r7), (0, qr 2), (1, qi a1)]) 3 dX4_truth_45 rfl (by decide) rfl rfl ?_
          refine S_goto (pc' := 8) dX4_truth_48 (by decide) ?_
          refine S_sub [2, 3, 1, 0] rfl ?_
          exact ih a1 r7 (qw (a3 + 1)) h11
def DX4_truth (f_X4_truth : Int → qH → Option (Int × qH)) (f_X4_both : Int → qH → Option (Int × qH)) (f_X4_unit : Int → qH → Option (Int × qH)) (f_X4_sum : Int → Int → qH → Option (Int × qH)) (f_X4_term : Int → Int → qH → Option (Int × qH)) (f_X4_atom : Int → Int → qH → Option (Int × qH)) (a1 : Int) (h : qH) : Option (Int × qH) := (qbd (f_X4_both a1 h) fun r13 h14 => (DX4_truth_l8 f_X4_truth f_X4_both f_X4_unit f_X4_sum f_X4_term f_X4_atom LF a1 r13 0 h14))
set_option maxRecDepth 100000 in
theorem TX4_truth {L : Nat} {xs : Nat → Int32} {dd : Nat} (f_X4_truth : Int → qH → Option (Int × qH)) (f_X4_both : Int → qH → Option (Int × qH)) (f_X4_unit : Int → qH → Option (Int × qH)) (f_X4_sum : Int → Int → qH → Option (Int × qH)) (f_X4_term : Int → Int → qH → Option (Int × qH)) (f_X4_atom : Int → Int → qH → Option (Int × qH)) (hf_X4_truth : ∀ (a1 : Int) (h : qH), qMet L xs yX4_truth cX4_truth 4 (some .boolean) 4 dd [qr 2, qi a1] h (f_X4_truth a1 h)) (hf_X4_both : ∀ (a1 : Int) (h : qH), qMet L xs yX4_both cX4_both 4 (some .boolean) 4 dd [qr 2, qi a1] h (f_X4_both a1 h)) (hf_X4_unit : ∀ (a1 : Int) (h : qH), qMet L xs yX4_unit cX4_unit 5 (some .boolean) 4 dd [qr 2, qi a1] h (f_X4_unit a1 h)) (hf_X4_sum : ∀ (a1 : Int) (a2 : Int) (h : qH), qMet L xs yX4_sum cX4_sum 6 (some .boolean) 4 dd [qr 2, qi a1, qi a2] h (f_X4_sum a1 a2 h)) (hf_X4_term : ∀ (a1 : Int) (a2 : Int) (h : qH), qMet L xs yX4_term cX4_term 5 (some .boolean) 4 dd [qr 2, qi a1, qi a2] h (f_X4_term a1 a2 h)) (hf_X4_atom : ∀ (a1 : Int) (a2 : Int) (h : qH), qMet L xs yX4_atom cX4_atom 4 (some .boolean) 4 dd [qr 2, qi a1, qi a2] h (f_X4_atom a1 a2 h)) (hdd : 9 ≤ dd) (a1 : Int) (h : qH) : qMet L xs yX4_truth cX4_truth 4 (some .boolean) 4 (dd + 1) [qr 2, qi a1] h (DX4_truth f_X4_truth f_X4_both f_X4_unit f_X4_sum f_X4_term f_X4_atom a1 h) := by
  refine qMet.of (by decide +kernel) (Or.inr (Or.inr (Or.inr (Or.inr (Or.inl ⟨rfl, rfl⟩))))) (Nat.le_of_ble_eq_true rfl) ?_
  show qS L xs cX4_truth "BottlePost$Reader" 4 (dd + 1) 4 0 [(0, qr 2), (1, qi a1)] [] h (DX4_truth f_X4_truth f_X4_both f_X4_unit f_X4_sum f_X4_term f_X4_atom a1 h)
  unfold DX4_truth
  refine S_aload_n 0 dX4_truth_0 rfl rfl rfl ?_
  refine S_iload_n 1 dX4_truth_1 rfl rfl rfl ?_
  refine S_callV_i (as := [qi a1]) (st := []) (fun _ => rfl) (hf_X4_both a1 h) yv_X4_both tw_689 qC_4 qk_2 (Nat.le_refl _) rfl rfl (Nat.le_of_ble_eq_true rfl) dX4_truth_2 rfl (fun r13 h14 e15 => ?_)
  refine S_istore_n (lv' := [(2, qi r13), (0, qr 2), (1, qi a1)]) dX4_truth_5 rfl (by decide) rfl rfl ?_
  refine S_iconst (a := 0) dX4_truth_6 rfl (by decide) ?_
  refine S_istore_n (lv' := [(3, qi 0), (2, qi r13), (0, qr 2), (1, qi a1)]) dX4_truth_7 rfl (by decide) rfl rfl ?_
  refine S_sub [2, 3, 1, 0] rfl ?_
  exact TX4_truth_l8 f_X4_truth f_X4_both f_X4_unit f_X4_sum f_X4_term f_X4_atom hf_X4_truth hf_X4_both hf_X4_unit hf_X4_sum hf_X4_term hf_X4_atom hdd LF a1 r13 0 h14
def RX4g : Nat → Nat → Int → Int → qH → Option (Int × qH)
  | 0, _, _, _, _ => none
  | n + 1, k, a, b, h => if k = 0 then DX4_truth (fun a h => RX4g n 0 a 0 h) (fun a h => RX4g n 1 a 0 h) (fun a h => RX4g n 2 a 0 h) (fun a b h => RX4g n 3 a b h) (fun a b h => RX4g n 4 a b h) (fun a b h => RX4g n 5 a b h) a h else if k = 1 then DX4_both (fun a h => RX4g n 0 a 0 h) (fun a h => RX4g n 1 a 0 h) (fun a h => RX4g n 2 a 0 h) (fun a b h => RX4g n 3 a b h) (fun a b h => RX4g n 4 a b h) (fun a b h => RX4g n 5 a b h) a h else if k = 2 then DX4_unit (fun a h => RX4g n 0 a 0 h) (fun a h => RX4g n 1 a 0 h) (fun a h => RX4g n 2 a 0 h) (fun a b h => RX4g n 3 a b h) (fun a b h => RX4g n 4 a b h) (fun a b h => RX4g n 5 a b h) a h else if k = 3 then DX4_sum (fun a h => RX4g n 0 a 0 h) (fun a h => RX4g n 1 a 0 h) (fun a h => RX4g n 2 a 0 h) (fun a b h => RX4g n 3 a b h) (fun a b h => RX4g n 4 a b h) (fun a b h => RX4g n 5 a b h) a b h else if k = 4 then DX4_term (fun a h => RX4g n 0 a 0 h) (fun a h => RX4g n 1 a 0 h) (fun a h => RX4g n 2 a 0 h) (fun a b h => RX4g n 3 a b h) (fun a b h => RX4g n 4 a b h) (fun a b h => RX4g n 5 a b h) a b h else DX4_atom (fun a h => RX4g n 0 a 0 h) (fun a h => RX4g n 1 a 0 h) (fun a h => RX4g n 2 a 0 h) (fun a b h => RX4g n 3 a b h) (fun a b h => RX4g n 4 a b h) (fun a b h => RX4g n 5 a b h) a b h
set_option maxRecDepth 100000 in
theorem TRX4g {L : Nat} {xs : Nat → Int32} : ∀ n : Nat, (∀ (a : Int) (h : qH), qMet L xs yX4_truth cX4_truth 4 (some .boolean) 4 (10 + n) [qr 2, qi a] h (RX4g n 0 a 0 h)) ∧ (∀ (a : Int) (h : qH), qMet L xs yX4_both cX4_both 4 (some .boolean) 4 (10 + n) [qr 2, qi a] h (RX4g n 1 a 0 h)) ∧ (∀ (a : Int) (h : qH), qMet L xs yX4_unit cX4_unit 5 (some .boolean) 4 (10 + n) [qr 2, qi a] h (RX4g n 2 a 0 h)) ∧ (∀ (a b : Int) (h : qH), qMet L xs yX4_sum cX4_sum 6 (some .boolean) 4 (10 + n) [qr 2, qi a, qi b] h (RX4g n 3 a b h)) ∧ (∀ (a b : Int) (h : qH), qMet L xs yX4_term cX4_term 5 (some .boolean) 4 (10 + n) [qr 2, qi a, qi b] h (RX4g n 4 a b h)) ∧ (∀ (a b : Int) (h : qH), qMet L xs yX4_atom cX4_atom 4 (some .boolean) 4 (10 + n) [qr 2, qi a, qi b] h (RX4g n 5 a b h)) := by
  intro n
  induction n with
  | zero => exact ⟨fun _ h => fun _ _ hx => (by cases hx), fun _ h => fun _ _ hx => (by cases hx), fun _ h => fun _ _ hx => (by cases hx), fun _ _ h => fun _ _ hx => (by cases hx), fun _ _ h => fun _ _ hx => (by cases hx), fun _ _ h => fun _ _ hx => (by cases hx)⟩
  | succ n ih =>
    obtain ⟨i0, i1, i2, i3, i4, i5⟩ := ih
    exact ⟨fun a h => TX4_truth (dd := 10 + n) (fun a h => RX4g n 0 a 0 h) (fun a h => RX4g n 1 a 0 h) (fun a h => RX4g n 2 a 0 h) (fun a b h => RX4g n 3 a b h) (fun a b h => RX4g n 4 a b h) (fun a b h => RX4g n 5 a b h) i0 i1 i2 i3 i4 i5 (by have := n; omega) a h, fun a h => TX4_both (dd := 10 + n) (fun a h => RX4g n 0 a 0 h) (fun a h => RX4g n 1 a 0 h) (fun a h => RX4g n 2 a 0 h) (fun a b h => RX4g n 3 a b h) (fun a b h => RX4g n 4 a b h) (fun a b h => RX4g n 5 a b h) i0 i1 i2 i3 i4 i5 (by have := n; omega) a h, fun a h => TX4_unit (dd := 10 + n) (fun a h => RX4g n 0 a 0 h) (fun a h => RX4g n 1 a 0 h) (fun a h => RX4g n 2 a 0 h) (fun a b h => RX4g n 3 a b h) (fun a b h => RX4g n 4 a b h) (fun a b h => RX4g n 5 a b h) i0 i1 i2 i3 i4 i5 (by have := n; omega) a h, fun a b h => TX4_sum (dd := 10 + n) (fun a h => RX4g n 0 a 0 h) (fun a h => RX4g n 1 a 0 h) (fun a h => RX4g n 2 a 0 h) (fun a b h => RX4g n 3 a b h) (fun a b h => RX4g n 4 a b h) (fun a b h => RX4g n 5 a b h) i0 i1 i2 i3 i4 i5 (by have := n; omega) a b h, fun a b h => TX4_term (dd := 10 + n) (fun a h => RX4g n 0 a 0 h) (fun a h => RX4g n 1 a 0 h) (fun a h => RX4g n 2 a 0 h) (fun a b h => RX4g n 3 a b h) (fun a b h => RX4g n 4 a b h) (fun a b h => RX4g n 5 a b h) i0 i1 i2 i3 i4 i5 (by have := n; omega) a b h, fun a b h => TX4_atom (dd := 10 + n) (fun a h => RX4g n 0 a 0 h) (fun a h => RX4g n 1 a 0 h) (fun a h => RX4g n 2 a 0 h) (fun a b h => RX4g n 3 a b h) (fun a b h => RX4g n 4 a b h) (fun a b h => RX4g n 5 a b h) i0 i1 i2 i3 i4 i5 (by have := n; omega) a b h⟩
def RX4_truth (a1 : Int) (h : qH) : Option (Int × qH) := RX4g 100 0 a1 0 h
theorem TRX4_truth {L : Nat} {xs : Nat → Int32} (a1 : Int) (h : qH) : qMet L xs yX4_truth cX4_truth 4 (some .boolean) 4 110 [qr 2, qi a1] h (RX4_truth a1 h) := (TRX4g 100).1 a1 h
def RX4_both (a1 : Int) (h : qH) : Option (Int × qH) := RX4g 100 1 a1 0 h
theorem TRX4_both {L : Nat} {xs : Nat → Int32} (a1 : Int) (h : qH) : qMet L xs yX4_both cX4_both 4 (some .boolean) 4 110 [qr 2, qi a1] h (RX4_both a1 h) := (TRX4g 100).2.1 a1 h
def RX4_unit (a1 : Int) (h : qH) : Option (Int × qH) := RX4g 100 2 a1 0 h
theorem TRX4_unit {L : Nat} {xs : Nat → Int32} (a1 : Int) (h : qH) : qMet L xs yX4_unit cX4_unit 5 (some .boolean) 4 110 [qr 2, qi a1] h (RX4_unit a1 h) := (TRX4g 100).2.2.1 a1 h
def RX4_sum (a1 : Int) (a2 : Int) (h : qH) : Option (Int × qH) := RX4g 100 3 a1 a2 h
theorem TRX4_sum {L : Nat} {xs : Nat → Int32} (a1 : Int) (a2 : Int) (h : qH) : qMet L xs yX4_sum cX4_sum 6 (some .boolean) 4 110 [qr 2, qi a1, qi a2] h (RX4_sum a1 a2 h) := (TRX4g 100).2.2.2.1 a1 a2 h
def RX4_term (a1 : Int) (a2 : Int) (h : qH) : Option (Int × qH) := RX4g 100 4 a1 a2 h
theorem TRX4_term {L : Nat} {xs : Nat → Int32} (a1 : Int) (a2 : Int) (h : qH) : qMet L xs yX4_term cX4_term 5 (some .boolean) 4 110 [qr 2, qi a1, qi a2] h (RX4_term a1 a2 h) := (TRX4g 100).2.2.2.2.1 a1 a2 h
def RX4_atom (a1 : Int) (a2 : Int) (h : qH) : Option (Int × qH) := RX4g 100 5 a1 a2 h
theorem TRX4_atom {L : Nat} {xs : Nat → Int32} (a1 : Int) (a2 : Int) (h : qH) : qMet L xs yX4_atom cX4_atom 4 (some .boolean) 4 110 [qr 2, qi a1, qi a2] h (RX4_atom a1 a2 h) := (TRX4g 100).2.2.2.2.2 a1 a2 h
