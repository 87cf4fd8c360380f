def DX4_keepsLine (h : qH) : Option (Int × qH) := (qbd (DX4_advance h) fun r1 h2 => (qlt (h2.1 2 5) fun v4 => (qbd (DX4_takeSign 58 h2) fun r5 h6 => (if r5 = 0 then some (0, h6) else (qbd (RX4_truth 0 h6) fun r8 h9 => (if ¬ r8 = 0 then (if h9.2.2.2.2 = true then (qlt (qu h9 16 9 v4) fun h11 => (if h11.2.2.2.2 = true then (qlt (qu h11 16 10 (h11.1 2 5)) fun h12 => some (1, h12)) else none)) else none) else some (0, h9)))))))
set_option maxRecDepth 100000 in
theorem TX4_keepsLine {L : Nat} {xs : Nat → Int32} (h : qH) : qMet L xs yX4_keepsLine cX4_keepsLine 2 (some .boolean) 4 111 [qr 2] h (DX4_keepsLine h) := by
  refine qMet.of (by decide +kernel) (Or.inr (Or.inr (Or.inr (Or.inr (Or.inl ⟨rfl, rfl⟩))))) (Nat.le_of_ble_eq_true rfl) ?_
  show qS L xs cX4_keepsLine "BottlePost$Reader" 2 111 4 0 [(0, qr 2)] [] h (DX4_keepsLine h)
  unfold DX4_keepsLine
  refine S_aload_n 0 dX4_keepsLine_0 rfl rfl rfl ?_
  refine S_callV_0 (as := []) (st := []) (fun _ => rfl) (TX4_advance h) yv_X4_advance tw_456 qC_4 qk_2 (by decide) rfl rfl (Nat.le_of_ble_eq_true rfl) dX4_keepsLine_1 rfl (fun r1 h2 e3 => ?_)
  refine S_aload_n 0 dX4_keepsLine_4 rfl rfl rfl ?_
  refine S_geti 5 qC_4 (by decide) (by decide) qk_2 tw_152 dX4_keepsLine_5 rfl ?_
  refine S_istore_n (lv' := [(1, qi (h2.1 2 5)), (0, qr 2)]) dX4_keepsLine_8 rfl (by decide) rfl rfl ?_
  refine S_li (fun v4 => ?_)
  refine S_aload_n 1 dX4_keepsLine_9 rfl rfl rfl ?_
  refine S_bipush (a := 58) dX4_keepsLine_10 rfl (by decide) (by decide) ?_
  refine S_callV_i (as := [qi 58]) (st := []) (fun _ => rfl) (TX4_takeSign 58 h2) yv_X4_takeSign tw_592 qC_4 qk_2 (by decide) rfl rfl (Nat.le_of_ble_eq_true rfl) dX4_keepsLine_12 rfl (fun r5 h6 e7 => ?_)
  refine S_if_eq (tgt := 26) dX4_keepsLine_15 (by decide) rfl (fun _ => ?_) (fun _ => ?_)
  · refine S_iconst (a := 0) dX4_keepsLine_26 rfl (by decide) ?_
    exact S_zretl (by decide) dX4_keepsLine_27
  · refine S_aload_n 1 dX4_keepsLine_18 rfl rfl rfl ?_
    refine S_iconst (a := 0) dX4_keepsLine_19 rfl (by decide) ?_
    refine S_callV_i (as := [qi 0]) (st := []) (fun _ => rfl) (TRX4_truth 0 h6) yv_X4_truth tw_685 qC_4 qk_2 (by decide) rfl rfl (Nat.le_of_ble_eq_true rfl) dX4_keepsLine_20 rfl (fun r8 h9 e10 => ?_)
    refine S_if_ne (tgt := 28) dX4_keepsLine_23 (by decide) rfl (fun _ => ?_) (fun _ => ?_)
    · refine S_aload_n 1 dX4_keepsLine_28 rfl rfl rfl ?_
      refine S_getc qC_4 tw_144 dX4_keepsLine_29 rfl (fun _ => ?_)
      refine S_iload_n 0 dX4_keepsLine_32 rfl rfl rfl ?_
      refine S_puti 9 qC_1 (by decide) (by decide) rfl rfl qk_16 (by decide) tw_69 dX4_keepsLine_33 rfl ?_
      refine S_lh (fun h11 => ?_)
      refine S_aload_n 1 dX4_keepsLine_36 rfl rfl rfl ?_
      refine S_getc qC_4 tw_144 dX4_keepsLine_37 rfl (fun _ => ?_)
      refine S_aload_n 1 dX4_keepsLine_40 rfl rfl rfl ?_
      refine S_geti 5 qC_4 (by decide) (by decide) qk_2 tw_152 dX4_keepsLine_41 rfl ?_
      refine S_puti 10 qC_1 (by decide) (by decide) rfl rfl qk_16 (by decide) tw_72 dX4_keepsLine_44 rfl ?_
      refine S_lh (fun h12 => ?_)
      refine S_iconst (a := 1) dX4_keepsLine_47 rfl (by decide) ?_
      exact S_zretl (by decide) dX4_keepsLine_48
    · refine S_iconst (a := 0) dX4_keepsLine_26 rfl (by decide) ?_
      exact S_zretl (by decide) dX4_keepsLine_27
def DX4_takeWord (s1 : Nat) (h : qH) : Option (Int × qH) := (qbd (DX4_isWord s1 h) fun r1 h2 => (if ¬ r1 = 0 then (qbd (DX4_advance h2) fun r4 h5 => some (1, h5)) else (qbd (DX4_refuse 2 h2) fun r7 h8 => (if r7 = 0 ∨ r7 = 1 then some (r7, h8) else none))))
set_option maxRecDepth 100000 in
theorem TX4_takeWord {L : Nat} {xs : Nat → Int32} (s1 : Nat) (t1 : s1 < 31) (h : qH) : qMet L xs yX4_takeWord cX4_takeWord 2 (some .boolean) 4 9 [qr 2, qr (300 + 2 * s1)] h (DX4_takeWord s1 h) := by
  refine qMet.of (by decide +kernel) (Or.inr (Or.inr (Or.inr (Or.inr (Or.inl ⟨rfl, rfl⟩))))) (Nat.le_of_ble_eq_true rfl) ?_
  show qS L xs cX4_takeWord "BottlePost$Reader" 2 9 4 0 [(0, qr 2), (1, qr (300 + 2 * s1))] [] h (DX4_takeWord s1 h)
  unfold DX4_takeWord
  refine S_aload_n 0 dX4_takeWord_0 rfl rfl rfl ?_
  refine S_aload_n 1 dX4_takeWord_1 rfl rfl rfl ?_
  refine S_callV_i (as := [qr (300 + 2 * s1)]) (st := []) (fun _ => rfl) (TX4_isWord s1 t1 h) yv_X4_isWord tw_554 qC_4 qk_2 (by decide) rfl rfl (Nat.le_of_ble_eq_true rfl) dX4_takeWord_2 rfl (fun r1 h2 e3 => ?_)
  refine S_if_ne (tgt := 14) dX4_takeWord_5 (by decide) rfl (fun _ => ?_) (fun _ => ?_)
  · refine S_aload_n 0 dX4_takeWord_14 rfl rfl rfl ?_
    refine S_callV_0 (as := []) (st := []) (fun _ => rfl) (TX4_advance h2) yv_X4_advance tw_456 qC_4 qk_2 (by decide) rfl rfl (Nat.le_of_ble_eq_true rfl) dX4_takeWord_15 rfl (fun r4 h5 e6 => ?_)
    refine S_iconst (a := 1) dX4_takeWord_18 rfl (by decide) ?_
    exact S_zretl (by decide) dX4_takeWord_19
  · refine S_aload_n 0 dX4_takeWord_8 rfl rfl rfl ?_
    refine S_iconst (a := 2) dX4_takeWord_9 rfl (by decide) ?_
    refine S_callV_i (as := [qi 2]) (st := []) (fun _ => rfl) (TX4_refuse 2 h2) yv_X4_refuse tw_579 qC_4 qk_2 (by decide) rfl rfl (Nat.le_of_ble_eq_true rfl) dX4_takeWord_10 rfl (fun r7 h8 e9 => ?_)
    exact S_zret dX4_takeWord_13
def DX4_moonLine (h : qH) : Option (Int × qH) := (qbd (DX4_advance h) fun r1 h2 => (qbd (DX4_takeNumber 2 30 h2) fun r4 h5 => (if r4 = (-1) then some (0, h5) else (qbd (DX4_takeWord 27 h5) fun r7 h8 => (if ¬ r7 = 0 then (qbd (DX4_takeNumber 0 r4 h8) fun r10 h11 => (if ¬ r10 = (-1) then (if h11.2.2.2.2 = true then (qlt (qu h11 16 17 r4) fun h13 => (if h13.2.2.2.2 = true then (qlt (qu h13 16 18 r10) fun h14 => some (1, h14)) else none)) else none) else some (0, h11))) else some (0, h8))))))
set_option maxRecDepth 100000 in
theorem TX4_moonLine {L : Nat} {xs : Nat → Int32} (h : qH) : qMet L xs yX4_moonLine cX4_moonLine 3 (some .boolean) 4 10 [qr 2] h (DX4_moonLine h) := by
  refine qMet.of (by decide +kernel) (Or.inr (Or.inr (Or.inr (Or.inr (Or.inl ⟨rfl, rfl⟩))))) (Nat.le_of_ble_eq_true rfl) ?_
  show qS L xs cX4_moonLine "BottlePost$Reader" 3 10 4 0 [(0, qr 2)] [] h (DX4_moonLine h)
  unfold DX4_moonLine
  refine S_aload_n 0 dX4_moonLine_0 rfl rfl rfl ?_
  refine S_callV_0 (as := []) (st := []) (fun _ => rfl) (TX4_advance h) yv_X4_advance tw_456 qC_4 qk_2 (by decide) rfl rfl (Nat.le_of_ble_eq_true rfl) dX4_moonLine_1 rfl (fun r1 h2 e3 => ?_)
  refine S_aload_n 0 dX4_moonLine_4 rfl rfl rfl ?_
  refine S_iconst (a := 2) dX4_moonLine_5 rfl (by decide) ?_
  refine S_bipush (a := 30) dX4_moonLine_6 rfl (by decide) (by decide) ?_
  refine S_callV_i (as := [qi 2, qi 30]) (st := []) (fun _ => rfl) (TX4_takeNumber 2 30 h2) yv_X4_takeNumber tw_583 qC_4 qk_2 (by decide) rfl rfl (Nat.le_of_ble_eq_true rfl) dX4_moonLine_8 rfl (fun r4 h5 e6 => ?_)
  refine S_istore_n (lv' := [(1, qi r4), (0, qr 2)]) dX4_moonLine_11 rfl (by decide) rfl rfl ?_
  refine S_iload_n 0 dX4_moonLine_12 rfl rfl rfl ?_
  refine S_iconst (a := (-1)) dX4_moonLine_13 rfl (by decide) ?_
  refine S_icmp_eq (tgt := 26) dX4_moonLine_14 (by decide) rfl (fun _ => ?_) (fun _ => ?_)
  · refine S_iconst (a := 0) dX4_moonLine_26 rfl (by decide) ?_
    exact S_zretl (by decide) dX4_moonLine_27
  · refine S_aload_n 1 dX4_moonLine_17 rfl rfl rfl ?_
    refine S_ldcs (t := 27) (by decide) ⟨rfl, rfl⟩ dX4_moonLine_18 rfl ?_
    refine S_callV_i (as := [qr (300 + 2 * 27)]) (st := []) (fun _ => rfl) (TX4_takeWord 27 (by decide) h5) yv_X4_takeWord tw_550 qC_4 qk_2 (by decide) rfl rfl (Nat.le_of_ble_eq_true rfl) dX4_moonLine_20 rfl (fun r7 h8 e9 => ?_)
    refine S_if_ne (tgt := 28) dX4_moonLine_23 (by decide) rfl (fun _ => ?_) (fun _ => ?_)
    · refine S_aload_n 1 dX4_moonLine_28 rfl rfl rfl ?_
      refine S_iconst (a := 0) dX4_moonLine_29 rfl (by decide) ?_
      refine S_iload_n 0 dX4_moonLine_30 rfl rfl rfl ?_
      refine S_callV_i (as := [qi 0, qi r4]) (st := []) (fun _ => rfl) (TX4_takeNumber 0 r4 h8) yv_X4_takeNumber tw_583 qC_4 qk_2 (by decide) rfl rfl (Nat.le_of_ble_eq_true rfl) dX4_moonLine_31 rfl (fun r10 h11 e12 => ?_)
      refine S_istore_n (lv' := [(2, qi r10), (1, qi r4), (0, qr 2)]) dX4_moonLine_34 rfl (by decide) rfl rfl ?_
      refine S_iload_n 0 dX4_moonLine_35 rfl rfl rfl ?_
      refine S_iconst (a := (-1)) dX4_moonLine_36 rfl (by decide) ?_
      refine S_icmp_ne (tgt := 42) dX4_moonLine_37 (by decide) rfl (fun _ => ?_) (fun _ => ?_)
      · refine S_aload_n 2 dX4_moonLine_42 rfl rfl rfl ?_
        refine S_getc qC_4 tw_144 dX4_moonLine_43 rfl (fun _ => ?_)
        refine S_iload_n 1 dX4_moonLine_46 rfl rfl rfl ?_
        refine S_puti 17 qC_1 (by decide) (by decide) rfl rfl qk_16 (by decide) tw_95 dX4_moonLine_47 rfl ?_
        refine S_lh (fun h13 => ?_)
        refine S_aload_n 2 dX4_moonLine_50 rfl rfl rfl ?_
        refine S_getc qC_4 tw_144 dX4_moonLine_51 rfl (fun _ => ?_)
        refine S_iload_n 0 dX4_moonLine_54 rfl rfl rfl ?_
        refine S_puti 18 qC_1 (by decide) (by decide) rfl rfl qk_16 (by decide) tw_97 dX4_moonLine_55 rfl ?_
        refine S_lh (fun h14 => ?_)
        refine S_iconst (a := 1) dX4_moonLine_58 rfl (by decide) ?_
        exact S_zretl (by decide) dX4_moonLine_59
      · refine S_iconst (a := 0) dX4_moonLine_40 rfl (by decide) ?_
        exact S_zretl (by decide) dX4_moonLine_41
    · refine S_iconst (a := 0) dX4_moonLine_26 rfl (by decide) ?_
      exact S_zretl (by decide) dX4_moonLine_27
def DX4_rockLine (h : qH) : Option (Int × qH) := (qbd (DX4_advance h) fun r1 h2 => (qbd (DX4_takeCell 1 h2) fun r4 h5 => (if h5.2.2.2.2 = true then (qbd (DX1_isCell 16 r4 h5) fun r7 h8 => (if ¬ r7 = 0 then (if h8.2.2.2.2 = true then (if 0 ≤ r4 ∧ r4 < 36 then qlt (qu h8 17 r4.toNat 1) fun h10 => (if h10.2.2.2.2 = true then (qlt (qu h10 16 15 (qw (h10.1 16 15 + 1))) fun h11 => some (1, h11)) else none) else none) else none) else some (0, h8))) else none)))
set_option maxRecDepth 100000 in
theorem TX4_rockLine {L : Nat} {xs : Nat → Int32} (h : qH) : qMet L xs yX4_rockLine cX4_rockLine 2 (some .boolean) 4 11 [qr 2] h (DX4_rockLine h) := by
  refine qMet.of (by decide +kernel) (Or.inr (Or.inr (Or.inr (Or.inr (Or.inl ⟨rfl, rfl⟩))))) (Nat.le_of_ble_eq_true rfl) ?_
  show qS L xs cX4_rockLine "BottlePost$Reader" 2 11 4 0 [(0, qr 2)] [] h (DX4_rockLine h)
  unfold DX4_rockLine
  refine S_aload_n 0 dX4_rockLine_0 rfl rfl rfl ?_
  refine S_callV_0 (as := []) (st := []) (fun _ => rfl) (TX4_advance h) yv_X4_advance tw_456 qC_4 qk_2 (by decide) rfl rfl (Nat.le_of_ble_eq_true rfl) dX4_rockLine_1 rfl (fun r1 h2 e3 => ?_)
  refine S_aload_n 0 dX4_rockLine_4 rfl rfl rfl ?_
  refine S_iconst (a := 1) dX4_rockLine_5 rfl (by decide) ?_
  refine S_callV_i (as := [qi 1]) (st := []) (fun _ => rfl) (TX4_takeCell 1 h2) yv_X4_takeCell tw_605 qC_4 qk_2 (by decide) rfl rfl (Nat.le_of_ble_eq_true rfl) dX4_rockLine_6 rfl (fun r4 h5 e6 => ?_)
  refine S_istore_n (lv' := [(1, qi r4), (0, qr 2)]) dX4_rockLine_9 rfl (by decide) rfl rfl ?_
  refine S_aload_n 1 dX4_rockLine_10 rfl rfl rfl ?_
  refine S_getc qC_4 tw_144 dX4_rockLine_11 rfl (fun _ => ?_)
  refine S_iload_n 0 dX4_rockLine_14 rfl rfl rfl ?_
  refine S_callV_i (as := [qi r4]) (st := []) (fun _ => rfl) (TX1_isCell 16 r4 qk_16 h5) yv_X1_isCell tw_613 qC_1 qk_16 (by decide) rfl rfl (Nat.le_of_ble_eq_true rfl) dX4_rockLine_15 rfl (fun r7 h8 e9 => ?_)
  refine S_if_ne (tgt := 23) dX4_rockLine_18 (by decide) rfl (fun _ => ?_) (fun _ => ?_)
  · refine S_aload_n 1 dX4_rockLine_23 rfl rfl rfl ?_
    refine S_getc qC_4 tw_144 dX4_rockLine_24 rfl (fun _ => ?_)
    refine S_getr (j := 17) (o := 1) 0 qC_1 (by decide) (by decide) qk_16 rfl rfl (by decide) tw_44 dX4_rockLine_27 rfl ?_
    refine S_iload_n 0 dX4_rockLine_30 rfl rfl rfl ?_
    refine S_iconst (a := 1) dX4_rockLine_31 rfl (by decide) ?_
    refine S_iast (N := 36) qk_17 rfl dX4_rockLine_32 rfl (fun _ _ => ?_)
    refine S_lh (fun h10 => ?_)
    refine S_aload_n 1 dX4_rockLine_33 rfl rfl rfl ?_
    refine S_getc qC_4 tw_144 dX4_rockLine_34 rfl (fun _ => ?_)
    refine S_dup dX4_rockLine_37 rfl rfl ?_
    refine S_geti 15 qC_1 (by decide) (by decide) qk_16 tw_89 dX4_rockLine_38 rfl ?_
    refine S_iconst (a := 1) dX4_rockLine_41 rfl (by decide) ?_
    refine S_iadd dX4_rockLine_42 rfl ?_
    refine S_puti 15 qC_1 (by decide) (by decide) rfl rfl qk_16 (by decide) tw_89 dX4_rockLine_43 rfl ?_
    refine S_lh (fun h11 => ?_)
    refine S_iconst (a := 1) dX4_rockLine_46 rfl (by decide) ?_
    exact S_zretl (by decide) dX4_rockLine_47
  · refine S_iconst (a := 0) dX4_rockLine_21 rfl (by decide) ?_
    exact S_zretl (by decide) dX4_rockLine_22
def DX4_takeWalks_b23 (k4 : Int → Int → qH → Option (Int × qH)) (a1 : Int) (a2 : Int) (h : qH) : Option (Int × qH) := (if h.2.2.2.2 = true then (qbd (DX4_takeNumber 0 (qw (h.1 16 13 - 1)) h) fun r1 h2 => (if ¬ r1 = (-1) then (qlt (qor a1 (qshl 1 r1)) fun v4 => (k4 v4 (qw (a2 + 1)) h2)) else some ((-1), h2))) else none)
set_option maxRecDepth 100000 in
theorem TX4_takeWalks_b23 {L : Nat} {xs : Nat → Int32} (k4 : Int → Int → qH → Option (Int × qH)) (hk4 : ∀ (a1 : Int) (a2 : Int) (h : qH), qS L xs cX4_takeWalks "BottlePost$Reader" 4 10 1 4 [(0, qr 2), (1, qi a1), (2, qi a2)] [] h (k4 a1 a2 h)) (a1 : Int) (a2 : Int) (h : qH) : qS L xs cX4_takeWalks "BottlePost$Reader" 4 10 1 23 [(0, qr 2), (1, qi a1), (2, qi a2)] [] h (DX4_takeWalks_b23 k4 a1 a2 h) := by
  unfold DX4_takeWalks_b23
  refine S_aload_n 0 dX4_takeWalks_23 rfl rfl rfl ?_
  refine S_iconst (a := 0) dX4_takeWalks_24 rfl (by decide) ?_
  refine S_aload_n 0 dX4_takeWalks_25 rfl rfl rfl ?_
  refine S_getc qC_4 tw_144 dX4_takeWalks_26 rfl (fun _ => ?_)
  refine S_geti 13 qC_1 (by decide) (by decide) qk_16 tw_82 dX4_takeWalks_29 rfl ?_
  refine S_iconst (a := 1) dX4_takeWalks_32 rfl (by decide) ?_
  refine S_isub dX4_takeWalks_33 rfl ?_
  refine S_callV_i (as := [qi 0, qi (qw (h.1 16 13 - 1))]) (st := []) (fun _ => rfl) (TX4_takeNumber 0 (qw (h.1 16 13 - 1)) h) yv_X4_takeNumber tw_583 qC_4 qk_2 (by decide) rfl rfl (Nat.le_of_ble_eq_true rfl) dX4_takeWalks_34 rfl (fun r1 h2 e3 => ?_)
  refine S_istore_n (lv' := [(3, qi r1), (0, qr 2), (1, qi a1), (2, qi a2)]) dX4_takeWalks_37 rfl (by decide) rfl rfl ?_
  refine S_iload_n 0 dX4_takeWalks_38 rfl rfl rfl ?_
  refine S_iconst (a := (-1)) dX4_takeWalks_39 rfl (by decide) ?_
  refine S_icmp_ne (tgt := 45) dX4_takeWalks_40 (by decide) rfl (fun _ => ?_) (fun _ => ?_)
  · refine S_iload_n 2 dX4_takeWalks_45 rfl rfl rfl ?_
    refine S_iconst (a := 1) dX4_takeWalks_46 rfl (by decide) ?_
    refine S_iload_n 0 dX4_takeWalks_47 rfl rfl rfl ?_
    refine S_ishl dX4_takeWalks_48 rfl ?_
    refine S_ior dX4_takeWalks_49 rfl ?_
    refine S_istore_n (lv' := [(1, qi (qor a1 (qshl 1 r1))), (3, qi r1), (0, qr 2), (2, qi a2)]) dX4_takeWalks_50 rfl (by decide) rfl rfl ?_
    refine S_li (fun v4 => ?_)
    refine S_iinc (lv' := [(2, qi (qw (a2 + 1))), (1, qi v4), (3, qi r1), (0, qr 2)]) 3 dX4_takeWalks_51 rfl (by decide) rfl rfl ?_
    refine S_goto (pc' := 4) dX4_takeWalks_54 (by decide) ?_
    refine S_sub [3, 1, 0] rfl ?_
    exact hk4 v4 (qw (a2 + 1)) h2
  · refine S_iconst (a := (-1)) dX4_takeWalks_43 rfl (by decide) ?_
    exact S_iret dX4_takeWalks_44
def DX4_takeWalks_l4 : Nat → Int → Int → qH → Option (Int × qH)
  | 0, _, _, _ => none
  | n + 1, a1, a2, h => (if 900 ≤ a2 then some (a1, h) else (if a2 = 0 then (DX4_takeWalks_b23 (DX4_takeWalks_l4 n) a1 a2 h) else (if ¬ h.1 2 6 = 2 then some (a1, h) else (DX4_takeWalks_b23 (DX4_takeWalks_l4 n) a1 a2 h))))
set_option maxRecDepth 100000 in
theorem TX4_takeWalks_l4 {L : Nat} {xs : Nat → Int32} : ∀ (n : Nat) (a1 : Int) (a2 : Int) (h : qH), qS L xs cX4_takeWalks "BottlePost$Reader" 4 10 1 4 [(0, qr 2), (1, qi a1), (2, qi a2)] [] h (DX4_takeWalks_l4 n a1 a2 h) := by
  intro n
  induction n with
  | zero =>
    intro a1 a2 h
    exact S_none
  | succ n ih =>
    intro a1 a2 h
    rw [DX4_takeWalks_l4.eq_2]
    refine S_iload_n 2 dX4_takeWalks_4 rfl rfl rfl ?_
    refine S_sipush (a := 900) dX4_takeWalks_5 rfl (by decide) (by decide) ?_
    refine S_icmp_ge (tgt := 57) dX4_takeWalks_8 (by decide) rfl (fun _ => ?_) (fun _ => ?_)
    · refine S_iload_n 1 dX4_takeWalks_57 rfl rfl rfl ?_
      exact S_iret dX4_takeWalks_58
    · refine S_iload_n 2 dX4_takeWalks_11 rfl rfl rfl ?_
      refine S_if_eq (tgt := 23) dX4_takeWalks_12 (by decide) rfl (fun _ => ?_) (fun _ => ?_)
      · exact TX4_takeWalks_b23 (DX4_takeWalks_l4 n) ih a1 a2 h
      · refine S_aload_n 0 dX4_takeWalks_15 rfl rfl rfl ?_
        refine S_geti 6 qC_4 (by decide) (by decide) qk_2 tw_153 dX4_takeWalks_16 rfl ?_
        refine S_iconst (a := 2) dX4_takeWalks_19 rfl (by decide) ?_
        refine S_icmp_ne (tgt := 57) dX4_takeWalks_20 (by decide) rfl (fun _ => ?_) (fun _ => ?_)
        · refine S_iload_n 1 dX4_takeWalks_57 rfl rfl rfl ?_
          exact S_iret dX4_takeWalks_58
        · exact TX4_takeWalks_b23 (DX4_takeWalks_l4 n) ih a1 a2 h
def DX4_takeWalks (h : qH) : Option (Int × qH) := (DX4_takeWalks_l4 LF 0 0 h)
set_option maxRecDepth 100000 in
theorem TX4_takeWalks {L : Nat} {xs : Nat → Int32} (h : qH) : qMet L xs yX4_takeWalks cX4_takeWalks 4 (some .int) 1 10 [qr 2] h (DX4_takeWalks h) := by
  refine qMet.of (by decide +kernel) (Or.inr (Or.inl ⟨rfl, rfl⟩)) (Nat.le_of_ble_eq_true rfl) ?_
  show qS L xs cX4_takeWalks "BottlePost$Reader" 4 10 1 0 [(0, qr 2)] [] h (DX4_takeWalks h)
  unfold DX4_takeWalks
  refine S_iconst (a := 0) dX4_takeWalks_0 rfl (by decide) ?_
  refine S_istore_n (lv' := [(1, qi 0), (0, qr 2)]) dX4_takeWalks_1 rfl (by decide) rfl rfl ?_
  refine S_iconst (a := 0) dX4_takeWalks_2 rfl (by decide) ?_
  refine S_istore_n (lv' := [(2, qi 0), (1, qi 0), (0, qr 2)]) dX4_takeWalks_3 rfl (by decide) rfl rfl ?_
  refine S_sub [2, 1, 0] rfl ?_
  exact TX4_takeWalks_l4 LF 0 0 h
def DX4_takeWay_b55 (a1 : Int) (h : qH) : Option (Int × qH) := (if ¬ a1 = (-1) then (qbd (DX4_advance h) fun r1 h2 => some (a1, h2)) else (qbd (DX4_refuse 2 h) fun r4 h5 => some (a1, h5)))
set_option maxRecDepth 100000 in
theorem TX4_takeWay_b55 {L : Nat} {xs : Nat → Int32} (a1 : Int) (h : qH) : qS L xs cX4_takeWay "BottlePost$Reader" 2 9 1 55 [(0, qr 2), (1, qi a1)] [] h (DX4_takeWay_b55 a1 h) := by
  unfold DX4_takeWay_b55
  refine S_iload_n 1 dX4_takeWay_55 rfl rfl rfl ?_
  refine S_iconst (a := (-1)) dX4_takeWay_56 rfl (by decide) ?_
  refine S_icmp_ne (tgt := 69) dX4_takeWay_57 (by decide) rfl (fun _ => ?_) (fun _ => ?_)
  · refine S_aload_n 0 dX4_takeWay_69 rfl rfl rfl ?_
    refine S_callV_0 (as := []) (st := []) (fun _ => rfl) (TX4_advance h) yv_X4_advance tw_456 qC_4 qk_2 (by decide) rfl rfl (Nat.le_of_ble_eq_true rfl) dX4_takeWay_70 rfl (fun r1 h2 e3 => ?_)
    refine S_iload_n 1 dX4_takeWay_73 rfl rfl rfl ?_
    exact S_iret dX4_takeWay_74
  · refine S_aload_n 0 dX4_takeWay_60 rfl rfl rfl ?_
    refine S_iconst (a := 2) dX4_takeWay_61 rfl (by decide) ?_
    refine S_callV_i (as := [qi 2]) (st := []) (fun _ => rfl) (TX4_refuse 2 h) yv_X4_refuse tw_579 qC_4 qk_2 (by decide) rfl rfl (Nat.le_of_ble_eq_true rfl) dX4_takeWay_62 rfl (fun r4 h5 e6 => ?_)
    refine S_pop dX4_takeWay_65 rfl rfl ?_
    refine S_goto (pc' := 73) dX4_takeWay_66 (by decide) ?_
    refine S_iload_n 1 dX4_takeWay_73 rfl rfl rfl ?_
    exact S_iret dX4_takeWay_74
def DX4_takeWay (h : qH) : Option (Int × qH) := (qbd (DX4_isWord 6 h) fun r7 h8 => (if r7 = 0 then (qbd (DX4_isWord 7 h8) fun r10 h11 => (if r10 = 0 then (qbd (DX4_isWord 8 h11) fun r13 h14 => (if r13 = 0 then (qbd (DX4_isWord 9 h14) fun r16 h17 => (if r16 = 0 then (DX4_takeWay_b55 (-1) h17) else (DX4_takeWay_b55 4 h17))) else (DX4_takeWay_b55 3 h14))) else (DX4_takeWay_b55 2 h11))) else (DX4_takeWay_b55 1 h8)))
set_option maxRecDepth 100000 in
theorem TX4_takeWay {L : Nat} {xs : Nat → Int32} (h : qH) : qMet L xs yX4_takeWay cX4_takeWay 2 (some .int) 1 9 [qr 2] h (DX4_takeWay h) := by
  refine qMet.of (by decide +kernel) (Or.inr (Or.inl ⟨rfl, rfl⟩)) (Nat.le_of_ble_eq_true rfl) ?_
  show qS L xs cX4_takeWay "BottlePost$Reader" 2 9 1 0 [(0, qr 2)] [] h (DX4_takeWay h)
  unfold DX4_takeWay
  refine S_iconst (a := (-1)) dX4_takeWay_0 rfl (by decide) ?_
  refine S_istore_n (lv' := [(1, qi (-1)), (0, qr 2)]) dX4_takeWay_1 rfl (by decide) rfl rfl ?_
  refine S_aload_n 1 dX4_takeWay_2 rfl rfl rfl ?_
  refine S_ldcs (t := 6) (by decide) ⟨rfl, rfl⟩ dX4_takeWay_3 rfl ?_
  refine S_callV_i (as := [qr (300 + 2 * 6)]) (st := []) (fun _ => rfl) (TX4_isWord 6 (by decide) h) yv_X4_isWord tw_554 qC_4 qk_2 (by decide) rfl rfl (Nat.le_of_ble_eq_true rfl) dX4_takeWay_5 rfl (fun r7 h8 e9 => ?_)
  refine S_if_eq (tgt := 16) dX4_takeWay_8 (by decide) rfl (fun _ => ?_) (fun _ => ?_)
  · refine S_aload_n 1 dX4_takeWay_16 rfl rfl rfl ?_
    refine S_ldcs (t := 7) (by decide) ⟨rfl, rfl⟩ dX4_takeWay_17 rfl ?_
    refine S_callV_i (as := [qr (300 + 2 * 7)]) (st := []) (fun _ => rfl) (TX4_isWord 7 (by decide) h8) yv_X4_isWord tw_554 qC_4 qk_2 (by decide) rfl rfl (Nat.le_of_ble_eq_true rfl) dX4_takeWay_19 rfl (fun r10 h11 e12 => ?_)
    refine S_if_eq (tgt := 30) dX4_takeWay_22 (by decide) rfl (fun _ => ?_) (fun _ => ?_)
    · refine S_aload_n 1 dX4_takeWay_30 rfl rfl rfl ?_
      refine S_ldcs (t := 8) (by decide) ⟨rfl, rfl⟩ dX4_takeWay_31 rfl ?_
      refine S_callV_i (as := [qr (300 + 2 * 8)]) (st := []) (fun _ => rfl) (TX4_isWord 8 (by decide) h11) yv_X4_isWord tw_554 qC_4 qk_2 (by decide) rfl rfl (Nat.le_of_ble_eq_true rfl) dX4_takeWay_33 rfl (fun r13 h14 e15 => ?_)
      refine S_if_eq (tgt := 44) dX4_takeWay_36 (by decide) rfl (fun _ => ?_) (fun _ => ?_)
      · refine S_aload_n 1 dX4_takeWay_44 rfl rfl rfl ?_
        refine S_ldcs (t := 9) (by decide) ⟨rfl, rfl⟩ dX4_takeWay_45 rfl ?_
        refine S_callV_i (as := [qr (300 + 2 * 9)]) (st := []) (fun _ => rfl) (TX4_isWord 9 (by decide) h14) yv_X4_isWord tw_554 qC_4 qk_2 (by decide) rfl rfl (Nat.le_of_ble_eq_true rfl) dX4_takeWay_47 rfl (fun r16 h17 e18 => ?_)
        refine S_if_eq (tgt := 55) dX4_takeWay_50 (by decide) rfl (fun _ => ?_) (fun _ => ?_)
        · refine S_sub [1, 0] rfl ?_
          exact TX4_takeWay_b55 (-1) h17
        · refine S_iconst (a := 4) dX4_takeWay_53 rfl (by decide) ?_
          refine S_istore_n (lv' := [(1, qi 4), (0, qr 2)]) dX4_takeWay_54 rfl (by decide) rfl rfl ?_
          refine S_sub [1, 0] rfl ?_
          exact TX4_takeWay_b55 4 h17
      · refine S_iconst (a := 3) dX4_takeWay_39 rfl (by decide) ?_
        refine S_istore_n (lv' := [(1, qi 3), (0, qr 2)]) dX4_takeWay_40 rfl (by decide) rfl rfl ?_
        refine S_goto (pc' := 55) dX4_takeWay_41 (by decide) ?_
        refine S_sub [1, 0] rfl ?_
        exact TX4_takeWay_b55 3 h14
    · refine S_iconst (a := 2) dX4_takeWay_25 rfl (by decide) ?_
      refine S_istore_n (lv' := [(1, qi 2), (0, qr 2)]) dX4_takeWay_26 rfl (by decide) rfl rfl ?_
      refine S_goto (pc' := 55) dX4_takeWay_27 (by decide) ?_
      refine S_sub [1, 0] rfl ?_
      exact TX4_takeWay_b55 2 h11
  · refine S_iconst (a := 1) dX4_takeWay_11 rfl (by decide) ?_
    refine S_istore_n (lv' := [(1, qi 1), (0, qr 2)]) dX4_takeWay_12 rfl (by decide) rfl rfl ?_
    refine S_goto (pc' := 55) dX4_takeWay_13 (by decide) ?_
    refine S_sub [1, 0] rfl ?_
    exact TX4_takeWay_b55 1 h8
def DX4_shoreLine (h : qH) : Option (Int × qH) := (if h.2.2.2.2 = true then (qlt (h.1 16 14) fun v1 => (if v1 < 0 then (qbd (DX4_refuse 4 h) fun r2 h3 => (if r2 = 0 ∨ r2 = 1 then some (r2, h3) else none)) else (if v1 < 6 then (qbd (DX4_advance h) fun r5 h6 => (qbd (DX4_takeCell 1 h6) fun r8 h9 => (if h9.2.2.2.2 = true then (qbd (DX1_isCell 16 r8 h9) fun r11 h12 => (if r11 = 0 then some (0, h12) else (qbd (DX4_takeWord 5 h12) fun r14 h15 => (if ¬ r14 = 0 then (qbd (DX4_takeWay h15) fun r17 h18 => (if r17 = (-1) then some (0, h18) else (qbd (DX4_takeWord 10 h18) fun r20 h21 => (if ¬ r20 = 0 then (qbd (DX4_takeWalks h21) fun r23 h24 => (if ¬ r23 = (-1) then (if h24.2.2.2.2 = true then (if 0 ≤ r8 ∧ r8 < 36 then qlt (qu h24 17 r8.toNat (qw (10 + v1))) fun h26 => (if h26.2.2.2.2 = true then (if 0 ≤ v1 ∧ v1 < 6 then qlt (qu h26 19 v1.toNat r8) fun h27 => (if h27.2.2.2.2 = true then (if 0 ≤ v1 ∧ v1 < 6 then qlt (qu h27 20 v1.toNat r17) fun h28 => (if h28.2.2.2.2 = true then (if 0 ≤ v1 ∧ v1 < 6 then qlt (qu h28 22 v1.toNat r23) fun h29 => (if h29.2.2.2.2 = true then (qlt (qu h29 16 14 (qw (h29.1 16 14 + 1))) fun h30 => some (1, h30)) else none) else none) else none) else none) else none) else none) else none) else none) else none) else some (0, h24))) else some (0, h21))))) else some (0, h15))))) else none))) else (qbd (DX4_refuse 4 h) fun r31 h32 => (if r31 = 0 ∨ r31 = 1 then some (r31, h32) else none))))) else none)
set_option maxRecDepth 100000 in
theorem TX4_shoreLine {L : Nat} {xs : Nat → Int32} (h : qH) : qMet L xs yX4_shoreLine cX4_shoreLine 5 (some .boolean) 4 11 [qr 2] h (DX4_shoreLine h) := by
  refine qMet.of (by decide +kernel) (Or.inr (Or.inr (Or.inr (Or.inr (Or.inl ⟨rfl, rfl⟩))))) (Nat.le_of_ble_eq_true rfl) ?_
  show qS L xs cX4_shoreLine "BottlePost$Reader" 5 11 4 0 [(0, qr 2)] [] h (DX4_shoreLine h)
  unfold DX4_shoreLine
  refine S_aload_n 0 dX4_shoreLine_0 rfl rfl rfl ?_
  refine S_getc qC_4 tw_144 dX4_shoreLine_1 rfl (fun _ => ?_)
  refine S_geti 14 qC_1 (by decide) (by decide) qk_16 tw_86 dX4_shoreLine_4 rfl ?_
  refine S_istore_n (lv' := [(1, qi (h.1 16 14)), (0, qr 2)]) dX4_shoreLine_7 rfl (by decide) rfl rfl ?_
  refine S_li (fun v1 => ?_)
  refine S_iload_n 0 dX4_shoreLine_8 rfl rfl rfl ?_
  refine S_if_lt (tgt := 18) dX4_shoreLine_9 (by decide) rfl (fun _ => ?_) (fun _ => ?_)
  · refine S_aload_n 1 dX4_shoreLine_18 rfl rfl rfl ?_
    refine S_iconst (a := 4) dX4_shoreLine_19 rfl (by decide) ?_
    refine S_callV_i (as := [qi 4]) (st := []) (fun _ => rfl) (TX4_refuse 4 h) yv_X4_refuse tw_579 qC_4 qk_2 (by decide) rfl rfl (Nat.le_of_ble_eq_true rfl) dX4_shoreLine_20 rfl (fun r2 h3 e4 => ?_)
    exact S_zret dX4_shoreLine_23
  · refine S_iload_n 0 dX4_shoreLine_12 rfl rfl rfl ?_
    refine S_bipush (a := 6) dX4_shoreLine_13 rfl (by decide) (by decide) ?_
    refine S_icmp_lt (tgt := 24) dX4_shoreLine_15 (by decide) rfl (fun _ => ?_) (fun _ => ?_)
    · refine S_aload_n 1 dX4_shoreLine_24 rfl rfl rfl ?_
      refine S_callV_0 (as := []) (st := []) (fun _ => rfl) (TX4_advance h) yv_X4_advance tw_456 qC_4 qk_2 (by decide) rfl rfl (Nat.le_of_ble_eq_true rfl) dX4_shoreLine_25 rfl (fun r5 h6 e7 => ?_)
      refine S_aload_n 1 dX4_shoreLine_28 rfl rfl rfl ?_
      refine S_iconst (a := 1) dX4_shoreLine_29 rfl (by decide) ?_
      refine S_callV_i (as := [qi 1]) (st := []) (fun _ => rfl) (TX4_takeCell 1 h6) yv_X4_takeCell tw_605 qC_4 qk_2 (by decide) rfl rfl (Nat.le_of_ble_eq_true rfl) dX4_shoreLine_30 rfl (fun r8 h9 e10 => ?_)
      refine S_istore_n (lv' := [(2, qi r8), (1, qi v1), (0, qr 2)]) dX4_shoreLine_33 rfl (by decide) rfl rfl ?_
      refine S_aload_n 2 dX4_shoreLine_34 rfl rfl rfl ?_
      refine S_getc qC_4 tw_144 dX4_shoreLine_35 rfl (fun _ => ?_)
      refine S_iload_n 0 dX4_shoreLine_38 rfl rfl rfl ?_
      refine S_callV_i (as := [qi r8]) (st := []) (fun _ => rfl) (TX1_isCell 16 r8 qk_16 h9) yv_X1_isCell tw_613 qC_1 qk_16 (by decide) rfl rfl (Nat.le_of_ble_eq_true rfl) dX4_shoreLine_39 rfl (fun r11 h12 e13 => ?_)
      refine S_if_eq (tgt := 54) dX4_shoreLine_42 (by decide) rfl (fun _ => ?_) (fun _ => ?_)
      · refine S_iconst (a := 0) dX4_shoreLine_54 rfl (by decide) ?_
        exact S_zretl (by decide) dX4_shoreLine_55
      · refine S_aload_n 2 dX4_shoreLine_45 rfl rfl rfl ?_
        refine S_ldcs (t := 5) (by decide) ⟨rfl, rfl⟩ dX4_shoreLine_46 rfl ?_
        refine S_callV_i (as := [qr (300 + 2 * 5)]) (st := []) (fun _ => rfl) (TX4_takeWord 5 (by decide) h12) yv_X4_takeWord tw_550 qC_4 qk_2 (by decide) rfl rfl (Nat.le_of_ble_eq_true rfl) dX4_shoreLine_48 rfl (fun r14 h15 e16 => ?_)
        refine S_if_ne (tgt := 56) dX4_shoreLine_51 (by decide) rfl (fun _ => ?_) (fun _ => ?_)
        · refine S_aload_n 2 dX4_shoreLine_56 rfl rfl rfl ?_
          refine S_callV_i (as := []) (st := []) (fun _ => rfl) (TX4_takeWay h15) yv_X4_takeWay tw_623 qC_4 qk_2 (by decide) rfl rfl (Nat.le_of_ble_eq_true rfl) dX4_shoreLine_57 rfl (fun r17 h18 e19 => ?_)
          refine S_istore_n (lv' := [(3, qi r17), (2, qi r8), (1, qi v1), (0, qr 2)]) dX4_shoreLine_60 rfl (by decide) rfl rfl ?_
          refine S_iload_n 0 dX4_shoreLine_61 rfl rfl rfl ?_
          refine S_iconst (a := (-1)) dX4_shoreLine_62 rfl (by decide) ?_
          refine S_icmp_eq (tgt := 75) dX4_shoreLine_63 (by decide) rfl (fun _ => ?_) (fun _ => ?_)
          · refine S_iconst (a := 0) dX4_shoreLine_75 rfl (by decide) ?_
            exact S_zretl (by decide) dX4_shoreLine_76
          · refine S_aload_n 3 dX4_shoreLine_66 rfl rfl rfl ?_
            refine S_ldcs (t := 10) (by decide) ⟨rfl, rfl⟩ dX4_shoreLine_67 rfl ?_
            refine S_callV_i (as := [qr (300 + 2 * 10)]) (st := []) (fun _ => rfl) (TX4_takeWord 10 (by decide) h18) yv_X4_takeWord tw_550 qC_4 qk_2 (by decide) rfl rfl (Nat.le_of_ble_eq_true rfl) dX4_shoreLine_69 rfl (fun r20 h21 e22 => ?_)
            refine S_if_ne (tgt := 77) dX4_shoreLine_72 (by decide) rfl (fun _ => ?_) (fun _ => ?_)
            · refine S_aload_n 3 dX4_shoreLine_77 rfl rfl rfl ?_
              refine S_callV_i (as := []) (st := []) (fun _ => rfl) (TX4_takeWalks h21) yv_X4_takeWalks tw_632 qC_4 qk_2 (by decide) rfl rfl (Nat.le_of_ble_eq_true rfl) dX4_shoreLine_78 rfl (fun r23 h24 e25 => ?_)
              refine S_istore (lv' := [(4, qi r23), (3, qi r17), (2, qi r8), (1, qi v1), (0, qr 2)]) dX4_shoreLine_81 (by decide) rfl rfl ?_
              refine S_iload 0 dX4_shoreLine_83 rfl rfl ?_
              refine S_iconst (a := (-1)) dX4_shoreLine_85 rfl (by decide) ?_
              refine S_icmp_ne (tgt := 91) dX4_shoreLine_86 (by decide) rfl (fun _ => ?_) (fun _ => ?_)
              · refine S_aload_n 4 dX4_shoreLine_91 rfl rfl rfl ?_
                refine S_getc qC_4 tw_144 dX4_shoreLine_92 rfl (fun _ => ?_)
                refine S_getr (j := 17) (o := 1) 0 qC_1 (by decide) (by decide) qk_16 rfl rfl (by decide) tw_44 dX4_shoreLine_95 rfl ?_
                refine S_iload_n 2 dX4_shoreLine_98 rfl rfl rfl ?_
                refine S_bipush (a := 10) dX4_shoreLine_99 rfl (by decide) (by decide) ?_
                refine S_iload_n 3 dX4_shoreLine_101 rfl rfl rfl ?_
                refine S_iadd dX4_shoreLine_102 rfl ?_
                refine S_iast (N := 36) qk_17 rfl dX4_shoreLine_103 rfl (fun _ _ => ?_)
                refine S_lh (fun h26 => ?_)
                refine S_aload_n 4 dX4_shoreLine_104 rfl rfl rfl ?_
                refine S_getc qC_4 tw_144 dX4_shoreLine_105 rfl (fun _ => ?_)
                refine S_getr (j := 19) (o := 3) 2 qC_1 (by decide) (by decide) qk_16 rfl rfl (by decide) tw_49 dX4_shoreLine_108 rfl ?_
                refine S_iload_n 3 dX4_shoreLine_111 rfl rfl rfl ?_
                refine S_iload_n 2 dX4_shoreLine_112 rfl rfl rfl ?_
                refine S_iast (N := 6) qk_19 rfl dX4_shoreLine_113 rfl (fun _ _ => ?_)
                refine S_lh (fun h27 => ?_)
                refine S_aload_n 4 dX4_shoreLine_114 rfl rfl rfl ?_
                refine S_getc qC_4 tw_144 dX4_shoreLine_115 rfl (fun _ => ?_)
                refine S_getr (j := 20) (o := 4) 3 qC_1 (by decide) (by decide) qk_16 rfl rfl (by decide) tw_52 dX4_shoreLine_118 rfl ?_
                refine S_iload_n 3 dX4_shoreLine_121 rfl rfl rfl ?_
                refine S_iload_n 1 dX4_shoreLine_122 rfl rfl rfl ?_
                refine S_iast (N := 6) qk_20 rfl dX4_shoreLine_123 rfl (fun _ _ => ?_)
                refine S_lh (fun h28 => ?_)
                refine S_aload_n 4 dX4_shoreLine_124 rfl rfl rfl ?_
                refine S_getc qC_4 tw_144 dX4_shoreLine_125 rfl (fun _ => ?_)
                refine S_getr (j := 22) (o := 6) 5 qC_1 (by decide) (by decide) qk_16 rfl rfl (by decide) tw_57 dX4_shoreLine_128 rfl ?_
                refine S_iload_n 3 dX4_shoreLine_131 rfl rfl rfl ?_
                refine S_iload 0 dX4_shoreLine_132 rfl rfl ?_
                refine S_iast (N := 6) qk_22 rfl dX4_shoreLine_134 rfl (fun _ _ => ?_)
                refine S_lh (fun h29 => ?_)
                refine S_aload_n 4 dX4_shoreLine_135 rfl rfl rfl ?_
                refine S_getc qC_4 tw_144 dX4_shoreLine_136 rfl (fun _ => ?_)
                refine S_dup dX4_shoreLine_139 rfl rfl ?_
                refine S_geti 14 qC_1 (by decide) (by decide) qk_16 tw_86 dX4_shoreLine_140 rfl ?_
                refine S_iconst (a := 1) dX4_shoreLine_143 rfl (by decide) ?_
                refine S_iadd dX4_shoreLine_144 rfl ?_
                refine S_puti 14 qC_1 (by decide) (by decide) rfl rfl qk_16 (by decide) tw_86 dX4_shoreLine_145 rfl ?_
                refine S_lh (fun h30 => ?_)
                refine S_iconst (a := 1) dX4_shoreLine_148 rfl (by decide) ?_
                exact S_zretl (by decide) dX4_shoreLine_149
              · refine S_iconst (a := 0) dX4_shoreLine_89 rfl (by decide) ?_
                exact S_zretl (by decide) dX4_shoreLine_90
            · refine S_iconst (a := 0) dX4_shoreLine_75 rfl (by decide) ?_
              exact S_zretl (by decide) dX4_shoreLine_76
        · refine S_iconst (a := 0) dX4_shoreLine_54 rfl (by decide) ?_
          exact S_zretl (by decide) dX4_shoreLine_55
    · refine S_aload_n 1 dX4_shoreLine_18 rfl rfl rfl ?_
      refine S_iconst (a := 4) dX4_shoreLine_19 rfl (by decide) ?_
      refine S_callV_i (as := [qi 4]) (st := []) (fun _ => rfl) (TX4_refuse 4 h) yv_X4_refuse tw_579 qC_4 qk_2 (by decide) rfl rfl (Nat.le_of_ble_eq_true rfl) dX4_shoreLine_20 rfl (fun r31 h32 e33 => ?_)
      exact S_zret dX4_shoreLine_23
def DX4_windLine (h : qH) : Option (Int × qH) := (qbd (DX4_advance h) fun r1 h2 => (qlt (h2.1 2 5) fun v4 => (qbd (DX4_takeSign 58 h2) fun r5 h6 => (if r5 = 0 then some (0, h6) else (qbd (RX4_sum 0 0 h6) fun r8 h9 => (if ¬ r8 = 0 then (if h9.2.2.2.2 = true then (qlt (qu h9 16 7 v4) fun h11 => (if h11.2.2.2.2 = true then (qlt (qu h11 16 8 (h11.1 2 5)) fun h12 => some (1, h12)) else none)) else none) else some (0, h9)))))))
set_option maxRecDepth 100000 in
theorem TX4_windLine {L : Nat} {xs : Nat → Int32} (h : qH) : qMet L xs yX4_windLine cX4_windLine 2 (some .boolean) 4 111 [qr 2] h (DX4_windLine h) := by
  refine qMet.of (by decide +kernel) (Or.inr (Or.inr (Or.inr (Or.inr (Or.inl ⟨rfl, rfl⟩))))) (Nat.le_of_ble_eq_true rfl) ?_
  show qS L xs cX4_windLine "BottlePost$Reader" 2 111 4 0 [(0, qr 2)] [] h (DX4_windLine h)
  unfold DX4_windLine
  refine S_aload_n 0 dX4_windLine_0 rfl rfl rfl ?_
  refine S_callV_0 (as := []) (st := []) (fun _ => rfl) (TX4_advance h) yv_X4_advance tw_456 qC_4 qk_2 (by decide) rfl rfl (Nat.le_of_ble_eq_true rfl) dX4_windLine_1 rfl (fun r1 h2 e3 => ?_)
  refine S_aload_n 0 dX4_windLine_4 rfl rfl rfl ?_
  refine S_geti 5 qC_4 (by decide) (by decide) qk_2 tw_152 dX4_windLine_5 rfl ?_
  refine S_istore_n (lv' := [(1, qi (h2.1 2 5)), (0, qr 2)]) dX4_windLine_8 rfl (by decide) rfl rfl ?_
  refine S_li (fun v4 => ?_)
  refine S_aload_n 1 dX4_windLine_9 rfl rfl rfl ?_
  refine S_bipush (a := 58) dX4_windLine_10 rfl (by decide) (by decide) ?_
  refine S_callV_i (as := [qi 58]) (st := []) (fun _ => rfl) (TX4_takeSign 58 h2) yv_X4_takeSign tw_592 qC_4 qk_2 (by decide) rfl rfl (Nat.le_of_ble_eq_true rfl) dX4_windLine_12 rfl (fun r5 h6 e7 => ?_)
  refine S_if_eq (tgt := 27) dX4_windLine_15 (by decide) rfl (fun _ => ?_) (fun _ => ?_)
  · refine S_iconst (a := 0) dX4_windLine_27 rfl (by decide) ?_
    exact S_zretl (by decide) dX4_windLine_28
  · refine S_aload_n 1 dX4_windLine_18 rfl rfl rfl ?_
    refine S_iconst (a := 0) dX4_windLine_19 rfl (by decide) ?_
    refine S_iconst (a := 0) dX4_windLine_20 rfl (by decide) ?_
    refine S_callV_i (as := [qi 0, qi 0]) (st := []) (fun _ => rfl) (TRX4_sum 0 0 h6) yv_X4_sum tw_646 qC_4 qk_2 (by decide) rfl rfl (Nat.le_of_ble_eq_true rfl) dX4_windLine_21 rfl (fun r8 h9 e10 => ?_)
    refine S_if_ne (tgt := 29) dX4_windLine_24 (by decide) rfl (fun _ => ?_) (fun _ => ?_)
    · refine S_aload_n 1 dX4_windLine_29 rfl rfl rfl ?_
      refine S_getc qC_4 tw_144 dX4_windLine_30 rfl (fun _ => ?_)
      refine S_iload_n 0 dX4_windLine_33 rfl rfl rfl ?_
      refine S_puti 7 qC_1 (by decide) (by decide) rfl rfl qk_16 (by decide) tw_63 dX4_windLine_34 rfl ?_
      refine S_lh (fun h11 => ?_)
      refine S_aload_n 1 dX4_windLine_37 rfl rfl rfl ?_
      refine S_getc qC_4 tw_144 dX4_windLine_38 rfl (fun _ => ?_)
      refine S_aload_n 1 dX4_windLine_41 rfl rfl rfl ?_
      refine S_geti 5 qC_4 (by decide) (by decide) qk_2 tw_152 dX4_windLine_42 rfl ?_
      refine S_puti 8 qC_1 (by decide) (by decide) rfl rfl qk_16 (by decide) tw_66 dX4_windLine_45 rfl ?_
      refine S_lh (fun h12 => ?_)
      refine S_iconst (a := 1) dX4_windLine_48 rfl (by decide) ?_
      exact S_zretl (by decide) dX4_windLine_49
    · refine S_iconst (a := 0) dX4_windLine_27 rfl (by decide) ?_
      exact S_zretl (by decide) dX4_windLine_28
def DX4_otherLine (h : qH) : Option (Int × qH) := (qbd (DX4_isWord 3 h) fun r1 h2 => (if r1 = 0 then (qbd (DX4_isWord 4 h2) fun r4 h5 => (if r4 = 0 then (qbd (DX4_isWord 11 h5) fun r7 h8 => (if r7 = 0 then (qbd (DX4_isWord 12 h8) fun r10 h11 => (if r10 = 0 then (qbd (DX4_isWord 23 h11) fun r13 h14 => (if r13 = 0 then (qbd (DX4_isWord 22 h14) fun r16 h17 => (if r16 = 0 then (qbd (DX4_isWord 28 h17) fun r19 h20 => (if r19 = 0 then (qbd (DX4_refuse 2 h20) fun r22 h23 => (if r22 = 0 ∨ r22 = 1 then some (r22, h23) else none)) else (qbd (DX4_corkLine h20) fun r25 h26 => (if r25 = 0 ∨ r25 = 1 then some (r25, h26) else none)))) else (qbd (DX4_moonLine h17) fun r28 h29 => (if r28 = 0 ∨ r28 = 1 then some (r28, h29) else none)))) else (qbd (DX4_keepsLine h14) fun r31 h32 => (if r31 = 0 ∨ r31 = 1 then some (r31, h32) else none)))) else (qbd (DX4_windLine h11) fun r34 h35 => (if r34 = 0 ∨ r34 = 1 then some (r34, h35) else none)))) else (qbd (DX4_currentLine h8) fun r37 h38 => (if r37 = 0 ∨ r37 = 1 then some (r37, h38) else none)))) else (qbd (DX4_shoreLine h5) fun r40 h41 => (if r40 = 0 ∨ r40 = 1 then some (r40, h41) else none)))) else (qbd (DX4_rockLine h2) fun r43 h44 => (if r43 = 0 ∨ r43 = 1 then some (r43, h44) else none))))
set_option maxRecDepth 100000 in
theorem TX4_otherLine {L : Nat} {xs : Nat → Int32} (h : qH) : qMet L xs yX4_otherLine cX4_otherLine 1 (some .boolean) 4 112 [qr 2] h (DX4_otherLine h) := by
  refine qMet.of (by decide +kernel) (Or.inr (Or.inr (Or.inr (Or.inr (Or.inl ⟨rfl, rfl⟩))))) (Nat.le_of_ble_eq_true rfl) ?_
  show qS L xs cX4_otherLine "BottlePost$Reader" 1 112 4 0 [(0, qr 2)] [] h (DX4_otherLine h)
  unfold DX4_otherLine
  refine S_aload_n 0 dX4_otherLine_0 rfl rfl rfl ?_
  refine S_ldcs (t := 3) (by decide) ⟨rfl, rfl⟩ dX4_otherLine_1 rfl ?_
  refine S_callV_i (as := [qr (300 + 2 * 3)]) (st := []) (fun _ => rfl) (TX4_isWord 3 (by decide) h) yv_X4_isWord tw_554 qC_4 qk_2 (by decide) rfl rfl (Nat.le_of_ble_eq_true rfl) dX4_otherLine_3 rfl (fun r1 h2 e3 => ?_)
  refine S_if_eq (tgt := 14) dX4_otherLine_6 (by decide) rfl (fun _ => ?_) (fun _ => ?_)
  · refine S_aload_n 0 dX4_otherLine_14 rfl rfl rfl ?_
    refine S_ldcs (t := 4) (by decide) ⟨rfl, rfl⟩ dX4_otherLine_15 rfl ?_
    refine S_callV_i (as := [qr (300 + 2 * 4)]) (st := []) (fun _ => rfl) (TX4_isWord 4 (by decide) h2) yv_X4_isWord tw_554 qC_4 qk_2 (by decide) rfl rfl (Nat.le_of_ble_eq_true rfl) dX4_otherLine_17 rfl (fun r4 h5 e6 => ?_)
    refine S_if_eq (tgt := 28) dX4_otherLine_20 (by decide) rfl (fun _ => ?_) (fun _ => ?_)
    · refine S_aload_n 0 dX4_otherLine_28 rfl rfl rfl ?_
      refine S_ldcs (t := 11) (by decide) ⟨rfl, rfl⟩ dX4_otherLine_29 rfl ?_
      refine S_callV_i (as := [qr (300 + 2 * 11)]) (st := []) (fun _ => rfl) (TX4_isWord 11 (by decide) h5) yv_X4_isWord tw_554 qC_4 qk_2 (by decide) rfl rfl (Nat.le_of_ble_eq_true rfl) dX4_otherLine_31 rfl (fun r7 h8 e9 => ?_)
      refine S_if_eq (tgt := 42) dX4_otherLine_34 (by decide) rfl (fun _ => ?_) (fun _ => ?_)
      · refine S_aload_n 0 dX4_otherLine_42 rfl rfl rfl ?_
        refine S_ldcs (t := 12) (by decide) ⟨rfl, rfl⟩ dX4_otherLine_43 rfl ?_
        refine S_callV_i (as := [qr (300 + 2 * 12)]) (st := []) (fun _ => rfl) (TX4_isWord 12 (by decide) h8) yv_X4_isWord tw_554 qC_4 qk_2 (by decide) rfl rfl (Nat.le_of_ble_eq_true rfl) dX4_otherLine_45 rfl (fun r10 h11 e12 => ?_)
        refine S_if_eq (tgt := 56) dX4_otherLine_48 (by decide) rfl (fun _ => ?_) (fun _ => ?_)
        · refine S_aload_n 0 dX4_otherLine_56 rfl rfl rfl ?_
          refine S_ldcs (t := 23) (by decide) ⟨rfl, rfl⟩ dX4_otherLine_57 rfl ?_
          refine S_callV_i (as := [qr (300 + 2 * 23)]) (st := []) (fun _ => rfl) (TX4_isWord 23 (by decide) h11) yv_X4_isWord tw_554 qC_4 qk_2 (by decide) rfl rfl (Nat.le_of_ble_eq_true rfl) dX4_otherLine_59 rfl (fun r13 h14 e15 => ?_)
          refine S_if_eq (tgt := 70) dX4_otherLine_62 (by decide) rfl (fun _ => ?_) (fun _ => ?_)
          · refine S_aload_n 0 dX4_otherLine_70 rfl rfl rfl ?_
            refine S_ldcs (t := 22) (by decide) ⟨rfl, rfl⟩ dX4_otherLine_71 rfl ?_
            refine S_callV_i (as := [qr (300 + 2 * 22)]) (st := []) (fun _ => rfl) (TX4_isWord 22 (by decide) h14) yv_X4_isWord tw_554 qC_4 qk_2 (by decide) rfl rfl (Nat.le_of_ble_eq_true rfl) dX4_otherLine_73 rfl (fun r16 h17 e18 => ?_)
            refine S_if_eq (tgt := 84) dX4_otherLine_76 (by decide) rfl (fun _ => ?_) (fun _ => ?_)
            · refine S_aload_n 0 dX4_otherLine_84 rfl rfl rfl ?_
              refine S_ldcs (t := 28) (by decide) ⟨rfl, rfl⟩ dX4_otherLine_85 rfl ?_
              refine S_callV_i (as := [qr (300 + 2 * 28)]) (st := []) (fun _ => rfl) (TX4_isWord 28 (by decide) h17) yv_X4_isWord tw_554 qC_4 qk_2 (by decide) rfl rfl (Nat.le_of_ble_eq_true rfl) dX4_otherLine_87 rfl (fun r19 h20 e21 => ?_)
              refine S_if_eq (tgt := 98) dX4_otherLine_90 (by decide) rfl (fun _ => ?_) (fun _ => ?_)
              · refine S_aload_n 0 dX4_otherLine_98 rfl rfl rfl ?_
                refine S_iconst (a := 2) dX4_otherLine_99 rfl (by decide) ?_
                refine S_callV_i (as := [qi 2]) (st := []) (fun _ => rfl) (TX4_refuse 2 h20) yv_X4_refuse tw_579 qC_4 qk_2 (by decide) rfl rfl (Nat.le_of_ble_eq_true rfl) dX4_otherLine_100 rfl (fun r22 h23 e24 => ?_)
                exact S_zret dX4_otherLine_103
              · refine S_aload_n 0 dX4_otherLine_93 rfl rfl rfl ?_
                refine S_callV_i (as := []) (st := []) (fun _ => rfl) (TX4_corkLine h20) yv_X4_corkLine tw_706 qC_4 qk_2 (by decide) rfl rfl (Nat.le_of_ble_eq_true rfl) dX4_otherLine_94 rfl (fun r25 h26 e27 => ?_)
                exact S_zret dX4_otherLine_97
            · refine S_aload_n 0 dX4_otherLine_79 rfl rfl rfl ?_
              refine S_callV_i (as := []) (st := []) (fun _ => rfl) (TX4_moonLine h17) yv_X4_moonLine tw_700 qC_4 qk_2 (by decide) rfl rfl (Nat.le_of_ble_eq_true rfl) dX4_otherLine_80 rfl (fun r28 h29 e30 => ?_)
              exact S_zret dX4_otherLine_83
          · refine S_aload_n 0 dX4_otherLine_65 rfl rfl rfl ?_
            refine S_callV_i (as := []) (st := []) (fun _ => rfl) (TX4_keepsLine h14) yv_X4_keepsLine tw_681 qC_4 qk_2 (by decide) rfl rfl (Nat.le_of_ble_eq_true rfl) dX4_otherLine_66 rfl (fun r31 h32 e33 => ?_)
            exact S_zret dX4_otherLine_69
        · refine S_aload_n 0 dX4_otherLine_51 rfl rfl rfl ?_
          refine S_callV_i (as := []) (st := []) (fun _ => rfl) (TX4_windLine h11) yv_X4_windLine tw_642 qC_4 qk_2 (by decide) rfl rfl (Nat.le_of_ble_eq_true rfl) dX4_otherLine_52 rfl (fun r34 h35 e36 => ?_)
          exact S_zret dX4_otherLine_55
      · refine S_aload_n 0 dX4_otherLine_37 rfl rfl rfl ?_
        refine S_callV_i (as := []) (st := []) (fun _ => rfl) (TX4_currentLine h8) yv_X4_currentLine tw_637 qC_4 qk_2 (by decide) rfl rfl (Nat.le_of_ble_eq_true rfl) dX4_otherLine_38 rfl (fun r37 h38 e39 => ?_)
        exact S_zret dX4_otherLine_41
    · refine S_aload_n 0 dX4_otherLine_23 rfl rfl rfl ?_
      refine S_callV_i (as := []) (st := []) (fun _ => rfl) (TX4_shoreLine h5) yv_X4_shoreLine tw_618 qC_4 qk_2 (by decide) rfl rfl (Nat.le_of_ble_eq_true rfl) dX4_otherLine_24 rfl (fun r40 h41 e42 => ?_)
      exact S_zret dX4_otherLine_27
  · refine S_aload_n 0 dX4_otherLine_9 rfl rfl rfl ?_
    refine S_callV_i (as := []) (st := []) (fun _ => rfl) (TX4_rockLine h2) yv_X4_rockLine tw_601 qC_4 qk_2 (by decide) rfl rfl (Nat.le_of_ble_eq_true rfl) dX4_otherLine_10 rfl (fun r43 h44 e45 => ?_)
    exact S_zret dX4_otherLine_13
def DX4_seaLine_b35 (a1 : Int) (b0 : Int) (h : qH) : Option (Int × qH) := (if b0 = (-1) then some (0, h) else (qbd (DX4_takeWord 2 h) fun r1 h2 => (if ¬ r1 = 0 then (qbd (DX4_takeNumber 1 6 h2) fun r4 h5 => (if ¬ r4 = (-1) then (if h5.2.2.2.2 = true then (qlt (qu h5 16 11 a1) fun h7 => (if h7.2.2.2.2 = true then (qlt (qu h7 16 12 b0) fun h8 => (if h8.2.2.2.2 = true then (qlt (qu h8 16 13 r4) fun h9 => some (1, h9)) else none)) else none)) else none) else some (0, h5))) else some (0, h2))))
set_option maxRecDepth 100000 in
theorem TX4_seaLine_b35 {L : Nat} {xs : Nat → Int32} (a1 : Int) (b0 : Int) (h : qH) : qS L xs cX4_seaLine "BottlePost$Reader" 4 10 4 35 [(0, qr 2), (1, qi a1)] [qi b0] h (DX4_seaLine_b35 a1 b0 h) := by
  unfold DX4_seaLine_b35
  refine S_istore_n (lv' := [(2, qi b0), (0, qr 2), (1, qi a1)]) dX4_seaLine_35 rfl (by decide) rfl rfl ?_
  refine S_iload_n 0 dX4_seaLine_36 rfl rfl rfl ?_
  refine S_iconst (a := (-1)) dX4_seaLine_37 rfl (by decide) ?_
  refine S_icmp_eq (tgt := 50) dX4_seaLine_38 (by decide) rfl (fun _ => ?_) (fun _ => ?_)
  · refine S_iconst (a := 0) dX4_seaLine_50 rfl (by decide) ?_
    exact S_zretl (by decide) dX4_seaLine_51
  · refine S_aload_n 1 dX4_seaLine_41 rfl rfl rfl ?_
    refine S_ldcs (t := 2) (by decide) ⟨rfl, rfl⟩ dX4_seaLine_42 rfl ?_
    refine S_callV_i (as := [qr (300 + 2 * 2)]) (st := []) (fun _ => rfl) (TX4_takeWord 2 (by decide) h) yv_X4_takeWord tw_550 qC_4 qk_2 (by decide) rfl rfl (Nat.le_of_ble_eq_true rfl) dX4_seaLine_44 rfl (fun r1 h2 e3 => ?_)
    refine S_if_ne (tgt := 52) dX4_seaLine_47 (by decide) rfl (fun _ => ?_) (fun _ => ?_)
    · refine S_aload_n 1 dX4_seaLine_52 rfl rfl rfl ?_
      refine S_iconst (a := 1) dX4_seaLine_53 rfl (by decide) ?_
      refine S_bipush (a := 6) dX4_seaLine_54 rfl (by decide) (by decide) ?_
      refine S_callV_i (as := [qi 1, qi 6]) (st := []) (fun _ => rfl) (TX4_takeNumber 1 6 h2) yv_X4_takeNumber tw_583 qC_4 qk_2 (by decide) rfl rfl (Nat.le_of_ble_eq_true rfl) dX4_seaLine_56 rfl (fun r4 h5 e6 => ?_)
      refine S_istore_n (lv' := [(3, qi r4), (2, qi b0), (0, qr 2), (1, qi a1)]) dX4_seaLine_59 rfl (by decide) rfl rfl ?_
      refine S_iload_n 0 dX4_seaLine_60 rfl rfl rfl ?_
      refine S_iconst (a := (-1)) dX4_seaLine_61 rfl (by decide) ?_
      refine S_icmp_ne (tgt := 67) dX4_seaLine_62 (by decide) rfl (fun _ => ?_) (fun _ => ?_)
      · refine S_aload_n 2 dX4_seaLine_67 rfl rfl rfl ?_
        refine S_getc qC_4 tw_144 dX4_seaLine_68 rfl (fun _ => ?_)
        refine S_iload_n 3 dX4_seaLine_71 rfl rfl rfl ?_
        refine S_puti 11 qC_1 (by decide) (by decide) rfl rfl qk_16 (by decide) tw_75 dX4_seaLine_72 rfl ?_
        refine S_lh (fun h7 => ?_)
        refine S_aload_n 2 dX4_seaLine_75 rfl rfl rfl ?_
        refine S_getc qC_4 tw_144 dX4_seaLine_76 rfl (fun _ => ?_)
        refine S_iload_n 1 dX4_seaLine_79 rfl rfl rfl ?_
        refine S_puti 12 qC_1 (by decide) (by decide) rfl rfl qk_16 (by decide) tw_78 dX4_seaLine_80 rfl ?_
        refine S_lh (fun h8 => ?_)
        refine S_aload_n 2 dX4_seaLine_83 rfl rfl rfl ?_
        refine S_getc qC_4 tw_144 dX4_seaLine_84 rfl (fun _ => ?_)
        refine S_iload_n 0 dX4_seaLine_87 rfl rfl rfl ?_
        refine S_puti 13 qC_1 (by decide) (by decide) rfl rfl qk_16 (by decide) tw_82 dX4_seaLine_88 rfl ?_
        refine S_lh (fun h9 => ?_)
        refine S_iconst (a := 1) dX4_seaLine_91 rfl (by decide) ?_
        exact S_zretl (by decide) dX4_seaLine_92
      · refine S_iconst (a := 0) dX4_seaLine_65 rfl (by decide) ?_
        exact S_zretl (by decide) dX4_seaLine_66
    · refine S_iconst (a := 0) dX4_seaLine_50 rfl (by decide) ?_
      exact S_zretl (by decide) dX4_seaLine_51
def DX4_seaLine (h : qH) : Option (Int × qH) := (qbd (DX4_takeWord 1 h) fun r10 h11 => (if ¬ r10 = 0 then (qbd (DX4_takeNumber 2 6 h11) fun r13 h14 => (if ¬ r13 = (-1) then (qbd (DX4_takeNumber 2 6 h14) fun r16 h17 => (DX4_seaLine_b35 r13 r16 h17)) else (DX4_seaLine_b35 r13 (-1) h14))) else some (0, h11)))
set_option maxRecDepth 100000 in
theorem TX4_seaLine {L : Nat} {xs : Nat → Int32} (h : qH) : qMet L xs yX4_seaLine cX4_seaLine 4 (some .boolean) 4 10 [qr 2] h (DX4_seaLine h) := by
  refine qMet.of (by decide +kernel) (Or.inr (Or.inr (Or.inr (Or.inr (Or.inl ⟨rfl, rfl⟩))))) (Nat.le_of_ble_eq_true rfl) ?_
  show qS L xs cX4_seaLine "BottlePost$Reader" 4 10 4 0 [(0, qr 2)] [] h (DX4_seaLine h)
  unfold DX4_seaLine
  refine S_aload_n 0 dX4_seaLine_0 rfl rfl rfl ?_
  refine S_ldcs (t := 1) (by decide) ⟨rfl, rfl⟩ dX4_seaLine_1 rfl ?_
  refine S_callV_i (as := [qr (300 + 2 * 1)]) (st := []) (fun _ => rfl) (TX4_takeWord 1 (by decide) h) yv_X4_takeWord tw_550 qC_4 qk_2 (by decide) rfl rfl (Nat.le_of_ble_eq_true rfl) dX4_seaLine_3 rfl (fun r10 h11 e12 => ?_)
  refine S_if_ne (tgt := 11) dX4_seaLine_6 (by decide) rfl (fun _ => ?_) (fun _ => ?_)
  · refine S_aload_n 0 dX4_seaLine_11 rfl rfl rfl ?_
    refine S_iconst (a := 2) dX4_seaLine_12 rfl (by decide) ?_
    refine S_bipush (a := 6) dX4_seaLine_13 rfl (by decide) (by decide) ?_
    refine S_callV_i (as := [qi 2, qi 6]) (st := []) (fun _ => rfl) (TX4_takeNumber 2 6 h11) yv_X4_takeNumber tw_583 qC_4 qk_2 (by decide) rfl rfl (Nat.le_of_ble_eq_true rfl) dX4_seaLine_15 rfl (fun r13 h14 e15 => ?_)
    refine S_istore_n (lv' := [(1, qi r13), (0, qr 2)]) dX4_seaLine_18 rfl (by decide) rfl rfl ?_
    refine S_iload_n 0 dX4_seaLine_19 rfl rfl rfl ?_
    refine S_iconst (a := (-1)) dX4_seaLine_20 rfl (by decide) ?_
    refine S_icmp_ne (tgt := 28) dX4_seaLine_21 (by decide) rfl (fun _ => ?_) (fun _ => ?_)
    · refine S_aload_n 1 dX4_seaLine_28 rfl rfl rfl ?_
      refine S_iconst (a := 2) dX4_seaLine_29 rfl (by decide) ?_
      refine S_bipush (a := 6) dX4_seaLine_30 rfl (by decide) (by decide) ?_
      refine S_callV_i (as := [qi 2, qi 6]) (st := []) (fun _ => rfl) (TX4_takeNumber 2 6 h14) yv_X4_takeNumber tw_583 qC_4 qk_2 (by decide) rfl rfl (Nat.le_of_ble_eq_true rfl) dX4_seaLine_32 rfl (fun r16 h17 e18 => ?_)
      refine S_sub [1, 0] rfl ?_
      exact TX4_seaLine_b35 r13 r16 h17
    · refine S_iconst (a := (-1)) dX4_seaLine_24 rfl (by decide) ?_
      refine S_goto (pc' := 35) dX4_seaLine_25 (by decide) ?_
      refine S_sub [1, 0] rfl ?_
      exact TX4_seaLine_b35 r13 (-1) h14
  · refine S_iconst (a := 0) dX4_seaLine_9 rfl (by decide) ?_
    exact S_zretl (by decide) dX4_seaLine_10
def DJ9_min_7cf53 (a0 : Int) (a1 : Int) (h : qH) : Option (Int × qH) := (if a1 < a0 then some (a1, h) else some (a0, h))
set_option maxRecDepth 100000 in
theorem TJ9_min_7cf53 {L : Nat} {xs : Nat → Int32} (a0 : Int) (a1 : Int) (h : qH) : qMet L xs yJ9_min_7cf53 cJ9_min_7cf53 2 (some .int) 1 1 [qi a0, qi a1] h (DJ9_min_7cf53 a0 a1 h) := by
  refine qMet.ofF (by decide +kernel) (Or.inr (Or.inl ⟨rfl, rfl⟩)) (Nat.le_of_ble_eq_true rfl) ?_
  show qS L xs cJ9_min_7cf53 "java/lang/Math" 2 1 1 0 [(0, qi a0), (1, qi a1)] [] h (DJ9_min_7cf53 a0 a1 h)
  unfold DJ9_min_7cf53
  refine S_iload_n 0 dJ9_min_7cf53_0 rfl rfl rfl ?_
  refine S_iload_n 1 dJ9_min_7cf53_1 rfl rfl rfl ?_
  refine S_icmp_gt (tgt := 9) dJ9_min_7cf53_2 (by decide) rfl (fun _ => ?_) (fun _ => ?_)
  · refine S_iload_n 1 dJ9_min_7cf53_9 rfl rfl rfl ?_
    exact S_iret dJ9_min_7cf53_10
  · refine S_iload_n 0 dJ9_min_7cf53_5 rfl rfl rfl ?_
    refine S_goto (pc' := 10) dJ9_min_7cf53_6 (by decide) ?_
    exact S_iret dJ9_min_7cf53_10
def DX4_reads_b114 (a3 : Int) (h : qH) : Option (Int × qH) := (if h.2.2.2.2 = true then (qbd (DX1_aim 16 h) fun r1 h2 => (if a3 = 0 ∨ a3 = 1 then some (a3, h2) else none)) else none)
set_option maxRecDepth 100000 in
theorem TX4_reads_b114 {L : Nat} {xs : Nat → Int32} (a3 : Int) (h : qH) : qS L xs cX4_reads "BottlePost$Reader" 5 113 4 114 [(0, qr 2), (3, qi a3)] [] h (DX4_reads_b114 a3 h) := by
  unfold DX4_reads_b114
  refine S_aload_n 0 dX4_reads_114 rfl rfl rfl ?_
  refine S_getc qC_4 tw_144 dX4_reads_115 rfl (fun _ => ?_)
  refine S_callV_0 (as := []) (st := []) (fun _ => rfl) (TX1_aim 16 qk_16 h) yv_X1_aim tw_710 qC_1 qk_16 (by decide) rfl rfl (Nat.le_of_ble_eq_true rfl) dX4_reads_118 rfl (fun r1 h2 e3 => ?_)
  refine S_iload_n 1 dX4_reads_121 rfl rfl rfl ?_
  exact S_zret dX4_reads_122
def DX4_reads_l69 : Nat → Int → Int → qH → Option (Int × qH)
  | 0, _, _, _ => none
  | n + 1, a3, a4, h => (if 900 ≤ a4 then (DX4_reads_b114 a3 h) else (if a3 = 0 then (DX4_reads_b114 a3 h) else (if h.1 2 6 = 0 then (DX4_reads_b114 a3 h) else (qbd (DX4_otherLine h) fun r4 h5 => (if r4 = 0 then ((DX4_reads_l69 n) 0 (qw (a4 + 1)) h5) else (qbd (DX4_lineEnds h5) fun r7 h8 => (if r7 = 0 then ((DX4_reads_l69 n) 0 (qw (a4 + 1)) h8) else ((DX4_reads_l69 n) 1 (qw (a4 + 1)) h8))))))))
set_option maxRecDepth 100000 in
theorem TX4_reads_l69 {L : Nat} {xs : Nat → Int32} : ∀ (n : Nat) (a3 : Int) (a4 : Int) (h : qH), qS L xs cX4_reads "BottlePost$Reader" 5 113 4 69 [(0, qr 2), (3, qi a3), (4, qi a4)] [] h (DX4_reads_l69 n a3 a4 h) := by
  intro n
  induction n with
  | zero =>
    intro a3 a4 h
    exact S_none
  | succ n ih =>
    intro a3 a4 h
    rw [DX4_reads_l69.eq_2]
    refine S_iload 2 dX4_reads_69 rfl rfl ?_
    refine S_sipush (a := 900) dX4_reads_71 rfl (by decide) (by decide) ?_
    refine S_icmp_ge (tgt := 114) dX4_reads_74 (by decide) rfl (fun _ => ?_) (fun _ => ?_)
    · refine S_sub [0, 1] rfl ?_
      exact TX4_reads_b114 a3 h
    · refine S_iload_n 1 dX4_reads_77 rfl rfl rfl ?_
      refine S_if_eq (tgt := 114) dX4_reads_78 (by decide) rfl (fun _ => ?_) (fun _ => ?_)
      · refine S_sub [0, 1] rfl ?_
        exact TX4_reads_b114 a3 h
      · refine S_aload_n 0 dX4_reads_81 rfl rfl rfl ?_
        refine S_geti 6 qC_4 (by decide) (by decide) qk_2 tw_153 dX4_reads_82 rfl ?_
        refine S_if_eq (tgt := 114) dX4_reads_85 (by decide) rfl (fun _ => ?_) (fun _ => ?_)
        · refine S_sub [0, 1] rfl ?_
          exact TX4_reads_b114 a3 h
        · refine S_aload_n 0 dX4_reads_88 rfl rfl rfl ?_
          refine S_callV_i (as := []) (st := []) (fun _ => rfl) (TX4_otherLine h) yv_X4_otherLine tw_596 qC_4 qk_2 (by decide) rfl rfl (Nat.le_of_ble_eq_true rfl) dX4_reads_89 rfl (fun r4 h5 e6 => ?_)
          refine S_if_eq (tgt := 106) dX4_reads_92 (by decide) rfl (fun _ => ?_) (fun _ => ?_)
          · refine S_iconst (a := 0) dX4_reads_106 rfl (by decide) ?_
            refine S_istore_n (lv' := [(3, qi 0), (0, qr 2), (4, qi a4)]) dX4_reads_107 rfl (by decide) rfl rfl ?_
            refine S_iinc (lv' := [(4, qi (qw (a4 + 1))), (3, qi 0), (0, qr 2)]) 2 dX4_reads_108 rfl (by decide) rfl rfl ?_
            refine S_goto (pc' := 69) dX4_reads_111 (by decide) ?_
            refine S_sub [2, 1, 0] rfl ?_
            exact ih 0 (qw (a4 + 1)) h5
          · refine S_aload_n 0 dX4_reads_95 rfl rfl rfl ?_
            refine S_callV_i (as := []) (st := []) (fun _ => rfl) (TX4_lineEnds h5) yv_X4_lineEnds tw_588 qC_4 qk_2 (by decide) rfl rfl (Nat.le_of_ble_eq_true rfl) dX4_reads_96 rfl (fun r7 h8 e9 => ?_)
            refine S_if_eq (tgt := 106) dX4_reads_99 (by decide) rfl (fun _ => ?_) (fun _ => ?_)
            · refine S_iconst (a := 0) dX4_reads_106 rfl (by decide) ?_
              refine S_istore_n (lv' := [(3, qi 0), (0, qr 2), (4, qi a4)]) dX4_reads_107 rfl (by decide) rfl rfl ?_
              refine S_iinc (lv' := [(4, qi (qw (a4 + 1))), (3, qi 0), (0, qr 2)]) 2 dX4_reads_108 rfl (by decide) rfl rfl ?_
              refine S_goto (pc' := 69) dX4_reads_111 (by decide) ?_
              refine S_sub [2, 1, 0] rfl ?_
              exact ih 0 (qw (a4 + 1)) h8
            · refine S_iconst (a := 1) dX4_reads_102 rfl (by decide) ?_
              refine S_goto (pc' := 107) dX4_reads_103 (by decide) ?_
              refine S_istore_n (lv' := [(3, qi 1), (0, qr 2), (4, qi a4)]) dX4_reads_107 rfl (by decide) rfl rfl ?_
              refine S_iinc (lv' := [(4, qi (qw (a4 + 1))), (3, qi 1), (0, qr 2)]) 2 dX4_reads_108 rfl (by decide) rfl rfl ?_
              refine S_goto (pc' := 69) dX4_reads_111 (by decide) ?_
              refine S_sub [2, 1, 0] rfl ?_
              exact ih 1 (qw (a4 + 1)) h8
def DX4_reads (a2 : Int) (h : qH) : Option (Int × qH) := (qlt (qsetT h) fun h10 => (qbd (DJ9_min_7cf53 a2 900 h10) fun r11 h12 => (qlt (qu h12 2 4 r11) fun h14 => (qlt (qsetC h14) fun h15 => (qlt (qu h15 2 1 0) fun h16 => (qlt (qu h16 2 2 (-1)) fun h17 => (qlt (qu h17 2 8 0) fun h18 => (qlt (qu h18 2 5 0) fun h19 => (if h19.2.2.2.2 = true then (qbd (DX1_clear 16 h19) fun r20 h21 => (qbd (DX4_advance h21) fun r23 h24 => (qbd (DX4_seaLine h24) fun r26 h27 => (if r26 = 0 then (DX4_reads_l69 LF 0 0 h27) else (qbd (DX4_lineEnds h27) fun r29 h30 => (if r29 = 0 then (DX4_reads_l69 LF 0 0 h30) else (DX4_reads_l69 LF 1 0 h30))))))) else none)))))))))
set_option maxRecDepth 100000 in
theorem TX4_reads {L : Nat} {xs : Nat → Int32} (a2 : Int) (h : qH) : qMet L xs yX4_reads cX4_reads 5 (some .boolean) 4 113 [qr 2, qr 1, qi a2] h (DX4_reads a2 h) := by
  refine qMet.of (by decide +kernel) (Or.inr (Or.inr (Or.inr (Or.inr (Or.inl ⟨rfl, rfl⟩))))) (Nat.le_of_ble_eq_true rfl) ?_
  show qS L xs cX4_reads "BottlePost$Reader" 5 113 4 0 [(0, qr 2), (1, qr 1), (2, qi a2)] [] h (DX4_reads a2 h)
  unfold DX4_reads
  refine S_aload_n 0 dX4_reads_0 rfl rfl rfl ?_
  refine S_aload_n 1 dX4_reads_1 rfl rfl rfl ?_
  refine S_putt qC_4 tw_150 dX4_reads_2 rfl ?_
  refine S_lh (fun h10 => ?_)
  refine S_aload_n 0 dX4_reads_5 rfl rfl rfl ?_
  refine S_iload_n 2 dX4_reads_6 rfl rfl rfl ?_
  refine S_aload_n 1 dX4_reads_7 rfl rfl rfl ?_
  refine S_alen (N := 900) qk_1 (by decide) (by decide) rfl (by decide) dX4_reads_8 rfl ?_
  refine S_callS_i (as := [qi a2, qi 900]) (st := [qr 2]) (fun _ => rfl) (TJ9_min_7cf53 a2 900 h10) yv_J9_min_7cf53 tw_446 (by decide) rfl rfl (Nat.le_of_ble_eq_true rfl) dX4_reads_9 rfl (fun r11 h12 e13 => ?_)
  refine S_puti 4 qC_4 (by decide) (by decide) rfl rfl qk_2 (by decide) tw_151 dX4_reads_12 rfl ?_
  refine S_lh (fun h14 => ?_)
  refine S_ghc ?_
  refine S_lh (fun h15 => ?_)
  refine S_aload_n 0 dX4_reads_15 rfl rfl rfl ?_
  refine S_iconst (a := 0) dX4_reads_16 rfl (by decide) ?_
  refine S_puti 1 qC_4 (by decide) (by decide) rfl rfl qk_2 (by decide) tw_146 dX4_reads_17 rfl ?_
  refine S_lh (fun h16 => ?_)
  refine S_aload_n 0 dX4_reads_20 rfl rfl rfl ?_
  refine S_iconst (a := (-1)) dX4_reads_21 rfl (by decide) ?_
  refine S_puti 2 qC_4 (by decide) (by decide) rfl rfl qk_2 (by decide) tw_148 dX4_reads_22 rfl ?_
  refine S_lh (fun h17 => ?_)
  refine S_aload_n 0 dX4_reads_25 rfl rfl rfl ?_
  refine S_iconst (a := 0) dX4_reads_26 rfl (by decide) ?_
  refine S_puti 8 qC_4 (by decide) (by decide) rfl rfl qk_2 (by decide) tw_155 dX4_reads_27 rfl ?_
  refine S_lh (fun h18 => ?_)
  refine S_aload_n 0 dX4_reads_30 rfl rfl rfl ?_
  refine S_iconst (a := 0) dX4_reads_31 rfl (by decide) ?_
  refine S_puti 5 qC_4 (by decide) (by decide) rfl rfl qk_2 (by decide) tw_152 dX4_reads_32 rfl ?_
  refine S_lh (fun h19 => ?_)
  refine S_aload_n 0 dX4_reads_35 rfl rfl rfl ?_
  refine S_getc qC_4 tw_144 dX4_reads_36 rfl (fun _ => ?_)
  refine S_callV_0 (as := []) (st := []) (fun _ => rfl) (TX1_clear 16 qk_16 h19) yv_X1_clear tw_449 qC_1 qk_16 (by decide) rfl rfl (Nat.le_of_ble_eq_true rfl) dX4_reads_39 rfl (fun r20 h21 e22 => ?_)
  refine S_aload_n 0 dX4_reads_42 rfl rfl rfl ?_
  refine S_callV_0 (as := []) (st := []) (fun _ => rfl) (TX4_advance h21) yv_X4_advance tw_456 qC_4 qk_2 (by decide) rfl rfl (Nat.le_of_ble_eq_true rfl) dX4_reads_43 rfl (fun r23 h24 e25 => ?_)
  refine S_aload_n 0 dX4_reads_46 rfl rfl rfl ?_
  refine S_callV_i (as := []) (st := []) (fun _ => rfl) (TX4_seaLine h24) yv_X4_seaLine tw_545 qC_4 qk_2 (by decide) rfl rfl (Nat.le_of_ble_eq_true rfl) dX4_reads_47 rfl (fun r26 h27 e28 => ?_)
  refine S_if_eq (tgt := 64) dX4_reads_50 (by decide) rfl (fun _ => ?_) (fun _ => ?_)
  · refine S_iconst (a := 0) dX4_reads_64 rfl (by decide) ?_
    refine S_istore_n (lv' := [(3, qi 0), (0, qr 2), (1, qr 1), (2, qi a2)]) dX4_reads_65 rfl (by decide) rfl rfl ?_
    refine S_iconst (a := 0) dX4_reads_66 rfl (by decide) ?_
    refine S_istore (lv' := [(4, qi 0), (3, qi 0), (0, qr 2), (1, qr 1), (2, qi a2)]) dX4_reads_67 (by decide) rfl rfl ?_
    refine S_sub [2, 1, 0] rfl ?_
    exact TX4_reads_l69 LF 0 0 h27
  · refine S_aload_n 0 dX4_reads_53 rfl rfl rfl ?_
    refine S_callV_i (as := []) (st := []) (fun _ => rfl) (TX4_lineEnds h27) yv_X4_lineEnds tw_588 qC_4 qk_2 (by decide) rfl rfl (Nat.le_of_ble_eq_true rfl) dX4_reads_54 rfl (fun r29 h30 e31 => ?_)
    refine S_if_eq (tgt := 64) dX4_reads_57 (by decide) rfl (fun _ => ?_) (fun _ => ?_)
    · refine S_iconst (a := 0) dX4_reads_64 rfl (by decide) ?_
      refine S_istore_n (lv' := [(3, qi 0), (0, qr 2), (1, qr 1), (2, qi a2)]) dX4_reads_65 rfl (by decide) rfl rfl ?_
      refine S_iconst (a := 0) dX4_reads_66 rfl (by decide) ?_
      refine S_istore (lv' := [(4, qi 0), (3, qi 0), (0, qr 2), (1, qr 1), (2, qi a2)]) dX4_reads_67 (by decide) rfl rfl ?_
      refine S_sub [2, 1, 0] rfl ?_
      exact TX4_reads_l69 LF 0 0 h30
    · refine S_iconst (a := 1) dX4_reads_60 rfl (by decide) ?_
      refine S_goto (pc' := 65) dX4_reads_61 (by decide) ?_
      refine S_istore_n (lv' := [(3, qi 1), (0, qr 2), (1, qr 1), (2, qi a2)]) dX4_reads_65 rfl (by decide) rfl rfl ?_
      refine S_iconst (a := 0) dX4_reads_66 rfl (by decide) ?_
      refine S_istore (lv' := [(4, qi 0), (3, qi 1), (0, qr 2), (1, qr 1), (2, qi a2)]) dX4_reads_67 (by decide) rfl rfl ?_
      refine S_sub [2, 1, 0] rfl ?_
      exact TX4_reads_l69 LF 1 0 h30
def DX7_clear (i0 : Nat) (h : qH) : Option (Int × qH) := (qlt (qu h i0 1 0) fun h1 => (qlt (qu h1 i0 2 0) fun h2 => some (0, h2)))
set_option maxRecDepth 100000 in
theorem TX7_clear {L : Nat} {xs : Nat → Int32} (i0 : Nat) (t0 : qK i0 = (7, 3)) (h : qH) : qMet L xs yX7_clear cX7_clear 1 (none) 0 1 [qr i0] h (DX7_clear i0 h) := by
  refine qMet.of (by decide +kernel) (Or.inl ⟨rfl, rfl⟩) (Nat.le_of_ble_eq_true rfl) ?_
  show qS L xs cX7_clear "BottlePost$Waters" 1 1 0 0 [(0, qr i0)] [] h (DX7_clear i0 h)
  unfold DX7_clear
  refine S_aload_n 0 dX7_clear_0 rfl rfl rfl ?_
  refine S_iconst (a := 0) dX7_clear_1 rfl (by decide) ?_
  refine S_puti 1 qC_7 (by decide) (by decide) rfl rfl t0 (by decide) tw_273 dX7_clear_2 rfl ?_
  refine S_lh (fun h1 => ?_)
  refine S_aload_n 0 dX7_clear_5 rfl rfl rfl ?_
  refine S_iconst (a := 0) dX7_clear_6 rfl (by decide) ?_
  refine S_puti 2 qC_7 (by decide) (by decide) rfl rfl t0 (by decide) tw_275 dX7_clear_7 rfl ?_
  refine S_lh (fun h2 => ?_)
  exact S_vret dX7_clear_10
def DX9_sea (a1 : Int) (h : qH) : Option (Int × qH) := (if a1 < 0 then some ((-3), h) else (if a1 ≤ h.1 0 1 then (qlt (qu h 0 1 0) fun h1 => (qbd (DX4_reads a1 h1) fun r2 h3 => (if ¬ r2 = 0 then (qbd (DX1_takeFrom 5 16 h3) fun r5 h6 => (qbd (DX7_clear 24 h6) fun r8 h9 => (qbd (DX9_becomeOther h9) fun r11 h12 => some (h12.1 5 16, h12)))) else some (qw ((-30) - h3.1 2 1), h3)))) else some ((-3), h)))
set_option maxRecDepth 100000 in
theorem TX9_sea {L : Nat} {xs : Nat → Int32} (a1 : Int) (h : qH) : qMet L xs yX9_sea cX9_sea 2 (some .int) 1 114 [qr 0, qi a1] h (DX9_sea a1 h) := by
  refine qMet.of (by decide +kernel) (Or.inr (Or.inl ⟨rfl, rfl⟩)) (Nat.le_of_ble_eq_true rfl) ?_
  show qS L xs cX9_sea "BottlePost" 2 114 1 0 [(0, qr 0), (1, qi a1)] [] h (DX9_sea a1 h)
  unfold DX9_sea
  refine S_iload_n 1 dX9_sea_0 rfl rfl rfl ?_
  refine S_if_lt (tgt := 12) dX9_sea_1 (by decide) rfl (fun _ => ?_) (fun _ => ?_)
  · refine S_bipush (a := (-3)) dX9_sea_12 rfl (by decide) (by decide) ?_
    exact S_iret dX9_sea_14
  · refine S_iload_n 1 dX9_sea_4 rfl rfl rfl ?_
    refine S_aload_n 0 dX9_sea_5 rfl rfl rfl ?_
    refine S_geti 1 qC_9 (by decide) (by decide) qk_0 tw_382 dX9_sea_6 rfl ?_
    refine S_icmp_le (tgt := 15) dX9_sea_9 (by decide) rfl (fun _ => ?_) (fun _ => ?_)
    · refine S_aload_n 0 dX9_sea_15 rfl rfl rfl ?_
      refine S_iconst (a := 0) dX9_sea_16 rfl (by decide) ?_
      refine S_puti 1 qC_9 (by decide) (by decide) rfl rfl qk_0 (by decide) tw_382 dX9_sea_17 rfl ?_
      refine S_lh (fun h1 => ?_)
      refine S_aload_n 0 dX9_sea_20 rfl rfl rfl ?_
      refine S_getr (j := 2) (o := 2) 2 qC_9 (by decide) (by decide) qk_0 rfl rfl (by decide) tw_383 dX9_sea_21 rfl ?_
      refine S_aload_n 0 dX9_sea_24 rfl rfl rfl ?_
      refine S_getr (j := 1) (o := 1) 0 qC_9 (by decide) (by decide) qk_0 rfl rfl (by decide) tw_381 dX9_sea_25 rfl ?_
      refine S_iload_n 1 dX9_sea_28 rfl rfl rfl ?_
      refine S_callV_i (as := [qr 1, qi a1]) (st := []) (fun _ => rfl) (TX4_reads a1 h1) yv_X4_reads tw_442 qC_4 qk_2 (by decide) rfl rfl (Nat.le_of_ble_eq_true rfl) dX9_sea_29 rfl (fun r2 h3 e4 => ?_)
      refine S_if_ne (tgt := 46) dX9_sea_32 (by decide) rfl (fun _ => ?_) (fun _ => ?_)
      · refine S_aload_n 0 dX9_sea_46 rfl rfl rfl ?_
        refine S_getr (j := 5) (o := 5) 4 qC_9 (by decide) (by decide) qk_0 rfl rfl (by decide) tw_385 dX9_sea_47 rfl ?_
        refine S_aload_n 0 dX9_sea_50 rfl rfl rfl ?_
        refine S_getr (j := 2) (o := 2) 2 qC_9 (by decide) (by decide) qk_0 rfl rfl (by decide) tw_383 dX9_sea_51 rfl ?_
        refine S_getr (j := 16) (o := 14) 0 qC_4 (by decide) (by decide) qk_2 rfl rfl (by decide) tw_145 dX9_sea_54 rfl ?_
        refine S_callV_0 (as := [qr 16]) (st := []) (fun _ => rfl) (TX1_takeFrom 5 16 qk_5 qk_16 h3) yv_X1_takeFrom tw_719 qC_1 qk_5 (by decide) rfl rfl (Nat.le_of_ble_eq_true rfl) dX9_sea_57 rfl (fun r5 h6 e7 => ?_)
        refine S_aload_n 0 dX9_sea_60 rfl rfl rfl ?_
        refine S_getr (j := 24) (o := 24) 5 qC_9 (by decide) (by decide) qk_0 rfl rfl (by decide) tw_386 dX9_sea_61 rfl ?_
        refine S_callV_0 (as := []) (st := []) (fun _ => rfl) (TX7_clear 24 qk_24 h6) yv_X7_clear tw_726 qC_7 qk_24 (by decide) rfl rfl (Nat.le_of_ble_eq_true rfl) dX9_sea_64 rfl (fun r8 h9 e10 => ?_)
        refine S_aload_n 0 dX9_sea_67 rfl rfl rfl ?_
        refine S_callV_0 (as := []) (st := []) (fun _ => rfl) (TX9_becomeOther h9) yv_X9_becomeOther tw_730 qC_9 qk_0 (by decide) rfl rfl (Nat.le_of_ble_eq_true rfl) dX9_sea_68 rfl (fun r11 h12 e13 => ?_)
        refine S_aload_n 0 dX9_sea_71 rfl rfl rfl ?_
        refine S_getr (j := 5) (o := 5) 4 qC_9 (by decide) (by decide) qk_0 rfl rfl (by decide) tw_385 dX9_sea_72 rfl ?_
        refine S_geti 16 qC_1 (by decide) (by decide) qk_5 tw_92 dX9_sea_75 rfl ?_
        exact S_iret dX9_sea_78
      · refine S_bipush (a := (-30)) dX9_sea_35 rfl (by decide) (by decide) ?_
        refine S_aload_n 0 dX9_sea_37 rfl rfl rfl ?_
        refine S_getr (j := 2) (o := 2) 2 qC_9 (by decide) (by decide) qk_0 rfl rfl (by decide) tw_383 dX9_sea_38 rfl ?_
        refine S_geti 1 qC_4 (by decide) (by decide) qk_2 tw_147 dX9_sea_41 rfl ?_
        refine S_isub dX9_sea_44 rfl ?_
        exact S_iret dX9_sea_45
    · refine S_bipush (a := (-3)) dX9_sea_12 rfl (by decide) (by decide) ?_
      exact S_iret dX9_sea_14
def DX9_stir (a0 : Int) (h : qH) : Option (Int × qH) := some (qw (qw (1103515245 * a0) + 12345), h)
set_option maxRecDepth 100000 in
theorem TX9_stir {L : Nat} {xs : Nat → Int32} (a0 : Int) (h : qH) : qMet L xs yX9_stir cX9_stir 1 (some .int) 1 1 [qi a0] h (DX9_stir a0 h) := by
  refine qMet.of (by decide +kernel) (Or.inr (Or.inl ⟨rfl, rfl⟩)) (Nat.le_of_ble_eq_true rfl) ?_
  show qS L xs cX9_stir "BottlePost" 1 1 1 0 [(0, qi a0)] [] h (DX9_stir a0 h)
  unfold DX9_stir
  refine S_ldcw (a := 1103515245) dX9_stir_0 rfl (by rw [show Int32.ofInt 1103515245 = (1103515245 : Int32) from by decide]; exact tw_980) (by decide) ?_
  refine S_iload_n 0 dX9_stir_3 rfl rfl rfl ?_
  refine S_imul dX9_stir_4 rfl ?_
  refine S_sipush (a := 12345) dX9_stir_5 rfl (by decide) (by decide) ?_
  refine S_iadd dX9_stir_8 rfl ?_
  exact S_iret dX9_stir_9
def DX9_throwDeed (a0 : Int) (a1 : Int) (a2 : Int) (h : qH) : Option (Int × qH) := (if ¬ a0 = a1 then some (qw (qw (qw (100 * a0) + qw (10 * a1)) + a2), h) else some (qw (qw (qw (100 * a0) + qw (10 * 9)) + a2), h))
set_option maxRecDepth 100000 in
theorem TX9_throwDeed {L : Nat} {xs : Nat → Int32} (a0 : Int) (a1 : Int) (a2 : Int) (h : qH) : qMet L xs yX9_throwDeed cX9_throwDeed 3 (some .int) 1 1 [qi a0, qi a1, qi a2] h (DX9_throwDeed a0 a1 a2 h) := by
  refine qMet.of (by decide +kernel) (Or.inr (Or.inl ⟨rfl, rfl⟩)) (Nat.le_of_ble_eq_true rfl) ?_
  show qS L xs cX9_throwDeed "BottlePost" 3 1 1 0 [(0, qi a0), (1, qi a1), (2, qi a2)] [] h (DX9_throwDeed a0 a1 a2 h)
  unfold DX9_throwDeed
  refine S_bipush (a := 100) dX9_throwDeed_0 rfl (by decide) (by decide) ?_
  refine S_iload_n 0 dX9_throwDeed_2 rfl rfl rfl ?_
  refine S_imul dX9_throwDeed_3 rfl ?_
  refine S_bipush (a := 10) dX9_throwDeed_4 rfl (by decide) (by decide) ?_
  refine S_iload_n 0 dX9_throwDeed_6 rfl rfl rfl ?_
  refine S_iload_n 1 dX9_throwDeed_7 rfl rfl rfl ?_
  refine S_icmp_ne (tgt := 16) dX9_throwDeed_8 (by decide) rfl (fun _ => ?_) (fun _ => ?_)
  · refine S_iload_n 1 dX9_throwDeed_16 rfl rfl rfl ?_
    refine S_imul dX9_throwDeed_17 rfl ?_
    refine S_iadd dX9_throwDeed_18 rfl ?_
    refine S_iload_n 2 dX9_throwDeed_19 rfl rfl rfl ?_
    refine S_iadd dX9_throwDeed_20 rfl ?_
    exact S_iret dX9_throwDeed_21
  · refine S_bipush (a := 9) dX9_throwDeed_11 rfl (by decide) (by decide) ?_
    refine S_goto (pc' := 17) dX9_throwDeed_13 (by decide) ?_
    refine S_imul dX9_throwDeed_17 rfl ?_
    refine S_iadd dX9_throwDeed_18 rfl ?_
    refine S_iload_n 2 dX9_throwDeed_19 rfl rfl rfl ?_
    refine S_iadd dX9_throwDeed_20 rfl ?_
    exact S_iret dX9_throwDeed_21
def DX9_season_b166 (k46 : Int → Int → Int → Int → qH → Option (Int × qH)) (a2 : Int) (a3 : Int) (a4 : Int) (a5 : Int) (a6 : Int) (h : qH) : Option (Int × qH) := (qbd (DX9_whyNotDone 24 a6 h) fun r1 h2 => (if ¬ r1 = 0 then (k46 a2 a3 a4 (qw (a5 + 1)) h2) else (qbd (DX9_doOne 24 a6 h2) fun r4 h5 => (qlt (qw (a3 + 1)) fun v7 => (k46 a2 v7 a4 (qw (a5 + 1)) h5)))))
set_option maxRecDepth 100000 in
theorem TX9_season_b166 {L : Nat} {xs : Nat → Int32} (k46 : Int → Int → Int → Int → qH → Option (Int × qH)) (hk46 : ∀ (a2 : Int) (a3 : Int) (a4 : Int) (a5 : Int) (h : qH), qS L xs cX9_season "BottlePost" 10 8 1 46 [(0, qr 0), (2, qi a2), (3, qi a3), (4, qi a4), (5, qi a5)] [] h (k46 a2 a3 a4 a5 h)) (a2 : Int) (a3 : Int) (a4 : Int) (a5 : Int) (a6 : Int) (h : qH) : qS L xs cX9_season "BottlePost" 10 8 1 166 [(0, qr 0), (2, qi a2), (3, qi a3), (4, qi a4), (5, qi a5), (6, qi a6)] [] h (DX9_season_b166 k46 a2 a3 a4 a5 a6 h) := by
  unfold DX9_season_b166
  refine S_aload_n 0 dX9_season_166 rfl rfl rfl ?_
  refine S_aload_n 0 dX9_season_167 rfl rfl rfl ?_
  refine S_getr (j := 24) (o := 24) 5 qC_9 (by decide) (by decide) qk_0 rfl rfl (by decide) tw_386 dX9_season_168 rfl ?_
  refine S_iload 5 dX9_season_171 rfl rfl ?_
  refine S_i2l dX9_season_173 rfl ?_
  refine S_callV_i (as := [qr 24, ql a6]) (st := []) (fun _ => rfl) (TX9_whyNotDone 24 a6 qk_24 h) yv_X9_whyNotDone tw_956 qC_9 qk_0 (by decide) rfl rfl (Nat.le_of_ble_eq_true rfl) dX9_season_174 rfl (fun r1 h2 e3 => ?_)
  refine S_if_ne (tgt := 193) dX9_season_177 (by decide) rfl (fun _ => ?_) (fun _ => ?_)
  · refine S_iinc (lv' := [(5, qi (qw (a5 + 1))), (0, qr 0), (2, qi a2), (3, qi a3), (4, qi a4), (6, qi a6)]) 4 dX9_season_193 rfl (by decide) rfl rfl ?_
    refine S_goto (pc' := 46) dX9_season_196 (by decide) ?_
    refine S_sub [1, 2, 3, 4, 0] rfl ?_
    exact hk46 a2 a3 a4 (qw (a5 + 1)) h2
  · refine S_aload_n 0 dX9_season_180 rfl rfl rfl ?_
    refine S_aload_n 0 dX9_season_181 rfl rfl rfl ?_
    refine S_getr (j := 24) (o := 24) 5 qC_9 (by decide) (by decide) qk_0 rfl rfl (by decide) tw_386 dX9_season_182 rfl ?_
    refine S_iload 5 dX9_season_185 rfl rfl ?_
    refine S_callV_0 (as := [qr 24, qi a6]) (st := []) (fun _ => rfl) (TX9_doOne 24 a6 qk_24 h2) yv_X9_doOne tw_965 qC_9 qk_0 (by decide) rfl rfl (Nat.le_of_ble_eq_true rfl) dX9_season_187 rfl (fun r4 h5 e6 => ?_)
    refine S_iinc (lv' := [(3, qi (qw (a3 + 1))), (0, qr 0), (2, qi a2), (4, qi a4), (5, qi a5), (6, qi a6)]) 2 dX9_season_190 rfl (by decide) rfl rfl ?_
    refine S_li (fun v7 => ?_)
    refine S_iinc (lv' := [(5, qi (qw (a5 + 1))), (3, qi v7), (0, qr 0), (2, qi a2), (4, qi a4), (6, qi a6)]) 4 dX9_season_193 rfl (by decide) rfl rfl ?_
    refine S_goto (pc' := 46) dX9_season_196 (by decide) ?_
    refine S_sub [2, 3, 1, 4, 0] rfl ?_
    exact hk46 a2 v7 a4 (qw (a5 + 1)) h5
def DX9_season_l46 : Nat → Int → Int → Int → Int → qH → Option (Int × qH)
  | 0, _, _, _, _, _ => none
  | n + 1, a2, a3, a4, a5, h => (if a2 ≤ a5 then (if a3 ≤ 0 then some (a3, h) else (qbd (DX3_commit h) fun r8 h9 => some (a3, h9))) else (qbd (DX9_stir a4 h) fun r11 h12 => (qbd (DX9_drawn r11 h12) fun r14 h15 => (qlt (qrem r14 4) fun v17 => (if ¬ v17 = 2 then (if ¬ v17 = 3 then (DX9_season_b166 (DX9_season_l46 n) a2 a3 r11 a5 (-1) h15) else (qbd (DX9_stir r11 h15) fun r18 h19 => (qbd (DX9_drawn r18 h19) fun r21 h22 => (DX9_season_b166 (DX9_season_l46 n) a2 a3 r18 a5 (qw (1000 + qrem r21 8)) h22)))) else (qbd (DX9_stir r11 h15) fun r24 h25 => (qbd (DX9_stir r24 h25) fun r27 h28 => (qbd (DX9_stir r27 h28) fun r30 h31 => (qbd (DX9_drawn r24 h31) fun r33 h34 => (if h34.1 5 14 = 0 then none else (qbd (DX9_drawn r27 h34) fun r36 h37 => (if h37.1 5 14 = 0 then none else (qbd (DX9_drawn r30 h37) fun r39 h40 => (qbd (DX9_throwDeed (qrem r33 (h34.1 5 14)) (qrem r36 (h37.1 5 14)) (qrem r39 2) h40) fun r42 h43 => (DX9_season_b166 (DX9_season_l46 n) a2 a3 r30 a5 r42 h43)))))))))))))))
set_option maxRecDepth 100000 in
theorem TX9_season_l46 {L : Nat} {xs : Nat → Int32} : ∀ (n : Nat) (a2 : Int) (a3 : Int) (a4 : Int) (a5 : Int) (h : qH), qS L xs cX9_season "BottlePost" 10 8 1 46 [(0, qr 0), (2, qi a2), (3, qi a3), (4, qi a4), (5, qi a5)] [] h (DX9_season_l46 n a2 a3 a4 a5 h) := by
  intro n
  induction n with
  | zero =>
    intro a2 a3 a4 a5 h
    exact S_none
  | succ n ih =>
    intro a2 a3 a4 a5 h
    rw [DX9_season_l46.eq_2]
    refine S_iload 4 dX9_season_46 rfl rfl ?_
    refine S_iload_n 1 dX9_season_48 rfl rfl rfl ?_
    refine S_icmp_ge (tgt := 199) dX9_season_49 (by decide) rfl (fun _ => ?_) (fun _ => ?_)
    · refine S_iload_n 2 dX9_season_199 rfl rfl rfl ?_
      refine S_if_le (tgt := 210) dX9_season_200 (by decide) rfl (fun _ => ?_) (fun _ => ?_)
      · refine S_iload_n 2 dX9_season_210 rfl rfl rfl ?_
        exact S_iret dX9_season_211
      · refine S_aload_n 0 dX9_season_203 rfl rfl rfl ?_
        refine S_getr (j := 44) (o := 44) 7 qC_9 (by decide) (by decide) qk_0 rfl rfl (by decide) tw_388 dX9_season_204 rfl ?_
        refine S_callV_0 (as := []) (st := []) (fun _ => rfl) (TX3_commit h) yv_X3_commit tw_853 qC_3 qk_44 (by decide) rfl rfl (Nat.le_of_ble_eq_true rfl) dX9_season_207 rfl (fun r8 h9 e10 => ?_)
        refine S_iload_n 2 dX9_season_210 rfl rfl rfl ?_
        exact S_iret dX9_season_211
    · refine S_iload 3 dX9_season_52 rfl rfl ?_
      refine S_callS_i (as := [qi a4]) (st := []) (fun _ => rfl) (TX9_stir a4 h) yv_X9_stir tw_977 (by decide) rfl rfl (Nat.le_of_ble_eq_true rfl) dX9_season_54 rfl (fun r11 h12 e13 => ?_)
      refine S_istore (lv' := [(4, qi r11), (0, qr 0), (2, qi a2), (3, qi a3), (5, qi a5)]) dX9_season_57 (by decide) rfl rfl ?_
      refine S_iconst (a := (-1)) dX9_season_59 rfl (by decide) ?_
      refine S_istore (lv' := [(6, qi (-1)), (4, qi r11), (0, qr 0), (2, qi a2), (3, qi a3), (5, qi a5)]) dX9_season_60 (by decide) rfl rfl ?_
      refine S_iload 1 dX9_season_62 rfl rfl ?_
      refine S_callS_i (as := [qi r11]) (st := []) (fun _ => rfl) (TX9_drawn r11 h12) yv_X9_drawn tw_981 (by decide) rfl rfl (Nat.le_of_ble_eq_true rfl) dX9_season_64 rfl (fun r14 h15 e16 => ?_)
      refine S_iconst (a := 4) dX9_season_67 rfl (by decide) ?_
      refine S_irem dX9_season_68 rfl (by decide) ?_
      refine S_istore (lv' := [(7, qi (qrem r14 4)), (6, qi (-1)), (4, qi r11), (0, qr 0), (2, qi a2), (3, qi a3), (5, qi a5)]) dX9_season_69 (by decide) rfl rfl ?_
      refine S_li (fun v17 => ?_)
      refine S_iload 0 dX9_season_71 rfl rfl ?_
      refine S_iconst (a := 2) dX9_season_73 rfl (by decide) ?_
      refine S_icmp_ne (tgt := 139) dX9_season_74 (by decide) rfl (fun _ => ?_) (fun _ => ?_)
      · refine S_iload 0 dX9_season_139 rfl rfl ?_
        refine S_iconst (a := 3) dX9_season_141 rfl (by decide) ?_
        refine S_icmp_ne (tgt := 166) dX9_season_142 (by decide) rfl (fun _ => ?_) (fun _ => ?_)
        · refine S_sub [3, 4, 5, 2, 6, 1] rfl ?_
          exact TX9_season_b166 (DX9_season_l46 n) ih a2 a3 r11 a5 (-1) h15
        · refine S_iload 2 dX9_season_145 rfl rfl ?_
          refine S_callS_i (as := [qi r11]) (st := []) (fun _ => rfl) (TX9_stir r11 h15) yv_X9_stir tw_977 (by decide) rfl rfl (Nat.le_of_ble_eq_true rfl) dX9_season_147 rfl (fun r18 h19 e20 => ?_)
          refine S_istore (lv' := [(4, qi r18), (7, qi v17), (6, qi (-1)), (0, qr 0), (2, qi a2), (3, qi a3), (5, qi a5)]) dX9_season_150 (by decide) rfl rfl ?_
          refine S_sipush (a := 1000) dX9_season_152 rfl (by decide) (by decide) ?_
          refine S_iload 0 dX9_season_155 rfl rfl ?_
          refine S_callS_i (as := [qi r18]) (st := [qi 1000]) (fun _ => rfl) (TX9_drawn r18 h19) yv_X9_drawn tw_981 (by decide) rfl rfl (Nat.le_of_ble_eq_true rfl) dX9_season_157 rfl (fun r21 h22 e23 => ?_)
          refine S_bipush (a := 8) dX9_season_160 rfl (by decide) (by decide) ?_
          refine S_irem dX9_season_162 rfl (by decide) ?_
          refine S_iadd dX9_season_163 rfl ?_
          refine S_istore (lv' := [(6, qi (qw (1000 + qrem r21 8))), (4, qi r18), (7, qi v17), (0, qr 0), (2, qi a2), (3, qi a3), (5, qi a5)]) dX9_season_164 (by decide) rfl rfl ?_
          refine S_sub [3, 4, 5, 1, 6, 0] rfl ?_
          exact TX9_season_b166 (DX9_season_l46 n) ih a2 a3 r18 a5 (qw (1000 + qrem r21 8)) h22
      · refine S_iload 2 dX9_season_77 rfl rfl ?_
        refine S_callS_i (as := [qi r11]) (st := []) (fun _ => rfl) (TX9_stir r11 h15) yv_X9_stir tw_977 (by decide) rfl rfl (Nat.le_of_ble_eq_true rfl) dX9_season_79 rfl (fun r24 h25 e26 => ?_)
        refine S_istore (lv' := [(8, qi r24), (7, qi v17), (6, qi (-1)), (4, qi r11), (0, qr 0), (2, qi a2), (3, qi a3), (5, qi a5)]) dX9_season_82 (by decide) rfl rfl ?_
        refine S_iload 0 dX9_season_84 rfl rfl ?_
        refine S_callS_i (as := [qi r24]) (st := []) (fun _ => rfl) (TX9_stir r24 h25) yv_X9_stir tw_977 (by decide) rfl rfl (Nat.le_of_ble_eq_true rfl) dX9_season_86 rfl (fun r27 h28 e29 => ?_)
        refine S_istore (lv' := [(9, qi r27), (8, qi r24), (7, qi v17), (6, qi (-1)), (4, qi r11), (0, qr 0), (2, qi a2), (3, qi a3), (5, qi a5)]) dX9_season_89 (by decide) rfl rfl ?_
        refine S_iload 0 dX9_season_91 rfl rfl ?_
        refine S_callS_i (as := [qi r27]) (st := []) (fun _ => rfl) (TX9_stir r27 h28) yv_X9_stir tw_977 (by decide) rfl rfl (Nat.le_of_ble_eq_true rfl) dX9_season_93 rfl (fun r30 h31 e32 => ?_)
        refine S_istore (lv' := [(4, qi r30), (9, qi r27), (8, qi r24), (7, qi v17), (6, qi (-1)), (0, qr 0), (2, qi a2), (3, qi a3), (5, qi a5)]) dX9_season_96 (by decide) rfl rfl ?_
        refine S_iload 2 dX9_season_98 rfl rfl ?_
        refine S_callS_i (as := [qi r24]) (st := []) (fun _ => rfl) (TX9_drawn r24 h31) yv_X9_drawn tw_981 (by decide) rfl rfl (Nat.le_of_ble_eq_true rfl) dX9_season_100 rfl (fun r33 h34 e35 => ?_)
        refine S_aload_n 5 dX9_season_103 rfl rfl rfl ?_
        refine S_getr (j := 5) (o := 5) 4 qC_9 (by decide) (by decide) qk_0 rfl rfl (by decide) tw_385 dX9_season_104 rfl ?_
        refine S_geti 14 qC_1 (by decide) (by decide) qk_5 tw_87 dX9_season_107 rfl ?_
        refine S_ite (fun _ => S_none) (fun gz => ?_)
        refine S_irem dX9_season_110 rfl gz ?_
        refine S_iload 1 dX9_season_111 rfl rfl ?_
        refine S_callS_i (as := [qi r27]) (st := [qi (qrem r33 (h34.1 5 14))]) (fun _ => rfl) (TX9_drawn r27 h34) yv_X9_drawn tw_981 (by decide) rfl rfl (Nat.le_of_ble_eq_true rfl) dX9_season_113 rfl (fun r36 h37 e38 => ?_)
        refine S_aload_n 5 dX9_season_116 rfl rfl rfl ?_
        refine S_getr (j := 5) (o := 5) 4 qC_9 (by decide) (by decide) qk_0 rfl rfl (by decide) tw_385 dX9_season_117 rfl ?_
        refine S_geti 14 qC_1 (by decide) (by decide) qk_5 tw_87 dX9_season_120 rfl ?_
        refine S_ite (fun _ => S_none) (fun gz => ?_)
        refine S_irem dX9_season_123 rfl gz ?_
        refine S_iload 0 dX9_season_124 rfl rfl ?_
        refine S_callS_i (as := [qi r30]) (st := [qi (qrem r36 (h37.1 5 14)), qi (qrem r33 (h34.1 5 14))]) (fun _ => rfl) (TX9_drawn r30 h37) yv_X9_drawn tw_981 (by decide) rfl rfl (Nat.le_of_ble_eq_true rfl) dX9_season_126 rfl (fun r39 h40 e41 => ?_)
        refine S_iconst (a := 2) dX9_season_129 rfl (by decide) ?_
        refine S_irem dX9_season_130 rfl (by decide) ?_
        refine S_callS_i (as := [qi (qrem r33 (h34.1 5 14)), qi (qrem r36 (h37.1 5 14)), qi (qrem r39 2)]) (st := []) (fun _ => rfl) (TX9_throwDeed (qrem r33 (h34.1 5 14)) (qrem r36 (h37.1 5 14)) (qrem r39 2) h40) yv_X9_throwDeed tw_984 (by decide) rfl rfl (Nat.le_of_ble_eq_true rfl) dX9_season_131 rfl (fun r42 h43 e44 => ?_)
        refine S_istore (lv' := [(6, qi r42), (4, qi r30), (9, qi r27), (8, qi r24), (7, qi v17), (0, qr 0), (2, qi a2), (3, qi a3), (5, qi a5)]) dX9_season_134 (by decide) rfl rfl ?_
        refine S_goto (pc' := 166) dX9_season_136 (by decide) ?_
        refine S_sub [5, 6, 7, 1, 8, 0] rfl ?_
        exact TX9_season_b166 (DX9_season_l46 n) ih a2 a3 r30 a5 r42 h43
def DX9_season (a1 : Int) (a2 : Int) (h : qH) : Option (Int × qH) := (if a2 < 1 then some ((-3), h) else (if a2 ≤ 40 then (if 0 < h.1 5 14 then (qbd (DX3_draft 24 h) fun r45 h46 => (DX9_season_l46 LF a2 0 a1 0 h46)) else some ((-5), h)) else some ((-3), h)))
set_option maxRecDepth 100000 in
theorem TX9_season {L : Nat} {xs : Nat → Int32} (a1 : Int) (a2 : Int) (h : qH) : qMet L xs yX9_season cX9_season 10 (some .int) 1 8 [qr 0, qi a1, qi a2] h (DX9_season a1 a2 h) := by
  refine qMet.of (by decide +kernel) (Or.inr (Or.inl ⟨rfl, rfl⟩)) (Nat.le_of_ble_eq_true rfl) ?_
  show qS L xs cX9_season "BottlePost" 10 8 1 0 [(0, qr 0), (1, qi a1), (2, qi a2)] [] h (DX9_season a1 a2 h)
  unfold DX9_season
  refine S_iload_n 2 dX9_season_0 rfl rfl rfl ?_
  refine S_iconst (a := 1) dX9_season_1 rfl (by decide) ?_
  refine S_icmp_lt (tgt := 11) dX9_season_2 (by decide) rfl (fun _ => ?_) (fun _ => ?_)
  · refine S_bipush (a := (-3)) dX9_season_11 rfl (by decide) (by decide) ?_
    exact S_iret dX9_season_13
  · refine S_iload_n 2 dX9_season_5 rfl rfl rfl ?_
    refine S_bipush (a := 40) dX9_season_6 rfl (by decide) (by decide) ?_
    refine S_icmp_le (tgt := 14) dX9_season_8 (by decide) rfl (fun _ => ?_) (fun _ => ?_)
    · refine S_aload_n 0 dX9_season_14 rfl rfl rfl ?_
      refine S_getr (j := 5) (o := 5) 4 qC_9 (by decide) (by decide) qk_0 rfl rfl (by decide) tw_385 dX9_season_15 rfl ?_
      refine S_geti 14 qC_1 (by decide) (by decide) qk_5 tw_87 dX9_season_18 rfl ?_
      refine S_if_gt (tgt := 27) dX9_season_21 (by decide) rfl (fun _ => ?_) (fun _ => ?_)
      · refine S_aload_n 0 dX9_season_27 rfl rfl rfl ?_
        refine S_getr (j := 44) (o := 44) 7 qC_9 (by decide) (by decide) qk_0 rfl rfl (by decide) tw_388 dX9_season_28 rfl ?_
        refine S_aload_n 0 dX9_season_31 rfl rfl rfl ?_
        refine S_getr (j := 24) (o := 24) 5 qC_9 (by decide) (by decide) qk_0 rfl rfl (by decide) tw_386 dX9_season_32 rfl ?_
        refine S_callV_0 (as := [qr 24]) (st := []) (fun _ => rfl) (TX3_draft 24 qk_24 h) yv_X3_draft tw_836 qC_3 qk_44 (by decide) rfl rfl (Nat.le_of_ble_eq_true rfl) dX9_season_35 rfl (fun r45 h46 e47 => ?_)
        refine S_iconst (a := 0) dX9_season_38 rfl (by decide) ?_
        refine S_istore_n (lv' := [(3, qi 0), (0, qr 0), (1, qi a1), (2, qi a2)]) dX9_season_39 rfl (by decide) rfl rfl ?_
        refine S_iload_n 2 dX9_season_40 rfl rfl rfl ?_
        refine S_istore (lv' := [(4, qi a1), (3, qi 0), (0, qr 0), (1, qi a1), (2, qi a2)]) dX9_season_41 (by decide) rfl rfl ?_
        refine S_iconst (a := 0) dX9_season_43 rfl (by decide) ?_
        refine S_istore (lv' := [(5, qi 0), (4, qi a1), (3, qi 0), (0, qr 0), (1, qi a1), (2, qi a2)]) dX9_season_44 (by decide) rfl rfl ?_
        refine S_sub [3, 5, 2, 1, 0] rfl ?_
        exact TX9_season_l46 LF a2 0 a1 0 h46
      · refine S_bipush (a := (-5)) dX9_season_24 rfl (by decide) (by decide) ?_
        exact S_iret dX9_season_26
    · refine S_bipush (a := (-3)) dX9_season_11 rfl (by decide) (by decide) ?_
      exact S_iret dX9_season_13
