def DX10_eats (a1 : Int) (h : qH) : Option (Int × qH) := (qbd (DX10_is a1 h) fun r1 h2 => (if ¬ r1 = 0 then (qbd (DX10_next h2) fun r4 h5 => some (1, h5)) else some (0, h2)))
set_option maxRecDepth 100000 in
theorem TX10_eats {L : Nat} {xs : Nat → Int32} (a1 : Int) (h : qH) : qMet L xs yX10_eats cX10_eats 2 (some .boolean) 4 8 [qr 212, qi a1] h (DX10_eats a1 h) := by
  refine qMet.of (by decide +kernel) (Or.inr (Or.inr (Or.inr (Or.inr (Or.inl ⟨rfl, rfl⟩))))) (Nat.le_of_ble_eq_true rfl) ?_
  show qS L xs cX10_eats "BottlePostModel" 2 8 4 0 [(0, qr 212), (1, qi a1)] [] h (DX10_eats a1 h)
  unfold DX10_eats
  refine S_aload_n 0 dX10_eats_0 rfl rfl rfl ?_
  refine S_iload_n 1 dX10_eats_1 rfl rfl rfl ?_
  refine S_callV_i (as := [qi a1]) (st := []) (fun _ => rfl) (TX10_is a1 h) yv_X10_is tw_1381 qC_10 qk_212 (by decide) rfl rfl (Nat.le_of_ble_eq_true rfl) dX10_eats_2 rfl (fun r1 h2 e3 => ?_)
  refine S_if_ne (tgt := 10) dX10_eats_5 (by decide) rfl (fun _ => ?_) (fun _ => ?_)
  · refine S_aload_n 0 dX10_eats_10 rfl rfl rfl ?_
    refine S_callV_0 (as := []) (st := []) (fun _ => rfl) (TX10_next h2) yv_X10_next tw_1355 qC_10 qk_212 (by decide) rfl rfl (Nat.le_of_ble_eq_true rfl) dX10_eats_11 rfl (fun r4 h5 e6 => ?_)
    refine S_iconst (a := 1) dX10_eats_14 rfl (by decide) ?_
    exact S_zretl (by decide) dX10_eats_15
  · refine S_iconst (a := 0) dX10_eats_8 rfl (by decide) ?_
    exact S_zretl (by decide) dX10_eats_9
def DX10_eddy_l38 : Nat → Int → Int → qH → Option (Int × qH)
  | 0, _, _, _ => none
  | n + 1, a1, a3, h => (if 200 < a3 then some ((-1), h) else (qbd (DX10_goesTide (qw (qw (h.1 213 349 + a3) - 1)) 1 h) fun r3 h4 => (if h4.1 217 0 = 0 then (if ¬ h4.1 217 1 = a1 then ((DX10_eddy_l38 n) a1 (qw (a3 + 1)) h4) else (qbd (DX10_phaseOf (qw (h4.1 213 349 + a3)) h4) fun r12 h13 => (qbd (DX10_phaseOf (h13.1 213 349) h13) fun r17 h18 => (if ¬ r12 = r17 then ((DX10_eddy_l38 n) a1 (qw (a3 + 1)) h18) else (qbd (DX10_moonOf (qw (h18.1 213 349 + a3)) h18) fun r22 h23 => (qbd (DX10_moonOf (h23.1 213 349) h23) fun r27 h28 => (if ¬ r22 = r27 then ((DX10_eddy_l38 n) a1 (qw (a3 + 1)) h28) else some (a3, h28)))))))) else some ((-1), h4))))
set_option maxRecDepth 100000 in
theorem TX10_eddy_l38 {L : Nat} {xs : Nat → Int32} : ∀ (n : Nat) (a1 : Int) (a3 : Int) (h : qH), qS L xs cX10_eddy "BottlePostModel" 4 7 1 38 [(0, qr 212), (1, qi a1), (3, qi a3)] [] h (DX10_eddy_l38 n a1 a3 h) := by
  intro n
  induction n with
  | zero =>
    intro a1 a3 h
    exact S_none
  | succ n ih =>
    intro a1 a3 h
    rw [DX10_eddy_l38.eq_2]
    refine S_iload_n 2 dX10_eddy_38 rfl rfl rfl ?_
    refine S_sipush (a := 200) dX10_eddy_39 rfl (by decide) (by decide) ?_
    refine S_icmp_gt (tgt := 149) dX10_eddy_42 (by decide) rfl (fun _ => ?_) (fun _ => ?_)
    · refine S_iconst (a := (-1)) dX10_eddy_149 rfl (by decide) ?_
      exact S_iret dX10_eddy_150
    · refine S_aload_n 0 dX10_eddy_45 rfl rfl rfl ?_
      refine S_aload_n 0 dX10_eddy_46 rfl rfl rfl ?_
      refine S_getr (j := 213) (o := 1) 1 qC_10 (by decide) (by decide) qk_212 rfl rfl (by decide) tw_1227 dX10_eddy_47 rfl ?_
      refine S_sipush (a := 349) dX10_eddy_50 rfl (by decide) (by decide) ?_
      refine S_pick_t ((0 : Int) ≤ 349 ∧ (349 : Int) < 5736) (by decide) ?_
      refine S_iald (N := 5736) qk_213 rfl dX10_eddy_53 rfl (fun g1 g2 => ?_)
      refine S_iload_n 2 dX10_eddy_54 rfl rfl rfl ?_
      refine S_iadd dX10_eddy_55 rfl ?_
      refine S_iconst (a := 1) dX10_eddy_56 rfl (by decide) ?_
      refine S_isub dX10_eddy_57 rfl ?_
      refine S_iconst (a := 1) dX10_eddy_58 rfl (by decide) ?_
      refine S_callV_0 (as := [qi (qw (qw (h.1 213 349 + a3) - 1)), qi 1]) (st := []) (fun _ => rfl) (TX10_goesTide (qw (qw (h.1 213 349 + a3) - 1)) 1 h) yv_X10_goesTide tw_1594 qC_10 qk_212 (by decide) rfl rfl (Nat.le_of_ble_eq_true rfl) dX10_eddy_59 rfl (fun r3 h4 e5 => ?_)
      refine S_aload_n 0 dX10_eddy_62 rfl rfl rfl ?_
      refine S_getr (j := 217) (o := 5) 16 qC_10 (by decide) (by decide) qk_212 rfl rfl (by decide) tw_1242 dX10_eddy_63 rfl ?_
      refine S_iconst (a := 0) dX10_eddy_66 rfl (by decide) ?_
      refine S_pick_t ((0 : Int) ≤ 0 ∧ (0 : Int) < 8) (by decide) ?_
      refine S_iald (N := 8) qk_217 rfl dX10_eddy_67 rfl (fun g6 g7 => ?_)
      refine S_if_eq (tgt := 73) dX10_eddy_68 (by decide) rfl (fun _ => ?_) (fun _ => ?_)
      · refine S_aload_n 0 dX10_eddy_73 rfl rfl rfl ?_
        refine S_getr (j := 217) (o := 5) 16 qC_10 (by decide) (by decide) qk_212 rfl rfl (by decide) tw_1242 dX10_eddy_74 rfl ?_
        refine S_iconst (a := 1) dX10_eddy_77 rfl (by decide) ?_
        refine S_pick_t ((0 : Int) ≤ 1 ∧ (1 : Int) < 8) (by decide) ?_
        refine S_iald (N := 8) qk_217 rfl dX10_eddy_78 rfl (fun g8 g9 => ?_)
        refine S_iload_n 1 dX10_eddy_79 rfl rfl rfl ?_
        refine S_icmp_ne (tgt := 143) dX10_eddy_80 (by decide) rfl (fun _ => ?_) (fun _ => ?_)
        · refine S_iinc (lv' := [(3, qi (qw (a3 + 1))), (0, qr 212), (1, qi a1)]) 2 dX10_eddy_143 rfl (by decide) rfl rfl ?_
          refine S_goto (pc' := 38) dX10_eddy_146 (by decide) ?_
          refine S_sub [1, 2, 0] rfl ?_
          exact ih a1 (qw (a3 + 1)) h4
        · refine S_aload_n 0 dX10_eddy_83 rfl rfl rfl ?_
          refine S_aload_n 0 dX10_eddy_84 rfl rfl rfl ?_
          refine S_getr (j := 213) (o := 1) 1 qC_10 (by decide) (by decide) qk_212 rfl rfl (by decide) tw_1227 dX10_eddy_85 rfl ?_
          refine S_sipush (a := 349) dX10_eddy_88 rfl (by decide) (by decide) ?_
          refine S_pick_t ((0 : Int) ≤ 349 ∧ (349 : Int) < 5736) (by decide) ?_
          refine S_iald (N := 5736) qk_213 rfl dX10_eddy_91 rfl (fun g10 g11 => ?_)
          refine S_iload_n 2 dX10_eddy_92 rfl rfl rfl ?_
          refine S_iadd dX10_eddy_93 rfl ?_
          refine S_callV_i (as := [qi (qw (h4.1 213 349 + a3))]) (st := []) (fun _ => rfl) (TX10_phaseOf (qw (h4.1 213 349 + a3)) h4) yv_X10_phaseOf tw_1522 qC_10 qk_212 (by decide) rfl rfl (Nat.le_of_ble_eq_true rfl) dX10_eddy_94 rfl (fun r12 h13 e14 => ?_)
          refine S_aload_n 0 dX10_eddy_97 rfl rfl rfl ?_
          refine S_aload_n 0 dX10_eddy_98 rfl rfl rfl ?_
          refine S_getr (j := 213) (o := 1) 1 qC_10 (by decide) (by decide) qk_212 rfl rfl (by decide) tw_1227 dX10_eddy_99 rfl ?_
          refine S_sipush (a := 349) dX10_eddy_102 rfl (by decide) (by decide) ?_
          refine S_pick_t ((0 : Int) ≤ 349 ∧ (349 : Int) < 5736) (by decide) ?_
          refine S_iald (N := 5736) qk_213 rfl dX10_eddy_105 rfl (fun g15 g16 => ?_)
          refine S_callV_i (as := [qi (h13.1 213 349)]) (st := [qi r12]) (fun _ => rfl) (TX10_phaseOf (h13.1 213 349) h13) yv_X10_phaseOf tw_1522 qC_10 qk_212 (by decide) rfl rfl (Nat.le_of_ble_eq_true rfl) dX10_eddy_106 rfl (fun r17 h18 e19 => ?_)
          refine S_icmp_ne (tgt := 143) dX10_eddy_109 (by decide) rfl (fun _ => ?_) (fun _ => ?_)
          · refine S_iinc (lv' := [(3, qi (qw (a3 + 1))), (0, qr 212), (1, qi a1)]) 2 dX10_eddy_143 rfl (by decide) rfl rfl ?_
            refine S_goto (pc' := 38) dX10_eddy_146 (by decide) ?_
            refine S_sub [1, 2, 0] rfl ?_
            exact ih a1 (qw (a3 + 1)) h18
          · refine S_aload_n 0 dX10_eddy_112 rfl rfl rfl ?_
            refine S_aload_n 0 dX10_eddy_113 rfl rfl rfl ?_
            refine S_getr (j := 213) (o := 1) 1 qC_10 (by decide) (by decide) qk_212 rfl rfl (by decide) tw_1227 dX10_eddy_114 rfl ?_
            refine S_sipush (a := 349) dX10_eddy_117 rfl (by decide) (by decide) ?_
            refine S_pick_t ((0 : Int) ≤ 349 ∧ (349 : Int) < 5736) (by decide) ?_
            refine S_iald (N := 5736) qk_213 rfl dX10_eddy_120 rfl (fun g20 g21 => ?_)
            refine S_iload_n 2 dX10_eddy_121 rfl rfl rfl ?_
            refine S_iadd dX10_eddy_122 rfl ?_
            refine S_callV_i (as := [qi (qw (h18.1 213 349 + a3))]) (st := []) (fun _ => rfl) (TX10_moonOf (qw (h18.1 213 349 + a3)) h18) yv_X10_moonOf tw_1526 qC_10 qk_212 (by decide) rfl rfl (Nat.le_of_ble_eq_true rfl) dX10_eddy_123 rfl (fun r22 h23 e24 => ?_)
            refine S_aload_n 0 dX10_eddy_126 rfl rfl rfl ?_
            refine S_aload_n 0 dX10_eddy_127 rfl rfl rfl ?_
            refine S_getr (j := 213) (o := 1) 1 qC_10 (by decide) (by decide) qk_212 rfl rfl (by decide) tw_1227 dX10_eddy_128 rfl ?_
            refine S_sipush (a := 349) dX10_eddy_131 rfl (by decide) (by decide) ?_
            refine S_pick_t ((0 : Int) ≤ 349 ∧ (349 : Int) < 5736) (by decide) ?_
            refine S_iald (N := 5736) qk_213 rfl dX10_eddy_134 rfl (fun g25 g26 => ?_)
            refine S_callV_i (as := [qi (h23.1 213 349)]) (st := [qi r22]) (fun _ => rfl) (TX10_moonOf (h23.1 213 349) h23) yv_X10_moonOf tw_1526 qC_10 qk_212 (by decide) rfl rfl (Nat.le_of_ble_eq_true rfl) dX10_eddy_135 rfl (fun r27 h28 e29 => ?_)
            refine S_icmp_ne (tgt := 143) dX10_eddy_138 (by decide) rfl (fun _ => ?_) (fun _ => ?_)
            · refine S_iinc (lv' := [(3, qi (qw (a3 + 1))), (0, qr 212), (1, qi a1)]) 2 dX10_eddy_143 rfl (by decide) rfl rfl ?_
              refine S_goto (pc' := 38) dX10_eddy_146 (by decide) ?_
              refine S_sub [1, 2, 0] rfl ?_
              exact ih a1 (qw (a3 + 1)) h28
            · refine S_iload_n 2 dX10_eddy_141 rfl rfl rfl ?_
              exact S_iret dX10_eddy_142
      · refine S_iconst (a := (-1)) dX10_eddy_71 rfl (by decide) ?_
        exact S_iret dX10_eddy_72
def DX10_eddy (a1 : Int) (a2 : Int) (h : qH) : Option (Int × qH) := (qlt (qu h 212 0 0) fun h30 => (qbd (DX10_isCell a1 h30) fun r31 h32 => (if ¬ r31 = 0 then (qbd (DX10_isOpen a1 h32) fun r34 h35 => (if ¬ r34 = 0 then (qbd (DX10_isThrown (-1) (-1) a2 a1 h35) fun r37 h38 => (DX10_eddy_l38 LF a1 1 h38)) else some ((-5), h35))) else some ((-2), h32))))
set_option maxRecDepth 100000 in
theorem TX10_eddy {L : Nat} {xs : Nat → Int32} (a1 : Int) (a2 : Int) (h : qH) : qMet L xs yX10_eddy cX10_eddy 4 (some .int) 1 7 [qr 212, qi a1, qi a2] h (DX10_eddy a1 a2 h) := by
  refine qMet.of (by decide +kernel) (Or.inr (Or.inl ⟨rfl, rfl⟩)) (Nat.le_of_ble_eq_true rfl) ?_
  show qS L xs cX10_eddy "BottlePostModel" 4 7 1 0 [(0, qr 212), (1, qi a1), (2, qi a2)] [] h (DX10_eddy a1 a2 h)
  unfold DX10_eddy
  refine S_aload_n 0 dX10_eddy_0 rfl rfl rfl ?_
  refine S_iconst (a := 0) dX10_eddy_1 rfl (by decide) ?_
  refine S_puti 0 qC_10 (by decide) (by decide) rfl rfl qk_212 (by decide) tw_1226 dX10_eddy_2 rfl ?_
  refine S_lh (fun h30 => ?_)
  refine S_aload_n 0 dX10_eddy_5 rfl rfl rfl ?_
  refine S_iload_n 1 dX10_eddy_6 rfl rfl rfl ?_
  refine S_i2l dX10_eddy_7 rfl ?_
  refine S_callV_i (as := [ql a1]) (st := []) (fun _ => rfl) (TX10_isCell a1 h30) yv_X10_isCell tw_1469 qC_10 qk_212 (by decide) rfl rfl (Nat.le_of_ble_eq_true rfl) dX10_eddy_8 rfl (fun r31 h32 e33 => ?_)
  refine S_if_ne (tgt := 17) dX10_eddy_11 (by decide) rfl (fun _ => ?_) (fun _ => ?_)
  · refine S_aload_n 0 dX10_eddy_17 rfl rfl rfl ?_
    refine S_iload_n 1 dX10_eddy_18 rfl rfl rfl ?_
    refine S_callV_i (as := [qi a1]) (st := []) (fun _ => rfl) (TX10_isOpen a1 h32) yv_X10_isOpen tw_1493 qC_10 qk_212 (by decide) rfl rfl (Nat.le_of_ble_eq_true rfl) dX10_eddy_19 rfl (fun r34 h35 e36 => ?_)
    refine S_if_ne (tgt := 28) dX10_eddy_22 (by decide) rfl (fun _ => ?_) (fun _ => ?_)
    · refine S_aload_n 0 dX10_eddy_28 rfl rfl rfl ?_
      refine S_iconst (a := (-1)) dX10_eddy_29 rfl (by decide) ?_
      refine S_iconst (a := (-1)) dX10_eddy_30 rfl (by decide) ?_
      refine S_iload_n 2 dX10_eddy_31 rfl rfl rfl ?_
      refine S_iload_n 1 dX10_eddy_32 rfl rfl rfl ?_
      refine S_callV_0 (as := [qi (-1), qi (-1), qi a2, qi a1]) (st := []) (fun _ => rfl) (TX10_isThrown (-1) (-1) a2 a1 h35) yv_X10_isThrown tw_1565 qC_10 qk_212 (by decide) rfl rfl (Nat.le_of_ble_eq_true rfl) dX10_eddy_33 rfl (fun r37 h38 e39 => ?_)
      refine S_iconst (a := 1) dX10_eddy_36 rfl (by decide) ?_
      refine S_istore_n (lv' := [(3, qi 1), (0, qr 212), (1, qi a1), (2, qi a2)]) dX10_eddy_37 rfl (by decide) rfl rfl ?_
      refine S_sub [1, 2, 0] rfl ?_
      exact TX10_eddy_l38 LF a1 1 h38
    · refine S_bipush (a := (-5)) dX10_eddy_25 rfl (by decide) (by decide) ?_
      exact S_iret dX10_eddy_27
  · refine S_bipush (a := (-2)) dX10_eddy_14 rfl (by decide) (by decide) ?_
    exact S_iret dX10_eddy_16
def DX10_fails (a1 : Int) (h : qH) : Option (Int × qH) := (if h.1 212 11 = 0 then (if ¬ h.1 212 9 = 33 then (qlt (qu h 212 11 a1) fun h1 => (qlt (qu h1 212 12 (h1.1 212 6)) fun h2 => some (0, h2))) else (qlt (qu h 212 11 1) fun h3 => (qlt (qu h3 212 12 (h3.1 212 6)) fun h4 => some (0, h4)))) else some (0, h))
set_option maxRecDepth 100000 in
theorem TX10_fails {L : Nat} {xs : Nat → Int32} (a1 : Int) (h : qH) : qMet L xs yX10_fails cX10_fails 2 (none) 0 1 [qr 212, qi a1] h (DX10_fails a1 h) := by
  refine qMet.of (by decide +kernel) (Or.inl ⟨rfl, rfl⟩) (Nat.le_of_ble_eq_true rfl) ?_
  show qS L xs cX10_fails "BottlePostModel" 2 1 0 0 [(0, qr 212), (1, qi a1)] [] h (DX10_fails a1 h)
  unfold DX10_fails
  refine S_aload_n 0 dX10_fails_0 rfl rfl rfl ?_
  refine S_geti 11 qC_10 (by decide) (by decide) qk_212 tw_1237 dX10_fails_1 rfl ?_
  refine S_if_eq (tgt := 8) dX10_fails_4 (by decide) rfl (fun _ => ?_) (fun _ => ?_)
  · refine S_aload_n 0 dX10_fails_8 rfl rfl rfl ?_
    refine S_aload_n 0 dX10_fails_9 rfl rfl rfl ?_
    refine S_geti 9 qC_10 (by decide) (by decide) qk_212 tw_1235 dX10_fails_10 rfl ?_
    refine S_bipush (a := 33) dX10_fails_13 rfl (by decide) (by decide) ?_
    refine S_icmp_ne (tgt := 22) dX10_fails_15 (by decide) rfl (fun _ => ?_) (fun _ => ?_)
    · refine S_iload_n 1 dX10_fails_22 rfl rfl rfl ?_
      refine S_puti 11 qC_10 (by decide) (by decide) rfl rfl qk_212 (by decide) tw_1237 dX10_fails_23 rfl ?_
      refine S_lh (fun h1 => ?_)
      refine S_aload_n 0 dX10_fails_26 rfl rfl rfl ?_
      refine S_aload_n 0 dX10_fails_27 rfl rfl rfl ?_
      refine S_geti 6 qC_10 (by decide) (by decide) qk_212 tw_1232 dX10_fails_28 rfl ?_
      refine S_puti 12 qC_10 (by decide) (by decide) rfl rfl qk_212 (by decide) tw_1238 dX10_fails_31 rfl ?_
      refine S_lh (fun h2 => ?_)
      exact S_vret dX10_fails_34
    · refine S_iconst (a := 1) dX10_fails_18 rfl (by decide) ?_
      refine S_goto (pc' := 23) dX10_fails_19 (by decide) ?_
      refine S_puti 11 qC_10 (by decide) (by decide) rfl rfl qk_212 (by decide) tw_1237 dX10_fails_23 rfl ?_
      refine S_lh (fun h3 => ?_)
      refine S_aload_n 0 dX10_fails_26 rfl rfl rfl ?_
      refine S_aload_n 0 dX10_fails_27 rfl rfl rfl ?_
      refine S_geti 6 qC_10 (by decide) (by decide) qk_212 tw_1232 dX10_fails_28 rfl ?_
      refine S_puti 12 qC_10 (by decide) (by decide) rfl rfl qk_212 (by decide) tw_1238 dX10_fails_31 rfl ?_
      refine S_lh (fun h4 => ?_)
      exact S_vret dX10_fails_34
  · exact S_vret dX10_fails_7
def DX10_ends (h : qH) : Option (Int × qH) := (qbd (DX10_eats 40 h) fun r1 h2 => (if ¬ r1 = 0 then (qlt (qu h2 216 0 (qw (h2.1 216 0 + 1))) fun h6 => some (0, h6)) else (qbd (DX10_fails 2 h2) fun r7 h8 => (qlt (qu h8 216 0 (qw (h8.1 216 0 + 1))) fun h12 => some (0, h12)))))
set_option maxRecDepth 100000 in
theorem TX10_ends {L : Nat} {xs : Nat → Int32} (h : qH) : qMet L xs yX10_ends cX10_ends 1 (none) 0 9 [qr 212] h (DX10_ends h) := by
  refine qMet.of (by decide +kernel) (Or.inl ⟨rfl, rfl⟩) (Nat.le_of_ble_eq_true rfl) ?_
  show qS L xs cX10_ends "BottlePostModel" 1 9 0 0 [(0, qr 212)] [] h (DX10_ends h)
  unfold DX10_ends
  refine S_aload_n 0 dX10_ends_0 rfl rfl rfl ?_
  refine S_bipush (a := 40) dX10_ends_1 rfl (by decide) (by decide) ?_
  refine S_callV_i (as := [qi 40]) (st := []) (fun _ => rfl) (TX10_eats 40 h) yv_X10_eats tw_1377 qC_10 qk_212 (by decide) rfl rfl (Nat.le_of_ble_eq_true rfl) dX10_ends_3 rfl (fun r1 h2 e3 => ?_)
  refine S_if_ne (tgt := 14) dX10_ends_6 (by decide) rfl (fun _ => ?_) (fun _ => ?_)
  · refine S_aload_n 0 dX10_ends_14 rfl rfl rfl ?_
    refine S_getr (j := 216) (o := 4) 4 qC_10 (by decide) (by decide) qk_212 rfl rfl (by decide) tw_1230 dX10_ends_15 rfl ?_
    refine S_iconst (a := 0) dX10_ends_18 rfl (by decide) ?_
    refine S_dup2 dX10_ends_19 rfl rfl rfl ?_
    refine S_pick_t ((0 : Int) ≤ 0 ∧ (0 : Int) < 1912) (by decide) ?_
    refine S_iald (N := 1912) qk_216 rfl dX10_ends_20 rfl (fun g4 g5 => ?_)
    refine S_iconst (a := 1) dX10_ends_21 rfl (by decide) ?_
    refine S_iadd dX10_ends_22 rfl ?_
    refine S_pick_t ((0 : Int) ≤ 0 ∧ (0 : Int) < 1912) (by decide) ?_
    refine S_iast (N := 1912) qk_216 rfl dX10_ends_23 rfl (fun _ _ => ?_)
    refine S_lh (fun h6 => ?_)
    exact S_vret dX10_ends_24
  · refine S_aload_n 0 dX10_ends_9 rfl rfl rfl ?_
    refine S_iconst (a := 2) dX10_ends_10 rfl (by decide) ?_
    refine S_callV_0 (as := [qi 2]) (st := []) (fun _ => rfl) (TX10_fails 2 h2) yv_X10_fails tw_1385 qC_10 qk_212 (by decide) rfl rfl (Nat.le_of_ble_eq_true rfl) dX10_ends_11 rfl (fun r7 h8 e9 => ?_)
    refine S_aload_n 0 dX10_ends_14 rfl rfl rfl ?_
    refine S_getr (j := 216) (o := 4) 4 qC_10 (by decide) (by decide) qk_212 rfl rfl (by decide) tw_1230 dX10_ends_15 rfl ?_
    refine S_iconst (a := 0) dX10_ends_18 rfl (by decide) ?_
    refine S_dup2 dX10_ends_19 rfl rfl rfl ?_
    refine S_pick_t ((0 : Int) ≤ 0 ∧ (0 : Int) < 1912) (by decide) ?_
    refine S_iald (N := 1912) qk_216 rfl dX10_ends_20 rfl (fun g10 g11 => ?_)
    refine S_iconst (a := 1) dX10_ends_21 rfl (by decide) ?_
    refine S_iadd dX10_ends_22 rfl ?_
    refine S_pick_t ((0 : Int) ≤ 0 ∧ (0 : Int) < 1912) (by decide) ?_
    refine S_iast (N := 1912) qk_216 rfl dX10_ends_23 rfl (fun _ _ => ?_)
    refine S_lh (fun h12 => ?_)
    exact S_vret dX10_ends_24
def DX10_fate (a1 : Int) (a2 : Int) (h : qH) : Option (Int × qH) := (qlt (qu h 212 0 0) fun h1 => (qbd (DX10_isBottle a1 h1) fun r2 h3 => (if r2 = 0 then some ((-8), h3) else (qbd (DX10_within a2 0 2 h3) fun r5 h6 => (if ¬ r5 = 0 then (qbd (DX10_loads a1 h6) fun r8 h9 => (qbd (DX10_endsIn (h9.1 213 349) 200 h9) fun r13 h14 => (if ¬ a2 = 0 then (if ¬ a2 = 1 then some (h14.1 217 7, h14) else (if ¬ r13 = 1000000 then some (r13, h14) else some ((-1), h14))) else some (h14.1 217 0, h14)))) else some ((-8), h6))))))
set_option maxRecDepth 100000 in
theorem TX10_fate {L : Nat} {xs : Nat → Int32} (a1 : Int) (a2 : Int) (h : qH) : qMet L xs yX10_fate cX10_fate 4 (some .int) 1 8 [qr 212, qi a1, qi a2] h (DX10_fate a1 a2 h) := by
  refine qMet.of (by decide +kernel) (Or.inr (Or.inl ⟨rfl, rfl⟩)) (Nat.le_of_ble_eq_true rfl) ?_
  show qS L xs cX10_fate "BottlePostModel" 4 8 1 0 [(0, qr 212), (1, qi a1), (2, qi a2)] [] h (DX10_fate a1 a2 h)
  unfold DX10_fate
  refine S_aload_n 0 dX10_fate_0 rfl rfl rfl ?_
  refine S_iconst (a := 0) dX10_fate_1 rfl (by decide) ?_
  refine S_puti 0 qC_10 (by decide) (by decide) rfl rfl qk_212 (by decide) tw_1226 dX10_fate_2 rfl ?_
  refine S_lh (fun h1 => ?_)
  refine S_aload_n 0 dX10_fate_5 rfl rfl rfl ?_
  refine S_iload_n 1 dX10_fate_6 rfl rfl rfl ?_
  refine S_i2l dX10_fate_7 rfl ?_
  refine S_callV_i (as := [ql a1]) (st := []) (fun _ => rfl) (TX10_isBottle a1 h1) yv_X10_isBottle tw_1543 qC_10 qk_212 (by decide) rfl rfl (Nat.le_of_ble_eq_true rfl) dX10_fate_8 rfl (fun r2 h3 e4 => ?_)
  refine S_if_eq (tgt := 26) dX10_fate_11 (by decide) rfl (fun _ => ?_) (fun _ => ?_)
  · refine S_bipush (a := (-8)) dX10_fate_26 rfl (by decide) (by decide) ?_
    exact S_iret dX10_fate_28
  · refine S_iload_n 2 dX10_fate_14 rfl rfl rfl ?_
    refine S_i2l dX10_fate_15 rfl ?_
    refine S_lconst (a := 0) dX10_fate_16 rfl (by decide) (by decide) ?_
    refine S_ldc2 (a := 2) dX10_fate_17 rfl (by rw [show Int64.ofInt 2 = (2 : Int64) from by decide]; exact tw_1690) (by decide) ?_
    refine S_callS_i (as := [ql a2, ql 0, ql 2]) (st := []) (fun _ => rfl) (TX10_within a2 0 2 h3) yv_X10_within tw_1352 (by decide) rfl rfl (Nat.le_of_ble_eq_true rfl) dX10_fate_20 rfl (fun r5 h6 e7 => ?_)
    refine S_if_ne (tgt := 29) dX10_fate_23 (by decide) rfl (fun _ => ?_) (fun _ => ?_)
    · refine S_aload_n 0 dX10_fate_29 rfl rfl rfl ?_
      refine S_iload_n 1 dX10_fate_30 rfl rfl rfl ?_
      refine S_callV_0 (as := [qi a1]) (st := []) (fun _ => rfl) (TX10_loads a1 h6) yv_X10_loads tw_1586 qC_10 qk_212 (by decide) rfl rfl (Nat.le_of_ble_eq_true rfl) dX10_fate_31 rfl (fun r8 h9 e10 => ?_)
      refine S_aload_n 0 dX10_fate_34 rfl rfl rfl ?_
      refine S_aload_n 0 dX10_fate_35 rfl rfl rfl ?_
      refine S_getr (j := 213) (o := 1) 1 qC_10 (by decide) (by decide) qk_212 rfl rfl (by decide) tw_1227 dX10_fate_36 rfl ?_
      refine S_sipush (a := 349) dX10_fate_39 rfl (by decide) (by decide) ?_
      refine S_pick_t ((0 : Int) ≤ 349 ∧ (349 : Int) < 5736) (by decide) ?_
      refine S_iald (N := 5736) qk_213 rfl dX10_fate_42 rfl (fun g11 g12 => ?_)
      refine S_sipush (a := 200) dX10_fate_43 rfl (by decide) (by decide) ?_
      refine S_callV_i (as := [qi (h9.1 213 349), qi 200]) (st := []) (fun _ => rfl) (TX10_endsIn (h9.1 213 349) 200 h9) yv_X10_endsIn tw_1691 qC_10 qk_212 (by decide) rfl rfl (Nat.le_of_ble_eq_true rfl) dX10_fate_46 rfl (fun r13 h14 e15 => ?_)
      refine S_istore_n (lv' := [(3, qi r13), (0, qr 212), (1, qi a1), (2, qi a2)]) dX10_fate_49 rfl (by decide) rfl rfl ?_
      refine S_iload_n 3 dX10_fate_50 rfl rfl rfl ?_
      refine S_if_ne (tgt := 63) dX10_fate_51 (by decide) rfl (fun _ => ?_) (fun _ => ?_)
      · refine S_iload_n 3 dX10_fate_63 rfl rfl rfl ?_
        refine S_iconst (a := 1) dX10_fate_64 rfl (by decide) ?_
        refine S_icmp_ne (tgt := 83) dX10_fate_65 (by decide) rfl (fun _ => ?_) (fun _ => ?_)
        · refine S_aload_n 1 dX10_fate_83 rfl rfl rfl ?_
          refine S_getr (j := 217) (o := 5) 16 qC_10 (by decide) (by decide) qk_212 rfl rfl (by decide) tw_1242 dX10_fate_84 rfl ?_
          refine S_bipush (a := 7) dX10_fate_87 rfl (by decide) (by decide) ?_
          refine S_pick_t ((0 : Int) ≤ 7 ∧ (7 : Int) < 8) (by decide) ?_
          refine S_iald (N := 8) qk_217 rfl dX10_fate_89 rfl (fun g16 g17 => ?_)
          exact S_iret dX10_fate_90
        · refine S_iload_n 0 dX10_fate_68 rfl rfl rfl ?_
          refine S_ldcw (a := 1000000) dX10_fate_69 rfl (by rw [show Int32.ofInt 1000000 = (1000000 : Int32) from by decide]; exact tw_1695) (by decide) ?_
          refine S_icmp_ne (tgt := 79) dX10_fate_72 (by decide) rfl (fun _ => ?_) (fun _ => ?_)
          · refine S_iload_n 0 dX10_fate_79 rfl rfl rfl ?_
            refine S_goto (pc' := 90) dX10_fate_80 (by decide) ?_
            exact S_iret dX10_fate_90
          · refine S_iconst (a := (-1)) dX10_fate_75 rfl (by decide) ?_
            refine S_goto (pc' := 90) dX10_fate_76 (by decide) ?_
            exact S_iret dX10_fate_90
      · refine S_aload_n 1 dX10_fate_54 rfl rfl rfl ?_
        refine S_getr (j := 217) (o := 5) 16 qC_10 (by decide) (by decide) qk_212 rfl rfl (by decide) tw_1242 dX10_fate_55 rfl ?_
        refine S_iconst (a := 0) dX10_fate_58 rfl (by decide) ?_
        refine S_pick_t ((0 : Int) ≤ 0 ∧ (0 : Int) < 8) (by decide) ?_
        refine S_iald (N := 8) qk_217 rfl dX10_fate_59 rfl (fun g18 g19 => ?_)
        refine S_goto (pc' := 90) dX10_fate_60 (by decide) ?_
        exact S_iret dX10_fate_90
    · refine S_bipush (a := (-8)) dX10_fate_26 rfl (by decide) (by decide) ?_
      exact S_iret dX10_fate_28
def DX10_fault (a1 : Int) (h : qH) : Option (Int × qH) := (qlt (qu h 212 0 0) fun h1 => (if ¬ a1 = 0 then (if ¬ a1 = 1 then some ((-1), h1) else some (h1.1 212 14, h1)) else some (h1.1 212 13, h1)))
set_option maxRecDepth 100000 in
theorem TX10_fault {L : Nat} {xs : Nat → Int32} (a1 : Int) (h : qH) : qMet L xs yX10_fault cX10_fault 2 (some .int) 1 1 [qr 212, qi a1] h (DX10_fault a1 h) := by
  refine qMet.of (by decide +kernel) (Or.inr (Or.inl ⟨rfl, rfl⟩)) (Nat.le_of_ble_eq_true rfl) ?_
  show qS L xs cX10_fault "BottlePostModel" 2 1 1 0 [(0, qr 212), (1, qi a1)] [] h (DX10_fault a1 h)
  unfold DX10_fault
  refine S_aload_n 0 dX10_fault_0 rfl rfl rfl ?_
  refine S_iconst (a := 0) dX10_fault_1 rfl (by decide) ?_
  refine S_puti 0 qC_10 (by decide) (by decide) rfl rfl qk_212 (by decide) tw_1226 dX10_fault_2 rfl ?_
  refine S_lh (fun h1 => ?_)
  refine S_iload_n 1 dX10_fault_5 rfl rfl rfl ?_
  refine S_if_ne (tgt := 16) dX10_fault_6 (by decide) rfl (fun _ => ?_) (fun _ => ?_)
  · refine S_iload_n 1 dX10_fault_16 rfl rfl rfl ?_
    refine S_iconst (a := 1) dX10_fault_17 rfl (by decide) ?_
    refine S_icmp_ne (tgt := 28) dX10_fault_18 (by decide) rfl (fun _ => ?_) (fun _ => ?_)
    · refine S_iconst (a := (-1)) dX10_fault_28 rfl (by decide) ?_
      exact S_iret dX10_fault_29
    · refine S_aload_n 0 dX10_fault_21 rfl rfl rfl ?_
      refine S_geti 14 qC_10 (by decide) (by decide) qk_212 tw_1240 dX10_fault_22 rfl ?_
      refine S_goto (pc' := 29) dX10_fault_25 (by decide) ?_
      exact S_iret dX10_fault_29
  · refine S_aload_n 0 dX10_fault_9 rfl rfl rfl ?_
    refine S_geti 13 qC_10 (by decide) (by decide) qk_212 tw_1239 dX10_fault_10 rfl ?_
    refine S_goto (pc' := 29) dX10_fault_13 (by decide) ?_
    exact S_iret dX10_fault_29
def DX10_feed_b77 (k24 : Int → Int → Int → Int → Int → Int → qH → Option (Int × qH)) (a1 : Int) (a2 : Int) (a3 : Int) (a4 : Int) (a5 : Int) (a6 : Int) (b0 : Int) (h : qH) : Option (Int × qH) := (if 0 ≤ h.1 212 5 ∧ h.1 212 5 < 900 then qlt (qu h 215 (h.1 212 5).toNat (qand (qshr b0 (qw (24 - qw (8 * qrem a6 4)))) 255)) fun h1 => (qlt (qu h1 212 5 (qw (h1.1 212 5 + 1))) fun h2 => (k24 a1 a2 a3 a4 a5 (qw (a6 + 1)) h2)) else none)
set_option maxRecDepth 100000 in
theorem TX10_feed_b77 {L : Nat} {xs : Nat → Int32} (k24 : Int → Int → Int → Int → Int → Int → qH → Option (Int × qH)) (hk24 : ∀ (a1 : Int) (a2 : Int) (a3 : Int) (a4 : Int) (a5 : Int) (a6 : Int) (h : qH), qS L xs cX10_feed "BottlePostModel" 8 1 1 24 [(0, qr 212), (1, qi a1), (2, qi a2), (3, qi a3), (4, qi a4), (5, qi a5), (6, qi a6)] [] h (k24 a1 a2 a3 a4 a5 a6 h)) (a1 : Int) (a2 : Int) (a3 : Int) (a4 : Int) (a5 : Int) (a6 : Int) (b0 : Int) (h : qH) : qS L xs cX10_feed "BottlePostModel" 8 1 1 77 [(0, qr 212), (1, qi a1), (2, qi a2), (3, qi a3), (4, qi a4), (5, qi a5), (6, qi a6)] [qi b0] h (DX10_feed_b77 k24 a1 a2 a3 a4 a5 a6 b0 h) := by
  unfold DX10_feed_b77
  refine S_istore (lv' := [(7, qi b0), (0, qr 212), (1, qi a1), (2, qi a2), (3, qi a3), (4, qi a4), (5, qi a5), (6, qi a6)]) dX10_feed_77 (by decide) rfl rfl ?_
  refine S_aload_n 1 dX10_feed_79 rfl rfl rfl ?_
  refine S_getr (j := 215) (o := 3) 3 qC_10 (by decide) (by decide) qk_212 rfl rfl (by decide) tw_1229 dX10_feed_80 rfl ?_
  refine S_aload_n 1 dX10_feed_83 rfl rfl rfl ?_
  refine S_geti 5 qC_10 (by decide) (by decide) qk_212 tw_1231 dX10_feed_84 rfl ?_
  refine S_iload 0 dX10_feed_87 rfl rfl ?_
  refine S_bipush (a := 24) dX10_feed_89 rfl (by decide) (by decide) ?_
  refine S_bipush (a := 8) dX10_feed_91 rfl (by decide) (by decide) ?_
  refine S_iload 7 dX10_feed_93 rfl rfl ?_
  refine S_iconst (a := 4) dX10_feed_95 rfl (by decide) ?_
  refine S_irem dX10_feed_96 rfl (by decide) ?_
  refine S_imul dX10_feed_97 rfl ?_
  refine S_isub dX10_feed_98 rfl ?_
  refine S_ishr dX10_feed_99 rfl ?_
  refine S_sipush (a := 255) dX10_feed_100 rfl (by decide) (by decide) ?_
  refine S_iand dX10_feed_103 rfl ?_
  refine S_iast (N := 900) qk_215 rfl dX10_feed_104 rfl (fun _ _ => ?_)
  refine S_lh (fun h1 => ?_)
  refine S_aload_n 1 dX10_feed_105 rfl rfl rfl ?_
  refine S_dup dX10_feed_106 rfl rfl ?_
  refine S_geti 5 qC_10 (by decide) (by decide) qk_212 tw_1231 dX10_feed_107 rfl ?_
  refine S_iconst (a := 1) dX10_feed_110 rfl (by decide) ?_
  refine S_iadd dX10_feed_111 rfl ?_
  refine S_puti 5 qC_10 (by decide) (by decide) rfl rfl qk_212 (by decide) tw_1231 dX10_feed_112 rfl ?_
  refine S_lh (fun h2 => ?_)
  refine S_iinc (lv' := [(6, qi (qw (a6 + 1))), (7, qi b0), (0, qr 212), (1, qi a1), (2, qi a2), (3, qi a3), (4, qi a4), (5, qi a5)]) 7 dX10_feed_115 rfl (by decide) rfl rfl ?_
  refine S_goto (pc' := 24) dX10_feed_118 (by decide) ?_
  refine S_sub [2, 3, 4, 5, 6, 7, 0] rfl ?_
  exact hk24 a1 a2 a3 a4 a5 (qw (a6 + 1)) h2
def DX10_feed_l24 : Nat → Int → Int → Int → Int → Int → Int → qH → Option (Int × qH)
  | 0, _, _, _, _, _, _, _ => none
  | n + 1, a1, a2, a3, a4, a5, a6, h => (if 20 ≤ a6 then some (h.1 212 5, h) else (if 4 ≤ a6 then (if 8 ≤ a6 then (if 12 ≤ a6 then (if 16 ≤ a6 then (DX10_feed_b77 (DX10_feed_l24 n) a1 a2 a3 a4 a5 a6 a5 h) else (DX10_feed_b77 (DX10_feed_l24 n) a1 a2 a3 a4 a5 a6 a4 h)) else (DX10_feed_b77 (DX10_feed_l24 n) a1 a2 a3 a4 a5 a6 a3 h)) else (DX10_feed_b77 (DX10_feed_l24 n) a1 a2 a3 a4 a5 a6 a2 h)) else (DX10_feed_b77 (DX10_feed_l24 n) a1 a2 a3 a4 a5 a6 a1 h)))
set_option maxRecDepth 100000 in
theorem TX10_feed_l24 {L : Nat} {xs : Nat → Int32} : ∀ (n : Nat) (a1 : Int) (a2 : Int) (a3 : Int) (a4 : Int) (a5 : Int) (a6 : Int) (h : qH), qS L xs cX10_feed "BottlePostModel" 8 1 1 24 [(0, qr 212), (1, qi a1), (2, qi a2), (3, qi a3), (4, qi a4), (5, qi a5), (6, qi a6)] [] h (DX10_feed_l24 n a1 a2 a3 a4 a5 a6 h) := by
  intro n
  induction n with
  | zero =>
    intro a1 a2 a3 a4 a5 a6 h
    exact S_none
  | succ n ih =>
    intro a1 a2 a3 a4 a5 a6 h
    rw [DX10_feed_l24.eq_2]
    refine S_iload 6 dX10_feed_24 rfl rfl ?_
    refine S_bipush (a := 20) dX10_feed_26 rfl (by decide) (by decide) ?_
    refine S_icmp_ge (tgt := 121) dX10_feed_28 (by decide) rfl (fun _ => ?_) (fun _ => ?_)
    · refine S_aload_n 0 dX10_feed_121 rfl rfl rfl ?_
      refine S_geti 5 qC_10 (by decide) (by decide) qk_212 tw_1231 dX10_feed_122 rfl ?_
      exact S_iret dX10_feed_125
    · refine S_iload 6 dX10_feed_31 rfl rfl ?_
      refine S_iconst (a := 4) dX10_feed_33 rfl (by decide) ?_
      refine S_icmp_ge (tgt := 41) dX10_feed_34 (by decide) rfl (fun _ => ?_) (fun _ => ?_)
      · refine S_iload 6 dX10_feed_41 rfl rfl ?_
        refine S_bipush (a := 8) dX10_feed_43 rfl (by decide) (by decide) ?_
        refine S_icmp_ge (tgt := 52) dX10_feed_45 (by decide) rfl (fun _ => ?_) (fun _ => ?_)
        · refine S_iload 6 dX10_feed_52 rfl rfl ?_
          refine S_bipush (a := 12) dX10_feed_54 rfl (by decide) (by decide) ?_
          refine S_icmp_ge (tgt := 63) dX10_feed_56 (by decide) rfl (fun _ => ?_) (fun _ => ?_)
          · refine S_iload 6 dX10_feed_63 rfl rfl ?_
            refine S_bipush (a := 16) dX10_feed_65 rfl (by decide) (by decide) ?_
            refine S_icmp_ge (tgt := 75) dX10_feed_67 (by decide) rfl (fun _ => ?_) (fun _ => ?_)
            · refine S_iload 5 dX10_feed_75 rfl rfl ?_
              exact TX10_feed_b77 (DX10_feed_l24 n) ih a1 a2 a3 a4 a5 a6 a5 h
            · refine S_iload 4 dX10_feed_70 rfl rfl ?_
              refine S_goto (pc' := 77) dX10_feed_72 (by decide) ?_
              exact TX10_feed_b77 (DX10_feed_l24 n) ih a1 a2 a3 a4 a5 a6 a4 h
          · refine S_iload_n 3 dX10_feed_59 rfl rfl rfl ?_
            refine S_goto (pc' := 77) dX10_feed_60 (by decide) ?_
            exact TX10_feed_b77 (DX10_feed_l24 n) ih a1 a2 a3 a4 a5 a6 a3 h
        · refine S_iload_n 2 dX10_feed_48 rfl rfl rfl ?_
          refine S_goto (pc' := 77) dX10_feed_49 (by decide) ?_
          exact TX10_feed_b77 (DX10_feed_l24 n) ih a1 a2 a3 a4 a5 a6 a2 h
      · refine S_iload_n 1 dX10_feed_37 rfl rfl rfl ?_
        refine S_goto (pc' := 77) dX10_feed_38 (by decide) ?_
        exact TX10_feed_b77 (DX10_feed_l24 n) ih a1 a2 a3 a4 a5 a6 a1 h
def DX10_feed (a1 : Int) (a2 : Int) (a3 : Int) (a4 : Int) (a5 : Int) (h : qH) : Option (Int × qH) := (qlt (qu h 212 0 0) fun h3 => (if qw (h3.1 212 5 + 20) ≤ 900 then (DX10_feed_l24 LF a1 a2 a3 a4 a5 0 h3) else some ((-5), h3)))
set_option maxRecDepth 100000 in
theorem TX10_feed {L : Nat} {xs : Nat → Int32} (a1 : Int) (a2 : Int) (a3 : Int) (a4 : Int) (a5 : Int) (h : qH) : qMet L xs yX10_feed cX10_feed 8 (some .int) 1 1 [qr 212, qi a1, qi a2, qi a3, qi a4, qi a5] h (DX10_feed a1 a2 a3 a4 a5 h) := by
  refine qMet.of (by decide +kernel) (Or.inr (Or.inl ⟨rfl, rfl⟩)) (Nat.le_of_ble_eq_true rfl) ?_
  show qS L xs cX10_feed "BottlePostModel" 8 1 1 0 [(0, qr 212), (1, qi a1), (2, qi a2), (3, qi a3), (4, qi a4), (5, qi a5)] [] h (DX10_feed a1 a2 a3 a4 a5 h)
  unfold DX10_feed
  refine S_aload_n 0 dX10_feed_0 rfl rfl rfl ?_
  refine S_iconst (a := 0) dX10_feed_1 rfl (by decide) ?_
  refine S_puti 0 qC_10 (by decide) (by decide) rfl rfl qk_212 (by decide) tw_1226 dX10_feed_2 rfl ?_
  refine S_lh (fun h3 => ?_)
  refine S_aload_n 0 dX10_feed_5 rfl rfl rfl ?_
  refine S_geti 5 qC_10 (by decide) (by decide) qk_212 tw_1231 dX10_feed_6 rfl ?_
  refine S_bipush (a := 20) dX10_feed_9 rfl (by decide) (by decide) ?_
  refine S_iadd dX10_feed_11 rfl ?_
  refine S_sipush (a := 900) dX10_feed_12 rfl (by decide) (by decide) ?_
  refine S_icmp_le (tgt := 21) dX10_feed_15 (by decide) rfl (fun _ => ?_) (fun _ => ?_)
  · refine S_iconst (a := 0) dX10_feed_21 rfl (by decide) ?_
    refine S_istore (lv' := [(6, qi 0), (0, qr 212), (1, qi a1), (2, qi a2), (3, qi a3), (4, qi a4), (5, qi a5)]) dX10_feed_22 (by decide) rfl rfl ?_
    refine S_sub [1, 2, 3, 4, 5, 6, 0] rfl ?_
    exact TX10_feed_l24 LF a1 a2 a3 a4 a5 0 h3
  · refine S_bipush (a := (-5)) dX10_feed_18 rfl (by decide) (by decide) ?_
    exact S_iret dX10_feed_20
def DX10_fits_l125 : Nat → Int → Int → Int → qH → Option (Int × qH)
  | 0, _, _, _, _ => none
  | n + 1, a1, a5, a6, h => (if 0 ≤ a1 ∧ a1 < 4 then (if h.1 223 a1.toNat ≤ a6 then some (1, h) else (if 0 ≤ qw (qw (40 * a1) + a6) ∧ qw (qw (40 * a1) + a6) < 160 then (if qcmp (h.1 224 (qw (qw (40 * a1) + a6)).toNat) a5 ≤ 0 then ((DX10_fits_l125 n) a1 a5 (qw (a6 + 2)) h) else some (0, h)) else none)) else none)
set_option maxRecDepth 100000 in
theorem TX10_fits_l125 {L : Nat} {xs : Nat → Int32} : ∀ (n : Nat) (a1 : Int) (a5 : Int) (a6 : Int) (h : qH), qS L xs cX10_fits "BottlePostModel" 8 7 4 125 [(0, qr 212), (1, qi a1), (5, qi a5), (6, qi a6)] [] h (DX10_fits_l125 n a1 a5 a6 h) := by
  intro n
  induction n with
  | zero =>
    intro a1 a5 a6 h
    exact S_none
  | succ n ih =>
    intro a1 a5 a6 h
    rw [DX10_fits_l125.eq_2]
    refine S_iload 3 dX10_fits_125 rfl rfl ?_
    refine S_aload_n 0 dX10_fits_127 rfl rfl rfl ?_
    refine S_getr (j := 223) (o := 11) 37 qC_10 (by decide) (by decide) qk_212 rfl rfl (by decide) tw_1263 dX10_fits_128 rfl ?_
    refine S_iload_n 1 dX10_fits_131 rfl rfl rfl ?_
    refine S_iald (N := 4) qk_223 rfl dX10_fits_132 rfl (fun g1 g2 => ?_)
    refine S_icmp_ge (tgt := 163) dX10_fits_133 (by decide) rfl (fun _ => ?_) (fun _ => ?_)
    · refine S_iconst (a := 1) dX10_fits_163 rfl (by decide) ?_
      exact S_zretl (by decide) dX10_fits_164
    · refine S_aload_n 0 dX10_fits_136 rfl rfl rfl ?_
      refine S_getr (j := 224) (o := 12) 38 qC_10 (by decide) (by decide) qk_212 rfl rfl (by decide) tw_1264 dX10_fits_137 rfl ?_
      refine S_bipush (a := 40) dX10_fits_140 rfl (by decide) (by decide) ?_
      refine S_iload_n 1 dX10_fits_142 rfl rfl rfl ?_
      refine S_imul dX10_fits_143 rfl ?_
      refine S_iload 3 dX10_fits_144 rfl rfl ?_
      refine S_iadd dX10_fits_146 rfl ?_
      refine S_lald (N := 160) qk_224 rfl dX10_fits_147 rfl (fun g3 g4 => ?_)
      refine S_iload 2 dX10_fits_148 rfl rfl ?_
      refine S_i2l dX10_fits_150 rfl ?_
      refine S_lcmp dX10_fits_151 rfl ?_
      refine S_if_le (tgt := 157) dX10_fits_152 (by decide) rfl (fun _ => ?_) (fun _ => ?_)
      · refine S_iinc (lv' := [(6, qi (qw (a6 + 2))), (0, qr 212), (1, qi a1), (5, qi a5)]) 3 dX10_fits_157 rfl (by decide) rfl rfl ?_
        refine S_goto (pc' := 125) dX10_fits_160 (by decide) ?_
        refine S_sub [1, 2, 3, 0] rfl ?_
        exact ih a1 a5 (qw (a6 + 2)) h
      · refine S_iconst (a := 0) dX10_fits_155 rfl (by decide) ?_
        exact S_zretl (by decide) dX10_fits_156
def DX10_fits_l34 (k26 : Int → Int → Int → qH → Option (Int × qH)) : Nat → Int → Int → Int → Int → qH → Option (Int × qH)
  | 0, _, _, _, _, _ => none
  | n + 1, a1, a5, a6, a7, h => (if 0 ≤ a1 ∧ a1 < 4 then (if h.1 223 a1.toNat ≤ a7 then (if a6 ≤ 0 then (k26 a1 a5 (qw (a6 + (-1))) h) else (qbd (DX10_goesTide (qw (h.1 213 349 - a6)) 0 h) fun r9 h10 => (k26 a1 a5 (qw (a6 + (-1))) h10))) else (if 0 ≤ qw (qw (qw (40 * a1) + a7) + 1) ∧ qw (qw (qw (40 * a1) + a7) + 1) < 160 then (if ¬ qcmp (h.1 224 (qw (qw (qw (40 * a1) + a7) + 1)).toNat) a6 = 0 then ((DX10_fits_l34 k26 n) a1 a5 a6 (qw (a7 + 2)) h) else (if 0 ≤ qw (qw (40 * a1) + a7) ∧ qw (qw (40 * a1) + a7) < 160 then (qbd (DX10_here h) fun r16 h17 => (if qcmp (h.1 224 (qw (qw (40 * a1) + a7)).toNat) r16 = 0 then ((DX10_fits_l34 k26 n) a1 a5 a6 (qw (a7 + 2)) h17) else some (0, h17))) else none)) else none)) else none)
set_option maxRecDepth 100000 in
theorem TX10_fits_l34 {L : Nat} {xs : Nat → Int32} (k26 : Int → Int → Int → qH → Option (Int × qH)) (hk26 : ∀ (a1 : Int) (a5 : Int) (a6 : Int) (h : qH), qS L xs cX10_fits "BottlePostModel" 8 7 4 26 [(0, qr 212), (1, qi a1), (5, qi a5), (6, qi a6)] [] h (k26 a1 a5 a6 h)) : ∀ (n : Nat) (a1 : Int) (a5 : Int) (a6 : Int) (a7 : Int) (h : qH), qS L xs cX10_fits "BottlePostModel" 8 7 4 34 [(0, qr 212), (1, qi a1), (5, qi a5), (6, qi a6), (7, qi a7)] [] h (DX10_fits_l34 k26 n a1 a5 a6 a7 h) := by
  intro n
  induction n with
  | zero =>
    intro a1 a5 a6 a7 h
    exact S_none
  | succ n ih =>
    intro a1 a5 a6 a7 h
    rw [DX10_fits_l34.eq_2]
    refine S_iload 4 dX10_fits_34 rfl rfl ?_
    refine S_aload_n 0 dX10_fits_36 rfl rfl rfl ?_
    refine S_getr (j := 223) (o := 11) 37 qC_10 (by decide) (by decide) qk_212 rfl rfl (by decide) tw_1263 dX10_fits_37 rfl ?_
    refine S_iload_n 1 dX10_fits_40 rfl rfl rfl ?_
    refine S_iald (N := 4) qk_223 rfl dX10_fits_41 rfl (fun g5 g6 => ?_)
    refine S_icmp_ge (tgt := 95) dX10_fits_42 (by decide) rfl (fun _ => ?_) (fun _ => ?_)
    · refine S_iload 3 dX10_fits_95 rfl rfl ?_
      refine S_if_le (tgt := 116) dX10_fits_97 (by decide) rfl (fun _ => ?_) (fun _ => ?_)
      · refine S_iinc (lv' := [(6, qi (qw (a6 + (-1)))), (0, qr 212), (1, qi a1), (5, qi a5), (7, qi a7)]) 3 dX10_fits_116 rfl (by decide) rfl rfl ?_
        refine S_goto (pc' := 26) dX10_fits_119 (by decide) ?_
        refine S_sub [1, 2, 3, 0] rfl ?_
        exact hk26 a1 a5 (qw (a6 + (-1))) h
      · refine S_aload_n 0 dX10_fits_100 rfl rfl rfl ?_
        refine S_aload_n 0 dX10_fits_101 rfl rfl rfl ?_
        refine S_getr (j := 213) (o := 1) 1 qC_10 (by decide) (by decide) qk_212 rfl rfl (by decide) tw_1227 dX10_fits_102 rfl ?_
        refine S_sipush (a := 349) dX10_fits_105 rfl (by decide) (by decide) ?_
        refine S_pick_t ((0 : Int) ≤ 349 ∧ (349 : Int) < 5736) (by decide) ?_
        refine S_iald (N := 5736) qk_213 rfl dX10_fits_108 rfl (fun g7 g8 => ?_)
        refine S_iload 3 dX10_fits_109 rfl rfl ?_
        refine S_isub dX10_fits_111 rfl ?_
        refine S_iconst (a := 0) dX10_fits_112 rfl (by decide) ?_
        refine S_callV_0 (as := [qi (qw (h.1 213 349 - a6)), qi 0]) (st := []) (fun _ => rfl) (TX10_goesTide (qw (h.1 213 349 - a6)) 0 h) yv_X10_goesTide tw_1594 qC_10 qk_212 (by decide) rfl rfl (Nat.le_of_ble_eq_true rfl) dX10_fits_113 rfl (fun r9 h10 e11 => ?_)
        refine S_iinc (lv' := [(6, qi (qw (a6 + (-1)))), (0, qr 212), (1, qi a1), (5, qi a5), (7, qi a7)]) 3 dX10_fits_116 rfl (by decide) rfl rfl ?_
        refine S_goto (pc' := 26) dX10_fits_119 (by decide) ?_
        refine S_sub [1, 2, 3, 0] rfl ?_
        exact hk26 a1 a5 (qw (a6 + (-1))) h10
    · refine S_aload_n 0 dX10_fits_45 rfl rfl rfl ?_
      refine S_getr (j := 224) (o := 12) 38 qC_10 (by decide) (by decide) qk_212 rfl rfl (by decide) tw_1264 dX10_fits_46 rfl ?_
      refine S_bipush (a := 40) dX10_fits_49 rfl (by decide) (by decide) ?_
      refine S_iload_n 1 dX10_fits_51 rfl rfl rfl ?_
      refine S_imul dX10_fits_52 rfl ?_
      refine S_iload 4 dX10_fits_53 rfl rfl ?_
      refine S_iadd dX10_fits_55 rfl ?_
      refine S_iconst (a := 1) dX10_fits_56 rfl (by decide) ?_
      refine S_iadd dX10_fits_57 rfl ?_
      refine S_lald (N := 160) qk_224 rfl dX10_fits_58 rfl (fun g12 g13 => ?_)
      refine S_iload 3 dX10_fits_59 rfl rfl ?_
      refine S_i2l dX10_fits_61 rfl ?_
      refine S_lcmp dX10_fits_62 rfl ?_
      refine S_if_ne (tgt := 89) dX10_fits_63 (by decide) rfl (fun _ => ?_) (fun _ => ?_)
      · refine S_iinc (lv' := [(7, qi (qw (a7 + 2))), (0, qr 212), (1, qi a1), (5, qi a5), (6, qi a6)]) 4 dX10_fits_89 rfl (by decide) rfl rfl ?_
        refine S_goto (pc' := 34) dX10_fits_92 (by decide) ?_
        refine S_sub [1, 2, 3, 4, 0] rfl ?_
        exact ih a1 a5 a6 (qw (a7 + 2)) h
      · refine S_aload_n 0 dX10_fits_66 rfl rfl rfl ?_
        refine S_getr (j := 224) (o := 12) 38 qC_10 (by decide) (by decide) qk_212 rfl rfl (by decide) tw_1264 dX10_fits_67 rfl ?_
        refine S_bipush (a := 40) dX10_fits_70 rfl (by decide) (by decide) ?_
        refine S_iload_n 1 dX10_fits_72 rfl rfl rfl ?_
        refine S_imul dX10_fits_73 rfl ?_
        refine S_iload 4 dX10_fits_74 rfl rfl ?_
        refine S_iadd dX10_fits_76 rfl ?_
        refine S_lald (N := 160) qk_224 rfl dX10_fits_77 rfl (fun g14 g15 => ?_)
        refine S_aload_n 0 dX10_fits_78 rfl rfl rfl ?_
        refine S_callV_i (as := []) (st := [ql (h.1 224 (qw (qw (40 * a1) + a7)).toNat)]) (fun _ => rfl) (TX10_here h) yv_X10_here tw_1701 qC_10 qk_212 (by decide) rfl rfl (Nat.le_of_ble_eq_true rfl) dX10_fits_79 rfl (fun r16 h17 e18 => ?_)
        refine S_i2l dX10_fits_82 rfl ?_
        refine S_lcmp dX10_fits_83 rfl ?_
        refine S_if_eq (tgt := 89) dX10_fits_84 (by decide) rfl (fun _ => ?_) (fun _ => ?_)
        · refine S_iinc (lv' := [(7, qi (qw (a7 + 2))), (0, qr 212), (1, qi a1), (5, qi a5), (6, qi a6)]) 4 dX10_fits_89 rfl (by decide) rfl rfl ?_
          refine S_goto (pc' := 34) dX10_fits_92 (by decide) ?_
          refine S_sub [1, 2, 3, 4, 0] rfl ?_
          exact ih a1 a5 a6 (qw (a7 + 2)) h17
        · refine S_iconst (a := 0) dX10_fits_87 rfl (by decide) ?_
          exact S_zretl (by decide) dX10_fits_88
def DX10_fits_l26 : Nat → Int → Int → Int → qH → Option (Int × qH)
  | 0, _, _, _, _ => none
  | n + 1, a1, a5, a6, h => (if a6 < 0 then (DX10_fits_l125 LF a1 a5 1 h) else (DX10_fits_l34 (DX10_fits_l26 n) LF a1 a5 a6 0 h))
set_option maxRecDepth 100000 in
theorem TX10_fits_l26 {L : Nat} {xs : Nat → Int32} : ∀ (n : Nat) (a1 : Int) (a5 : Int) (a6 : Int) (h : qH), qS L xs cX10_fits "BottlePostModel" 8 7 4 26 [(0, qr 212), (1, qi a1), (5, qi a5), (6, qi a6)] [] h (DX10_fits_l26 n a1 a5 a6 h) := by
  intro n
  induction n with
  | zero =>
    intro a1 a5 a6 h
    exact S_none
  | succ n ih =>
    intro a1 a5 a6 h
    rw [DX10_fits_l26.eq_2]
    refine S_iload 3 dX10_fits_26 rfl rfl ?_
    refine S_if_lt (tgt := 122) dX10_fits_28 (by decide) rfl (fun _ => ?_) (fun _ => ?_)
    · refine S_iconst (a := 1) dX10_fits_122 rfl (by decide) ?_
      refine S_istore (lv' := [(6, qi 1), (0, qr 212), (1, qi a1), (5, qi a5)]) dX10_fits_123 (by decide) rfl rfl ?_
      refine S_sub [1, 2, 3, 0] rfl ?_
      exact TX10_fits_l125 LF a1 a5 1 h
    · refine S_iconst (a := 0) dX10_fits_31 rfl (by decide) ?_
      refine S_istore (lv' := [(7, qi 0), (0, qr 212), (1, qi a1), (5, qi a5), (6, qi a6)]) dX10_fits_32 (by decide) rfl rfl ?_
      refine S_sub [1, 2, 3, 4, 0] rfl ?_
      exact TX10_fits_l34 (DX10_fits_l26 n) ih LF a1 a5 a6 0 h
def DX10_fits_b14 (a1 : Int) (a2 : Int) (a5 : Int) (b0 : Int) (b1 : Int) (b2 : Int) (h : qH) : Option (Int × qH) := (qbd (DX10_throwsTo a2 h) fun r19 h20 => (qbd (DX10_isThrown b2 b1 b0 r19 h20) fun r22 h23 => (DX10_fits_l26 LF a1 a5 a5 h23)))
set_option maxRecDepth 100000 in
theorem TX10_fits_b14 {L : Nat} {xs : Nat → Int32} (a1 : Int) (a2 : Int) (a5 : Int) (b0 : Int) (b1 : Int) (b2 : Int) (h : qH) : qS L xs cX10_fits "BottlePostModel" 8 7 4 14 [(0, qr 212), (1, qi a1), (2, qi a2), (5, qi a5)] [qi b0, qi b1, qi b2, qr 212] h (DX10_fits_b14 a1 a2 a5 b0 b1 b2 h) := by
  unfold DX10_fits_b14
  refine S_aload_n 0 dX10_fits_14 rfl rfl rfl ?_
  refine S_iload_n 2 dX10_fits_15 rfl rfl rfl ?_
  refine S_callV_i (as := [qi a2]) (st := [qi b0, qi b1, qi b2, qr 212]) (fun _ => rfl) (TX10_throwsTo a2 h) yv_X10_throwsTo tw_1485 qC_10 qk_212 (by decide) rfl rfl (Nat.le_of_ble_eq_true rfl) dX10_fits_16 rfl (fun r19 h20 e21 => ?_)
  refine S_callV_0 (as := [qi b2, qi b1, qi b0, qi r19]) (st := []) (fun _ => rfl) (TX10_isThrown b2 b1 b0 r19 h20) yv_X10_isThrown tw_1565 qC_10 qk_212 (by decide) rfl rfl (Nat.le_of_ble_eq_true rfl) dX10_fits_19 rfl (fun r22 h23 e24 => ?_)
  refine S_iload 3 dX10_fits_22 rfl rfl ?_
  refine S_istore (lv' := [(6, qi a5), (0, qr 212), (1, qi a1), (2, qi a2), (5, qi a5)]) dX10_fits_24 (by decide) rfl rfl ?_
  refine S_sub [1, 2, 4, 0] rfl ?_
  exact TX10_fits_l26 LF a1 a5 a5 h23
def DX10_fits (a1 : Int) (a2 : Int) (a3 : Int) (a4 : Int) (a5 : Int) (h : qH) : Option (Int × qH) := (if ¬ a4 = 1 then (DX10_fits_b14 a1 a2 a5 0 a3 a2 h) else (DX10_fits_b14 a1 a2 a5 1 a3 a2 h))
set_option maxRecDepth 100000 in
theorem TX10_fits {L : Nat} {xs : Nat → Int32} (a1 : Int) (a2 : Int) (a3 : Int) (a4 : Int) (a5 : Int) (h : qH) : qMet L xs yX10_fits cX10_fits 8 (some .boolean) 4 7 [qr 212, qi a1, qi a2, qi a3, qi a4, qi a5] h (DX10_fits a1 a2 a3 a4 a5 h) := by
  refine qMet.of (by decide +kernel) (Or.inr (Or.inr (Or.inr (Or.inr (Or.inl ⟨rfl, rfl⟩))))) (Nat.le_of_ble_eq_true rfl) ?_
  show qS L xs cX10_fits "BottlePostModel" 8 7 4 0 [(0, qr 212), (1, qi a1), (2, qi a2), (3, qi a3), (4, qi a4), (5, qi a5)] [] h (DX10_fits a1 a2 a3 a4 a5 h)
  unfold DX10_fits
  refine S_aload_n 0 dX10_fits_0 rfl rfl rfl ?_
  refine S_iload_n 2 dX10_fits_1 rfl rfl rfl ?_
  refine S_iload_n 3 dX10_fits_2 rfl rfl rfl ?_
  refine S_iload 4 dX10_fits_3 rfl rfl ?_
  refine S_iconst (a := 1) dX10_fits_5 rfl (by decide) ?_
  refine S_icmp_ne (tgt := 13) dX10_fits_6 (by decide) rfl (fun _ => ?_) (fun _ => ?_)
  · refine S_iconst (a := 0) dX10_fits_13 rfl (by decide) ?_
    refine S_sub [0, 1, 2, 5] rfl ?_
    exact TX10_fits_b14 a1 a2 a5 0 a3 a2 h
  · refine S_iconst (a := 1) dX10_fits_9 rfl (by decide) ?_
    refine S_goto (pc' := 14) dX10_fits_10 (by decide) ?_
    refine S_sub [0, 1, 2, 5] rfl ?_
    exact TX10_fits_b14 a1 a2 a5 1 a3 a2 h
def DX10_goesIn_b11 (h : qH) : Option (Int × qH) := (if ¬ h.1 212 11 = 0 then (if ¬ h.1 212 11 = 0 then some (0, h) else some (1, h)) else (qbd (DX10_next h) fun r1 h2 => (if ¬ h2.1 212 11 = 0 then some (0, h2) else some (1, h2))))
set_option maxRecDepth 100000 in
theorem TX10_goesIn_b11 {L : Nat} {xs : Nat → Int32} (h : qH) : qS L xs cX10_goesIn "BottlePostModel" 2 8 4 11 [(0, qr 212)] [] h (DX10_goesIn_b11 h) := by
  unfold DX10_goesIn_b11
  refine S_aload_n 0 dX10_goesIn_11 rfl rfl rfl ?_
  refine S_geti 11 qC_10 (by decide) (by decide) qk_212 tw_1237 dX10_goesIn_12 rfl ?_
  refine S_if_ne (tgt := 22) dX10_goesIn_15 (by decide) rfl (fun _ => ?_) (fun _ => ?_)
  · refine S_aload_n 0 dX10_goesIn_22 rfl rfl rfl ?_
    refine S_geti 11 qC_10 (by decide) (by decide) qk_212 tw_1237 dX10_goesIn_23 rfl ?_
    refine S_if_ne (tgt := 33) dX10_goesIn_26 (by decide) rfl (fun _ => ?_) (fun _ => ?_)
    · refine S_iconst (a := 0) dX10_goesIn_33 rfl (by decide) ?_
      exact S_zretl (by decide) dX10_goesIn_34
    · refine S_iconst (a := 1) dX10_goesIn_29 rfl (by decide) ?_
      refine S_goto (pc' := 34) dX10_goesIn_30 (by decide) ?_
      exact S_zretl (by decide) dX10_goesIn_34
  · refine S_aload_n 0 dX10_goesIn_18 rfl rfl rfl ?_
    refine S_callV_0 (as := []) (st := []) (fun _ => rfl) (TX10_next h) yv_X10_next tw_1355 qC_10 qk_212 (by decide) rfl rfl (Nat.le_of_ble_eq_true rfl) dX10_goesIn_19 rfl (fun r1 h2 e3 => ?_)
    refine S_aload_n 0 dX10_goesIn_22 rfl rfl rfl ?_
    refine S_geti 11 qC_10 (by decide) (by decide) qk_212 tw_1237 dX10_goesIn_23 rfl ?_
    refine S_if_ne (tgt := 33) dX10_goesIn_26 (by decide) rfl (fun _ => ?_) (fun _ => ?_)
    · refine S_iconst (a := 0) dX10_goesIn_33 rfl (by decide) ?_
      exact S_zretl (by decide) dX10_goesIn_34
    · refine S_iconst (a := 1) dX10_goesIn_29 rfl (by decide) ?_
      refine S_goto (pc' := 34) dX10_goesIn_30 (by decide) ?_
      exact S_zretl (by decide) dX10_goesIn_34
def DX10_goesIn (a1 : Int) (h : qH) : Option (Int × qH) := (if ¬ a1 = 6 then (DX10_goesIn_b11 h) else (qbd (DX10_fails 4 h) fun r4 h5 => (DX10_goesIn_b11 h5)))
set_option maxRecDepth 100000 in
theorem TX10_goesIn {L : Nat} {xs : Nat → Int32} (a1 : Int) (h : qH) : qMet L xs yX10_goesIn cX10_goesIn 2 (some .boolean) 4 8 [qr 212, qi a1] h (DX10_goesIn a1 h) := by
  refine qMet.of (by decide +kernel) (Or.inr (Or.inr (Or.inr (Or.inr (Or.inl ⟨rfl, rfl⟩))))) (Nat.le_of_ble_eq_true rfl) ?_
  show qS L xs cX10_goesIn "BottlePostModel" 2 8 4 0 [(0, qr 212), (1, qi a1)] [] h (DX10_goesIn a1 h)
  unfold DX10_goesIn
  refine S_iload_n 1 dX10_goesIn_0 rfl rfl rfl ?_
  refine S_bipush (a := 6) dX10_goesIn_1 rfl (by decide) (by decide) ?_
  refine S_icmp_ne (tgt := 11) dX10_goesIn_3 (by decide) rfl (fun _ => ?_) (fun _ => ?_)
  · refine S_sub [0] rfl ?_
    exact TX10_goesIn_b11 h
  · refine S_aload_n 0 dX10_goesIn_6 rfl rfl rfl ?_
    refine S_iconst (a := 4) dX10_goesIn_7 rfl (by decide) ?_
    refine S_callV_0 (as := [qi 4]) (st := []) (fun _ => rfl) (TX10_fails 4 h) yv_X10_fails tw_1385 qC_10 qk_212 (by decide) rfl rfl (Nat.le_of_ble_eq_true rfl) dX10_goesIn_8 rfl (fun r4 h5 e6 => ?_)
    refine S_sub [0] rfl ?_
    exact TX10_goesIn_b11 h5
def DX10_goesRelay_l81 (f_X10_goesRelay : Int → Int → Int → Int → qH → Option (Int × qH)) : Nat → Int → Int → Int → Int → Int → qH → Option (Int × qH)
  | 0, _, _, _, _, _, _ => none
  | n + 1, a1, a2, a3, a4, a5, h => (if h.1 213 4 ≤ a5 then some (0, h) else (qbd (DX10_isIn a3 a5 h) fun r3 h4 => (if r3 = 0 then (if 0 ≤ a2 ∧ a2 < 6 then (qbd (DX10_bestFrom (h4.1 220 a2.toNat) a5 (qw (h4.1 213 349 + a4)) h4) fun r10 h11 => (if ¬ r10 = 1000000 then (if 0 ≤ qw (a2 + 1) ∧ qw (a2 + 1) < 6 then qlt (qu h11 220 (qw (a2 + 1)).toNat a5) fun h13 => (qbd (f_X10_goesRelay a1 (qw (a2 + 1)) (qor a3 (qshl 1 a5)) (qw (a4 + r10)) h13) fun r14 h15 => ((DX10_goesRelay_l81 f_X10_goesRelay n) a1 a2 a3 a4 (qw (a5 + 1)) h15)) else none) else ((DX10_goesRelay_l81 f_X10_goesRelay n) a1 a2 a3 a4 (qw (a5 + 1)) h11))) else none) else ((DX10_goesRelay_l81 f_X10_goesRelay n) a1 a2 a3 a4 (qw (a5 + 1)) h4))))
set_option maxRecDepth 100000 in
theorem TX10_goesRelay_l81 {L : Nat} {xs : Nat → Int32} {dd : Nat} (f_X10_goesRelay : Int → Int → Int → Int → qH → Option (Int × qH)) (hf_X10_goesRelay : ∀ (a1 : Int) (a2 : Int) (a3 : Int) (a4 : Int) (h : qH), qMet L xs yX10_goesRelay cX10_goesRelay 7 (none) 0 dd [qr 212, qi a1, qi a2, qi a3, qi a4] h (f_X10_goesRelay a1 a2 a3 a4 h)) (hdd : 10 ≤ dd) : ∀ (n : Nat) (a1 : Int) (a2 : Int) (a3 : Int) (a4 : Int) (a5 : Int) (h : qH), qS L xs cX10_goesRelay "BottlePostModel" 7 (dd + 1) 0 81 [(0, qr 212), (1, qi a1), (2, qi a2), (3, qi a3), (4, qi a4), (5, qi a5)] [] h (DX10_goesRelay_l81 f_X10_goesRelay n a1 a2 a3 a4 a5 h) := by
  intro n
  induction n with
  | zero =>
    intro a1 a2 a3 a4 a5 h
    exact S_none
  | succ n ih =>
    intro a1 a2 a3 a4 a5 h
    rw [DX10_goesRelay_l81.eq_2]
    refine S_iload 5 dX10_goesRelay_81 rfl rfl ?_
    refine S_aload_n 0 dX10_goesRelay_83 rfl rfl rfl ?_
    refine S_getr (j := 213) (o := 1) 1 qC_10 (by decide) (by decide) qk_212 rfl rfl (by decide) tw_1227 dX10_goesRelay_84 rfl ?_
    refine S_iconst (a := 4) dX10_goesRelay_87 rfl (by decide) ?_
    refine S_pick_t ((0 : Int) ≤ 4 ∧ (4 : Int) < 5736) (by decide) ?_
    refine S_iald (N := 5736) qk_213 rfl dX10_goesRelay_88 rfl (fun g1 g2 => ?_)
    refine S_icmp_ge (tgt := 176) dX10_goesRelay_89 (by decide) rfl (fun _ => ?_) (fun _ => ?_)
    · exact S_vret dX10_goesRelay_176
    · refine S_iload_n 3 dX10_goesRelay_92 rfl rfl rfl ?_
      refine S_i2l dX10_goesRelay_93 rfl ?_
      refine S_iload 5 dX10_goesRelay_94 rfl rfl ?_
      refine S_callS_i (as := [ql a3, qi a5]) (st := []) (fun _ => rfl) (TX10_isIn a3 a5 h) yv_X10_isIn tw_1610 (by omega) rfl rfl (Nat.le_of_ble_eq_true rfl) dX10_goesRelay_96 rfl (fun r3 h4 e5 => ?_)
      refine S_if_eq (tgt := 105) dX10_goesRelay_99 (by decide) rfl (fun _ => ?_) (fun _ => ?_)
      · refine S_aload_n 0 dX10_goesRelay_105 rfl rfl rfl ?_
        refine S_aload_n 0 dX10_goesRelay_106 rfl rfl rfl ?_
        refine S_getr (j := 220) (o := 8) 26 qC_10 (by decide) (by decide) qk_212 rfl rfl (by decide) tw_1252 dX10_goesRelay_107 rfl ?_
        refine S_iload_n 2 dX10_goesRelay_110 rfl rfl rfl ?_
        refine S_iald (N := 6) qk_220 rfl dX10_goesRelay_111 rfl (fun g6 g7 => ?_)
        refine S_iload 5 dX10_goesRelay_112 rfl rfl ?_
        refine S_aload_n 0 dX10_goesRelay_114 rfl rfl rfl ?_
        refine S_getr (j := 213) (o := 1) 1 qC_10 (by decide) (by decide) qk_212 rfl rfl (by decide) tw_1227 dX10_goesRelay_115 rfl ?_
        refine S_sipush (a := 349) dX10_goesRelay_118 rfl (by decide) (by decide) ?_
        refine S_pick_t ((0 : Int) ≤ 349 ∧ (349 : Int) < 5736) (by decide) ?_
        refine S_iald (N := 5736) qk_213 rfl dX10_goesRelay_121 rfl (fun g8 g9 => ?_)
        refine S_iload 4 dX10_goesRelay_122 rfl rfl ?_
        refine S_iadd dX10_goesRelay_124 rfl ?_
        refine S_callV_i (as := [qi (h4.1 220 a2.toNat), qi a5, qi (qw (h4.1 213 349 + a4))]) (st := []) (fun _ => rfl) (TX10_bestFrom (h4.1 220 a2.toNat) a5 (qw (h4.1 213 349 + a4)) h4) yv_X10_bestFrom tw_1730 qC_10 qk_212 (by omega) rfl rfl (Nat.le_of_ble_eq_true rfl) dX10_goesRelay_125 rfl (fun r10 h11 e12 => ?_)
        refine S_istore (lv' := [(6, qi r10), (0, qr 212), (1, qi a1), (2, qi a2), (3, qi a3), (4, qi a4), (5, qi a5)]) dX10_goesRelay_128 (by decide) rfl rfl ?_
        refine S_iload 0 dX10_goesRelay_130 rfl rfl ?_
        refine S_ldcw (a := 1000000) dX10_goesRelay_132 rfl (by rw [show Int32.ofInt 1000000 = (1000000 : Int32) from by decide]; exact tw_1695) (by decide) ?_
        refine S_icmp_ne (tgt := 141) dX10_goesRelay_135 (by decide) rfl (fun _ => ?_) (fun _ => ?_)
        · refine S_aload_n 1 dX10_goesRelay_141 rfl rfl rfl ?_
          refine S_getr (j := 220) (o := 8) 26 qC_10 (by decide) (by decide) qk_212 rfl rfl (by decide) tw_1252 dX10_goesRelay_142 rfl ?_
          refine S_iload_n 3 dX10_goesRelay_145 rfl rfl rfl ?_
          refine S_iconst (a := 1) dX10_goesRelay_146 rfl (by decide) ?_
          refine S_iadd dX10_goesRelay_147 rfl ?_
          refine S_iload 6 dX10_goesRelay_148 rfl rfl ?_
          refine S_iast (N := 6) qk_220 rfl dX10_goesRelay_150 rfl (fun _ _ => ?_)
          refine S_lh (fun h13 => ?_)
          refine S_aload_n 1 dX10_goesRelay_151 rfl rfl rfl ?_
          refine S_iload_n 2 dX10_goesRelay_152 rfl rfl rfl ?_
          refine S_iload_n 3 dX10_goesRelay_153 rfl rfl rfl ?_
          refine S_iconst (a := 1) dX10_goesRelay_154 rfl (by decide) ?_
          refine S_iadd dX10_goesRelay_155 rfl ?_
          refine S_iload_n 4 dX10_goesRelay_156 rfl rfl rfl ?_
          refine S_iconst (a := 1) dX10_goesRelay_157 rfl (by decide) ?_
          refine S_iload 6 dX10_goesRelay_158 rfl rfl ?_
          refine S_ishl dX10_goesRelay_160 rfl ?_
          refine S_ior dX10_goesRelay_161 rfl ?_
          refine S_iload 5 dX10_goesRelay_162 rfl rfl ?_
          refine S_iload 0 dX10_goesRelay_164 rfl rfl ?_
          refine S_iadd dX10_goesRelay_166 rfl ?_
          refine S_callV_0 (as := [qi a1, qi (qw (a2 + 1)), qi (qor a3 (qshl 1 a5)), qi (qw (a4 + r10))]) (st := []) (fun _ => rfl) (hf_X10_goesRelay a1 (qw (a2 + 1)) (qor a3 (qshl 1 a5)) (qw (a4 + r10)) h13) yv_X10_goesRelay tw_1742 qC_10 qk_212 (Nat.le_refl _) rfl rfl (Nat.le_of_ble_eq_true rfl) dX10_goesRelay_167 rfl (fun r14 h15 e16 => ?_)
          refine S_iinc (lv' := [(5, qi (qw (a5 + 1))), (6, qi r10), (0, qr 212), (1, qi a1), (2, qi a2), (3, qi a3), (4, qi a4)]) 6 dX10_goesRelay_170 rfl (by decide) rfl rfl ?_
          refine S_goto (pc' := 81) dX10_goesRelay_173 (by decide) ?_
          refine S_sub [2, 3, 4, 5, 6, 0] rfl ?_
          exact ih a1 a2 a3 a4 (qw (a5 + 1)) h15
        · refine S_goto (pc' := 170) dX10_goesRelay_138 (by decide) ?_
          refine S_iinc (lv' := [(5, qi (qw (a5 + 1))), (6, qi r10), (0, qr 212), (1, qi a1), (2, qi a2), (3, qi a3), (4, qi a4)]) 6 dX10_goesRelay_170 rfl (by decide) rfl rfl ?_
          refine S_goto (pc' := 81) dX10_goesRelay_173 (by decide) ?_
          refine S_sub [2, 3, 4, 5, 6, 0] rfl ?_
          exact ih a1 a2 a3 a4 (qw (a5 + 1)) h11
      · refine S_goto (pc' := 170) dX10_goesRelay_102 (by decide) ?_
        refine S_iinc (lv' := [(5, qi (qw (a5 + 1))), (0, qr 212), (1, qi a1), (2, qi a2), (3, qi a3), (4, qi a4)]) 5 dX10_goesRelay_170 rfl (by decide) rfl rfl ?_
        refine S_goto (pc' := 81) dX10_goesRelay_173 (by decide) ?_
        refine S_sub [1, 2, 3, 4, 5, 0] rfl ?_
        exact ih a1 a2 a3 a4 (qw (a5 + 1)) h4
def DX10_goesRelay_l51 (f_X10_goesRelay : Int → Int → Int → Int → qH → Option (Int × qH)) : Nat → Int → Int → qH → Option (Int × qH)
  | 0, _, _, _ => none
  | n + 1, a2, a5, h => (if a2 < a5 then some (0, h) else (if 0 ≤ a5 ∧ a5 < 6 then (if 0 ≤ a5 ∧ a5 < 6 then qlt (qu h 221 a5.toNat (h.1 220 a5.toNat)) fun h19 => ((DX10_goesRelay_l51 f_X10_goesRelay n) a2 (qw (a5 + 1)) h19) else none) else none))
set_option maxRecDepth 100000 in
theorem TX10_goesRelay_l51 {L : Nat} {xs : Nat → Int32} {dd : Nat} (f_X10_goesRelay : Int → Int → Int → Int → qH → Option (Int × qH)) (hf_X10_goesRelay : ∀ (a1 : Int) (a2 : Int) (a3 : Int) (a4 : Int) (h : qH), qMet L xs yX10_goesRelay cX10_goesRelay 7 (none) 0 dd [qr 212, qi a1, qi a2, qi a3, qi a4] h (f_X10_goesRelay a1 a2 a3 a4 h)) (hdd : 10 ≤ dd) : ∀ (n : Nat) (a2 : Int) (a5 : Int) (h : qH), qS L xs cX10_goesRelay "BottlePostModel" 7 (dd + 1) 0 51 [(0, qr 212), (2, qi a2), (5, qi a5)] [] h (DX10_goesRelay_l51 f_X10_goesRelay n a2 a5 h) := by
  intro n
  induction n with
  | zero =>
    intro a2 a5 h
    exact S_none
  | succ n ih =>
    intro a2 a5 h
    rw [DX10_goesRelay_l51.eq_2]
    refine S_iload 2 dX10_goesRelay_51 rfl rfl ?_
    refine S_iload_n 1 dX10_goesRelay_53 rfl rfl rfl ?_
    refine S_icmp_gt (tgt := 77) dX10_goesRelay_54 (by decide) rfl (fun _ => ?_) (fun _ => ?_)
    · exact S_vret dX10_goesRelay_77
    · refine S_aload_n 0 dX10_goesRelay_57 rfl rfl rfl ?_
      refine S_getr (j := 221) (o := 9) 27 qC_10 (by decide) (by decide) qk_212 rfl rfl (by decide) tw_1253 dX10_goesRelay_58 rfl ?_
      refine S_iload 2 dX10_goesRelay_61 rfl rfl ?_
      refine S_aload_n 0 dX10_goesRelay_63 rfl rfl rfl ?_
      refine S_getr (j := 220) (o := 8) 26 qC_10 (by decide) (by decide) qk_212 rfl rfl (by decide) tw_1252 dX10_goesRelay_64 rfl ?_
      refine S_iload 2 dX10_goesRelay_67 rfl rfl ?_
      refine S_iald (N := 6) qk_220 rfl dX10_goesRelay_69 rfl (fun g17 g18 => ?_)
      refine S_iast (N := 6) qk_221 rfl dX10_goesRelay_70 rfl (fun _ _ => ?_)
      refine S_lh (fun h19 => ?_)
      refine S_iinc (lv' := [(5, qi (qw (a5 + 1))), (0, qr 212), (2, qi a2)]) 2 dX10_goesRelay_71 rfl (by decide) rfl rfl ?_
      refine S_goto (pc' := 51) dX10_goesRelay_74 (by decide) ?_
      refine S_sub [1, 2, 0] rfl ?_
      exact ih a2 (qw (a5 + 1)) h19
def DX10_goesRelay (f_X10_goesRelay : Int → Int → Int → Int → qH → Option (Int × qH)) (a1 : Int) (a2 : Int) (a3 : Int) (a4 : Int) (h : qH) : Option (Int × qH) := (if 0 ≤ a2 ∧ a2 < 6 then (if ¬ h.1 220 a2.toNat = a1 then (DX10_goesRelay_l81 f_X10_goesRelay LF a1 a2 a3 a4 0 h) else (if h.1 212 28 < a4 then some (0, h) else (if ¬ a4 = h.1 212 28 then (qlt (qu h 212 28 a4) fun h22 => (qlt (qu h22 212 29 a2) fun h23 => (DX10_goesRelay_l51 f_X10_goesRelay LF a2 0 h23))) else (if a2 < h.1 212 29 then (qlt (qu h 212 28 a4) fun h24 => (qlt (qu h24 212 29 a2) fun h25 => (DX10_goesRelay_l51 f_X10_goesRelay LF a2 0 h25))) else some (0, h))))) else none)
set_option maxRecDepth 100000 in
theorem TX10_goesRelay {L : Nat} {xs : Nat → Int32} {dd : Nat} (f_X10_goesRelay : Int → Int → Int → Int → qH → Option (Int × qH)) (hf_X10_goesRelay : ∀ (a1 : Int) (a2 : Int) (a3 : Int) (a4 : Int) (h : qH), qMet L xs yX10_goesRelay cX10_goesRelay 7 (none) 0 dd [qr 212, qi a1, qi a2, qi a3, qi a4] h (f_X10_goesRelay a1 a2 a3 a4 h)) (hdd : 10 ≤ dd) (a1 : Int) (a2 : Int) (a3 : Int) (a4 : Int) (h : qH) : qMet L xs yX10_goesRelay cX10_goesRelay 7 (none) 0 (dd + 1) [qr 212, qi a1, qi a2, qi a3, qi a4] h (DX10_goesRelay f_X10_goesRelay a1 a2 a3 a4 h) := by
  refine qMet.of (by decide +kernel) (Or.inl ⟨rfl, rfl⟩) (Nat.le_of_ble_eq_true rfl) ?_
  show qS L xs cX10_goesRelay "BottlePostModel" 7 (dd + 1) 0 0 [(0, qr 212), (1, qi a1), (2, qi a2), (3, qi a3), (4, qi a4)] [] h (DX10_goesRelay f_X10_goesRelay a1 a2 a3 a4 h)
  unfold DX10_goesRelay
  refine S_aload_n 0 dX10_goesRelay_0 rfl rfl rfl ?_
  refine S_getr (j := 220) (o := 8) 26 qC_10 (by decide) (by decide) qk_212 rfl rfl (by decide) tw_1252 dX10_goesRelay_1 rfl ?_
  refine S_iload_n 2 dX10_goesRelay_4 rfl rfl rfl ?_
  refine S_iald (N := 6) qk_220 rfl dX10_goesRelay_5 rfl (fun g20 g21 => ?_)
  refine S_iload_n 1 dX10_goesRelay_6 rfl rfl rfl ?_
  refine S_icmp_ne (tgt := 78) dX10_goesRelay_7 (by decide) rfl (fun _ => ?_) (fun _ => ?_)
  · refine S_iconst (a := 0) dX10_goesRelay_78 rfl (by decide) ?_
    refine S_istore (lv' := [(5, qi 0), (0, qr 212), (1, qi a1), (2, qi a2), (3, qi a3), (4, qi a4)]) dX10_goesRelay_79 (by decide) rfl rfl ?_
    refine S_sub [1, 2, 3, 4, 5, 0] rfl ?_
    exact TX10_goesRelay_l81 f_X10_goesRelay hf_X10_goesRelay hdd LF a1 a2 a3 a4 0 h
  · refine S_iload 4 dX10_goesRelay_10 rfl rfl ?_
    refine S_aload_n 0 dX10_goesRelay_12 rfl rfl rfl ?_
    refine S_geti 28 qC_10 (by decide) (by decide) qk_212 tw_1254 dX10_goesRelay_13 rfl ?_
    refine S_icmp_gt (tgt := 36) dX10_goesRelay_16 (by decide) rfl (fun _ => ?_) (fun _ => ?_)
    · exact S_vret dX10_goesRelay_36
    · refine S_iload 4 dX10_goesRelay_19 rfl rfl ?_
      refine S_aload_n 0 dX10_goesRelay_21 rfl rfl rfl ?_
      refine S_geti 28 qC_10 (by decide) (by decide) qk_212 tw_1254 dX10_goesRelay_22 rfl ?_
      refine S_icmp_ne (tgt := 37) dX10_goesRelay_25 (by decide) rfl (fun _ => ?_) (fun _ => ?_)
      · refine S_aload_n 0 dX10_goesRelay_37 rfl rfl rfl ?_
        refine S_iload 4 dX10_goesRelay_38 rfl rfl ?_
        refine S_puti 28 qC_10 (by decide) (by decide) rfl rfl qk_212 (by decide) tw_1254 dX10_goesRelay_40 rfl ?_
        refine S_lh (fun h22 => ?_)
        refine S_aload_n 0 dX10_goesRelay_43 rfl rfl rfl ?_
        refine S_iload_n 2 dX10_goesRelay_44 rfl rfl rfl ?_
        refine S_puti 29 qC_10 (by decide) (by decide) rfl rfl qk_212 (by decide) tw_1255 dX10_goesRelay_45 rfl ?_
        refine S_lh (fun h23 => ?_)
        refine S_iconst (a := 0) dX10_goesRelay_48 rfl (by decide) ?_
        refine S_istore (lv' := [(5, qi 0), (0, qr 212), (1, qi a1), (2, qi a2), (3, qi a3), (4, qi a4)]) dX10_goesRelay_49 (by decide) rfl rfl ?_
        refine S_sub [1, 3, 0] rfl ?_
        exact TX10_goesRelay_l51 f_X10_goesRelay hf_X10_goesRelay hdd LF a2 0 h23
      · refine S_iload_n 2 dX10_goesRelay_28 rfl rfl rfl ?_
        refine S_aload_n 0 dX10_goesRelay_29 rfl rfl rfl ?_
        refine S_geti 29 qC_10 (by decide) (by decide) qk_212 tw_1255 dX10_goesRelay_30 rfl ?_
        refine S_icmp_lt (tgt := 37) dX10_goesRelay_33 (by decide) rfl (fun _ => ?_) (fun _ => ?_)
        · refine S_aload_n 0 dX10_goesRelay_37 rfl rfl rfl ?_
          refine S_iload 4 dX10_goesRelay_38 rfl rfl ?_
          refine S_puti 28 qC_10 (by decide) (by decide) rfl rfl qk_212 (by decide) tw_1254 dX10_goesRelay_40 rfl ?_
          refine S_lh (fun h24 => ?_)
          refine S_aload_n 0 dX10_goesRelay_43 rfl rfl rfl ?_
          refine S_iload_n 2 dX10_goesRelay_44 rfl rfl rfl ?_
          refine S_puti 29 qC_10 (by decide) (by decide) rfl rfl qk_212 (by decide) tw_1255 dX10_goesRelay_45 rfl ?_
          refine S_lh (fun h25 => ?_)
          refine S_iconst (a := 0) dX10_goesRelay_48 rfl (by decide) ?_
          refine S_istore (lv' := [(5, qi 0), (0, qr 212), (1, qi a1), (2, qi a2), (3, qi a3), (4, qi a4)]) dX10_goesRelay_49 (by decide) rfl rfl ?_
          refine S_sub [1, 3, 0] rfl ?_
          exact TX10_goesRelay_l51 f_X10_goesRelay hf_X10_goesRelay hdd LF a2 0 h25
        · exact S_vret dX10_goesRelay_36
def RX10_goesRelayg : Nat → Nat → Int → Int → Int → Int → qH → Option (Int × qH)
  | 0, _, _, _, _, _, _ => none
  | n + 1, k, a, b, c, e, h => DX10_goesRelay (fun a b c e h => RX10_goesRelayg n 0 a b c e h) a b c e h
set_option maxRecDepth 100000 in
theorem TRX10_goesRelayg {L : Nat} {xs : Nat → Int32} : ∀ n : Nat, (∀ (a b c e : Int) (h : qH), qMet L xs yX10_goesRelay cX10_goesRelay 7 (none) 0 (10 + n) [qr 212, qi a, qi b, qi c, qi e] h (RX10_goesRelayg n 0 a b c e h)) := by
  intro n
  induction n with
  | zero => exact fun _ _ _ _ h => fun _ _ hx => (by cases hx)
  | succ n ih =>
    have i0 := ih
    exact fun a b c e h => TX10_goesRelay (dd := 10 + n) (fun a b c e h => RX10_goesRelayg n 0 a b c e h) i0 (by have := n; omega) a b c e h
def RX10_goesRelay (a1 : Int) (a2 : Int) (a3 : Int) (a4 : Int) (h : qH) : Option (Int × qH) := RX10_goesRelayg 100 0 a1 a2 a3 a4 h
theorem TRX10_goesRelay {L : Nat} {xs : Nat → Int32} (a1 : Int) (a2 : Int) (a3 : Int) (a4 : Int) (h : qH) : qMet L xs yX10_goesRelay cX10_goesRelay 7 (none) 0 110 [qr 212, qi a1, qi a2, qi a3, qi a4] h (RX10_goesRelay a1 a2 a3 a4 h) := (TRX10_goesRelayg 100) a1 a2 a3 a4 h
def DX10_image_l20 : Nat → Int → Int → qH → Option (Int × qH)
  | 0, _, _, _ => none
  | n + 1, a1, a2, h => (if 1912 ≤ a2 then (if 0 ≤ a1 ∧ a1 < 2 then qlt (qu h 214 a1.toNat (qand 1 1)) fun h1 => some (0, h1) else none) else (if 0 ≤ a2 ∧ a2 < 5736 then (if 0 ≤ qw (qw (1912 * qw (a1 + 1)) + a2) ∧ qw (qw (1912 * qw (a1 + 1)) + a2) < 5736 then qlt (qu h 213 (qw (qw (1912 * qw (a1 + 1)) + a2)).toNat (h.1 213 a2.toNat)) fun h4 => ((DX10_image_l20 n) a1 (qw (a2 + 1)) h4) else none) else none))
set_option maxRecDepth 100000 in
theorem TX10_image_l20 {L : Nat} {xs : Nat → Int32} : ∀ (n : Nat) (a1 : Int) (a2 : Int) (h : qH), qS L xs cX10_image "BottlePostModel" 3 2 1 20 [(0, qr 212), (1, qi a1), (2, qi a2)] [] h (DX10_image_l20 n a1 a2 h) := by
  intro n
  induction n with
  | zero =>
    intro a1 a2 h
    exact S_none
  | succ n ih =>
    intro a1 a2 h
    rw [DX10_image_l20.eq_2]
    refine S_iload_n 2 dX10_image_20 rfl rfl rfl ?_
    refine S_sipush (a := 1912) dX10_image_21 rfl (by decide) (by decide) ?_
    refine S_icmp_ge (tgt := 53) dX10_image_24 (by decide) rfl (fun _ => ?_) (fun _ => ?_)
    · refine S_aload_n 0 dX10_image_53 rfl rfl rfl ?_
      refine S_getr (j := 214) (o := 2) 2 qC_10 (by decide) (by decide) qk_212 rfl rfl (by decide) tw_1228 dX10_image_54 rfl ?_
      refine S_iload_n 1 dX10_image_57 rfl rfl rfl ?_
      refine S_iconst (a := 1) dX10_image_58 rfl (by decide) ?_
      refine S_zast (N := 2) qk_214 rfl dX10_image_59 rfl (fun _ _ => ?_)
      refine S_lh (fun h1 => ?_)
      refine S_iconst (a := 0) dX10_image_60 rfl (by decide) ?_
      exact S_iret dX10_image_61
    · refine S_aload_n 0 dX10_image_27 rfl rfl rfl ?_
      refine S_getr (j := 213) (o := 1) 1 qC_10 (by decide) (by decide) qk_212 rfl rfl (by decide) tw_1227 dX10_image_28 rfl ?_
      refine S_sipush (a := 1912) dX10_image_31 rfl (by decide) (by decide) ?_
      refine S_iload_n 1 dX10_image_34 rfl rfl rfl ?_
      refine S_iconst (a := 1) dX10_image_35 rfl (by decide) ?_
      refine S_iadd dX10_image_36 rfl ?_
      refine S_imul dX10_image_37 rfl ?_
      refine S_iload_n 2 dX10_image_38 rfl rfl rfl ?_
      refine S_iadd dX10_image_39 rfl ?_
      refine S_aload_n 0 dX10_image_40 rfl rfl rfl ?_
      refine S_getr (j := 213) (o := 1) 1 qC_10 (by decide) (by decide) qk_212 rfl rfl (by decide) tw_1227 dX10_image_41 rfl ?_
      refine S_iload_n 2 dX10_image_44 rfl rfl rfl ?_
      refine S_iald (N := 5736) qk_213 rfl dX10_image_45 rfl (fun g2 g3 => ?_)
      refine S_iast (N := 5736) qk_213 rfl dX10_image_46 rfl (fun _ _ => ?_)
      refine S_lh (fun h4 => ?_)
      refine S_iinc (lv' := [(2, qi (qw (a2 + 1))), (0, qr 212), (1, qi a1)]) 2 dX10_image_47 rfl (by decide) rfl rfl ?_
      refine S_goto (pc' := 20) dX10_image_50 (by decide) ?_
      refine S_sub [1, 2, 0] rfl ?_
      exact ih a1 (qw (a2 + 1)) h4
def DX10_image (a1 : Int) (h : qH) : Option (Int × qH) := (qlt (qu h 212 0 0) fun h5 => (qbd (DX10_within a1 0 1 h5) fun r6 h7 => (if ¬ r6 = 0 then (DX10_image_l20 LF a1 0 h7) else some ((-2), h7))))
set_option maxRecDepth 100000 in
theorem TX10_image {L : Nat} {xs : Nat → Int32} (a1 : Int) (h : qH) : qMet L xs yX10_image cX10_image 3 (some .int) 1 2 [qr 212, qi a1] h (DX10_image a1 h) := by
  refine qMet.of (by decide +kernel) (Or.inr (Or.inl ⟨rfl, rfl⟩)) (Nat.le_of_ble_eq_true rfl) ?_
  show qS L xs cX10_image "BottlePostModel" 3 2 1 0 [(0, qr 212), (1, qi a1)] [] h (DX10_image a1 h)
  unfold DX10_image
  refine S_aload_n 0 dX10_image_0 rfl rfl rfl ?_
  refine S_iconst (a := 0) dX10_image_1 rfl (by decide) ?_
  refine S_puti 0 qC_10 (by decide) (by decide) rfl rfl qk_212 (by decide) tw_1226 dX10_image_2 rfl ?_
  refine S_lh (fun h5 => ?_)
  refine S_iload_n 1 dX10_image_5 rfl rfl rfl ?_
  refine S_i2l dX10_image_6 rfl ?_
  refine S_lconst (a := 0) dX10_image_7 rfl (by decide) (by decide) ?_
  refine S_lconst (a := 1) dX10_image_8 rfl (by decide) (by decide) ?_
  refine S_callS_i (as := [ql a1, ql 0, ql 1]) (st := []) (fun _ => rfl) (TX10_within a1 0 1 h5) yv_X10_within tw_1352 (by decide) rfl rfl (Nat.le_of_ble_eq_true rfl) dX10_image_9 rfl (fun r6 h7 e8 => ?_)
  refine S_if_ne (tgt := 18) dX10_image_12 (by decide) rfl (fun _ => ?_) (fun _ => ?_)
  · refine S_iconst (a := 0) dX10_image_18 rfl (by decide) ?_
    refine S_istore_n (lv' := [(2, qi 0), (0, qr 212), (1, qi a1)]) dX10_image_19 rfl (by decide) rfl rfl ?_
    refine S_sub [1, 2, 0] rfl ?_
    exact TX10_image_l20 LF a1 0 h7
  · refine S_bipush (a := (-2)) dX10_image_15 rfl (by decide) (by decide) ?_
    exact S_iret dX10_image_17
def DX10_isAgain_l2 : Nat → Int → qH → Option (Int × qH)
  | 0, _, _ => none
  | n + 1, a1, h => (if 66 ≤ a1 then some (0, h) else (if 0 ≤ a1 ∧ a1 < 66 then (if 0 ≤ qw (284 + a1) ∧ qw (284 + a1) < 5736 then qlt (qu h 213 (qw (284 + a1)).toNat (h.1 219 a1.toNat)) fun h3 => ((DX10_isAgain_l2 n) (qw (a1 + 1)) h3) else none) else none))
set_option maxRecDepth 100000 in
theorem TX10_isAgain_l2 {L : Nat} {xs : Nat → Int32} : ∀ (n : Nat) (a1 : Int) (h : qH), qS L xs cX10_isAgain "BottlePostModel" 2 1 0 2 [(0, qr 212), (1, qi a1)] [] h (DX10_isAgain_l2 n a1 h) := by
  intro n
  induction n with
  | zero =>
    intro a1 h
    exact S_none
  | succ n ih =>
    intro a1 h
    rw [DX10_isAgain_l2.eq_2]
    refine S_iload_n 1 dX10_isAgain_2 rfl rfl rfl ?_
    refine S_bipush (a := 66) dX10_isAgain_3 rfl (by decide) (by decide) ?_
    refine S_icmp_ge (tgt := 30) dX10_isAgain_5 (by decide) rfl (fun _ => ?_) (fun _ => ?_)
    · exact S_vret dX10_isAgain_30
    · refine S_aload_n 0 dX10_isAgain_8 rfl rfl rfl ?_
      refine S_getr (j := 213) (o := 1) 1 qC_10 (by decide) (by decide) qk_212 rfl rfl (by decide) tw_1227 dX10_isAgain_9 rfl ?_
      refine S_sipush (a := 284) dX10_isAgain_12 rfl (by decide) (by decide) ?_
      refine S_iload_n 1 dX10_isAgain_15 rfl rfl rfl ?_
      refine S_iadd dX10_isAgain_16 rfl ?_
      refine S_aload_n 0 dX10_isAgain_17 rfl rfl rfl ?_
      refine S_getr (j := 219) (o := 7) 20 qC_10 (by decide) (by decide) qk_212 rfl rfl (by decide) tw_1246 dX10_isAgain_18 rfl ?_
      refine S_iload_n 1 dX10_isAgain_21 rfl rfl rfl ?_
      refine S_iald (N := 66) qk_219 rfl dX10_isAgain_22 rfl (fun g1 g2 => ?_)
      refine S_iast (N := 5736) qk_213 rfl dX10_isAgain_23 rfl (fun _ _ => ?_)
      refine S_lh (fun h3 => ?_)
      refine S_iinc (lv' := [(1, qi (qw (a1 + 1))), (0, qr 212)]) 1 dX10_isAgain_24 rfl (by decide) rfl rfl ?_
      refine S_goto (pc' := 2) dX10_isAgain_27 (by decide) ?_
      refine S_sub [1, 0] rfl ?_
      exact ih (qw (a1 + 1)) h3
def DX10_isAgain (h : qH) : Option (Int × qH) := (DX10_isAgain_l2 LF 0 h)
set_option maxRecDepth 100000 in
theorem TX10_isAgain {L : Nat} {xs : Nat → Int32} (h : qH) : qMet L xs yX10_isAgain cX10_isAgain 2 (none) 0 1 [qr 212] h (DX10_isAgain h) := by
  refine qMet.of (by decide +kernel) (Or.inl ⟨rfl, rfl⟩) (Nat.le_of_ble_eq_true rfl) ?_
  show qS L xs cX10_isAgain "BottlePostModel" 2 1 0 0 [(0, qr 212)] [] h (DX10_isAgain h)
  unfold DX10_isAgain
  refine S_iconst (a := 0) dX10_isAgain_0 rfl (by decide) ?_
  refine S_istore_n (lv' := [(1, qi 0), (0, qr 212)]) dX10_isAgain_1 rfl (by decide) rfl rfl ?_
  refine S_sub [1, 0] rfl ?_
  exact TX10_isAgain_l2 LF 0 h
def DX10_isFit_b30 (a1 : Int) (h : qH) : Option (Int × qH) := (qlt (qu h 212 30 (qw (h.1 212 30 + 1))) fun h1 => (qlt (qu h1 212 31 (qor (h1.1 212 31) (qshl 1 a1))) fun h2 => some (0, h2)))
set_option maxRecDepth 100000 in
theorem TX10_isFit_b30 {L : Nat} {xs : Nat → Int32} (a1 : Int) (h : qH) : qS L xs cX10_isFit "BottlePostModel" 6 1 0 30 [(0, qr 212), (1, qi a1)] [] h (DX10_isFit_b30 a1 h) := by
  unfold DX10_isFit_b30
  refine S_aload_n 0 dX10_isFit_30 rfl rfl rfl ?_
  refine S_dup dX10_isFit_31 rfl rfl ?_
  refine S_geti 30 qC_10 (by decide) (by decide) qk_212 tw_1256 dX10_isFit_32 rfl ?_
  refine S_iconst (a := 1) dX10_isFit_35 rfl (by decide) ?_
  refine S_iadd dX10_isFit_36 rfl ?_
  refine S_puti 30 qC_10 (by decide) (by decide) rfl rfl qk_212 (by decide) tw_1256 dX10_isFit_37 rfl ?_
  refine S_lh (fun h1 => ?_)
  refine S_aload_n 0 dX10_isFit_40 rfl rfl rfl ?_
  refine S_dup dX10_isFit_41 rfl rfl ?_
  refine S_geti 31 qC_10 (by decide) (by decide) qk_212 tw_1257 dX10_isFit_42 rfl ?_
  refine S_iconst (a := 1) dX10_isFit_45 rfl (by decide) ?_
  refine S_iload_n 1 dX10_isFit_46 rfl rfl rfl ?_
  refine S_ishl dX10_isFit_47 rfl ?_
  refine S_ior dX10_isFit_48 rfl ?_
  refine S_puti 31 qC_10 (by decide) (by decide) rfl rfl qk_212 (by decide) tw_1257 dX10_isFit_49 rfl ?_
  refine S_lh (fun h2 => ?_)
  exact S_vret dX10_isFit_52
def DX10_isFit (a1 : Int) (a2 : Int) (a3 : Int) (a4 : Int) (a5 : Int) (h : qH) : Option (Int × qH) := (if ¬ h.1 212 30 = a5 then (DX10_isFit_b30 a1 h) else (qlt (qu h 212 32 a1) fun h3 => (qlt (qu h3 212 33 a2) fun h4 => (qlt (qu h4 212 34 a3) fun h5 => (qlt (qu h5 212 35 a4) fun h6 => (DX10_isFit_b30 a1 h6))))))
set_option maxRecDepth 100000 in
theorem TX10_isFit {L : Nat} {xs : Nat → Int32} (a1 : Int) (a2 : Int) (a3 : Int) (a4 : Int) (a5 : Int) (h : qH) : qMet L xs yX10_isFit cX10_isFit 6 (none) 0 1 [qr 212, qi a1, qi a2, qi a3, qi a4, qi a5] h (DX10_isFit a1 a2 a3 a4 a5 h) := by
  refine qMet.of (by decide +kernel) (Or.inl ⟨rfl, rfl⟩) (Nat.le_of_ble_eq_true rfl) ?_
  show qS L xs cX10_isFit "BottlePostModel" 6 1 0 0 [(0, qr 212), (1, qi a1), (2, qi a2), (3, qi a3), (4, qi a4), (5, qi a5)] [] h (DX10_isFit a1 a2 a3 a4 a5 h)
  unfold DX10_isFit
  refine S_aload_n 0 dX10_isFit_0 rfl rfl rfl ?_
  refine S_geti 30 qC_10 (by decide) (by decide) qk_212 tw_1256 dX10_isFit_1 rfl ?_
  refine S_iload 5 dX10_isFit_4 rfl rfl ?_
  refine S_icmp_ne (tgt := 30) dX10_isFit_6 (by decide) rfl (fun _ => ?_) (fun _ => ?_)
  · refine S_sub [0, 1] rfl ?_
    exact TX10_isFit_b30 a1 h
  · refine S_aload_n 0 dX10_isFit_9 rfl rfl rfl ?_
    refine S_iload_n 1 dX10_isFit_10 rfl rfl rfl ?_
    refine S_puti 32 qC_10 (by decide) (by decide) rfl rfl qk_212 (by decide) tw_1258 dX10_isFit_11 rfl ?_
    refine S_lh (fun h3 => ?_)
    refine S_aload_n 0 dX10_isFit_14 rfl rfl rfl ?_
    refine S_iload_n 2 dX10_isFit_15 rfl rfl rfl ?_
    refine S_puti 33 qC_10 (by decide) (by decide) rfl rfl qk_212 (by decide) tw_1259 dX10_isFit_16 rfl ?_
    refine S_lh (fun h4 => ?_)
    refine S_aload_n 0 dX10_isFit_19 rfl rfl rfl ?_
    refine S_iload_n 3 dX10_isFit_20 rfl rfl rfl ?_
    refine S_puti 34 qC_10 (by decide) (by decide) rfl rfl qk_212 (by decide) tw_1260 dX10_isFit_21 rfl ?_
    refine S_lh (fun h5 => ?_)
    refine S_aload_n 0 dX10_isFit_24 rfl rfl rfl ?_
    refine S_iload 4 dX10_isFit_25 rfl rfl ?_
    refine S_puti 35 qC_10 (by decide) (by decide) rfl rfl qk_212 (by decide) tw_1261 dX10_isFit_27 rfl ?_
    refine S_lh (fun h6 => ?_)
    refine S_sub [0, 1] rfl ?_
    exact TX10_isFit_b30 a1 h6
