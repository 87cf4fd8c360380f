def DX10_season_l46 : Nat → Int → Int → Int → qH → Option (Int × qH)
  | 0, _, _, _, _ => none
  | n + 1, a2, a3, a4, h => (if a2 ≤ a4 then (if a3 ≤ 0 then some (a3, h) else (qbd (DX10_notes h) fun r1 h2 => some (a3, h2))) else (qbd (DX10_drawn h) fun r4 h5 => (qbd (DX10_whyNot r4 h5) fun r7 h8 => (if r7 = 0 then (qbd (DX10_does r4 h8) fun r10 h11 => (qlt (qw (a3 + 1)) fun v13 => ((DX10_season_l46 n) a2 v13 (qw (a4 + 1)) h11))) else ((DX10_season_l46 n) a2 a3 (qw (a4 + 1)) h8)))))
set_option maxRecDepth 100000 in
theorem TX10_season_l46 {L : Nat} {xs : Nat → Int32} : ∀ (n : Nat) (a2 : Int) (a3 : Int) (a4 : Int) (h : qH), qS L xs cX10_season "BottlePostModel" 6 9 1 46 [(0, qr 212), (2, qi a2), (3, qi a3), (4, qi a4)] [] h (DX10_season_l46 n a2 a3 a4 h) := by
  intro n
  induction n with
  | zero =>
    intro a2 a3 a4 h
    exact S_none
  | succ n ih =>
    intro a2 a3 a4 h
    rw [DX10_season_l46.eq_2]
    refine S_iload 3 dX10_season_46 rfl rfl ?_
    refine S_iload_n 1 dX10_season_48 rfl rfl rfl ?_
    refine S_icmp_ge (tgt := 86) dX10_season_49 (by decide) rfl (fun _ => ?_) (fun _ => ?_)
    · refine S_iload_n 2 dX10_season_86 rfl rfl rfl ?_
      refine S_if_le (tgt := 94) dX10_season_87 (by decide) rfl (fun _ => ?_) (fun _ => ?_)
      · refine S_iload_n 2 dX10_season_94 rfl rfl rfl ?_
        exact S_iret dX10_season_95
      · refine S_aload_n 0 dX10_season_90 rfl rfl rfl ?_
        refine S_callV_0 (as := []) (st := []) (fun _ => rfl) (TX10_notes h) yv_X10_notes tw_1573 qC_10 qk_212 (by decide) rfl rfl (Nat.le_of_ble_eq_true rfl) dX10_season_91 rfl (fun r1 h2 e3 => ?_)
        refine S_iload_n 2 dX10_season_94 rfl rfl rfl ?_
        exact S_iret dX10_season_95
    · refine S_aload_n 0 dX10_season_52 rfl rfl rfl ?_
      refine S_callV_i (as := []) (st := []) (fun _ => rfl) (TX10_drawn h) yv_X10_drawn tw_1677 qC_10 qk_212 (by decide) rfl rfl (Nat.le_of_ble_eq_true rfl) dX10_season_53 rfl (fun r4 h5 e6 => ?_)
      refine S_istore (lv' := [(5, qi r4), (0, qr 212), (2, qi a2), (3, qi a3), (4, qi a4)]) dX10_season_56 (by decide) rfl rfl ?_
      refine S_aload_n 1 dX10_season_58 rfl rfl rfl ?_
      refine S_iload 0 dX10_season_59 rfl rfl ?_
      refine S_i2l dX10_season_61 rfl ?_
      refine S_callV_i (as := [ql r4]) (st := []) (fun _ => rfl) (TX10_whyNot r4 h5) yv_X10_whyNot tw_1647 qC_10 qk_212 (by decide) rfl rfl (Nat.le_of_ble_eq_true rfl) dX10_season_62 rfl (fun r7 h8 e9 => ?_)
      refine S_if_eq (tgt := 71) dX10_season_65 (by decide) rfl (fun _ => ?_) (fun _ => ?_)
      · refine S_aload_n 1 dX10_season_71 rfl rfl rfl ?_
        refine S_iload 0 dX10_season_72 rfl rfl ?_
        refine S_callV_0 (as := [qi r4]) (st := []) (fun _ => rfl) (TX10_does r4 h8) yv_X10_does tw_1656 qC_10 qk_212 (by decide) rfl rfl (Nat.le_of_ble_eq_true rfl) dX10_season_74 rfl (fun r10 h11 e12 => ?_)
        refine S_iinc (lv' := [(3, qi (qw (a3 + 1))), (5, qi r4), (0, qr 212), (2, qi a2), (4, qi a4)]) 3 dX10_season_77 rfl (by decide) rfl rfl ?_
        refine S_li (fun v13 => ?_)
        refine S_iinc (lv' := [(4, qi (qw (a4 + 1))), (3, qi v13), (5, qi r4), (0, qr 212), (2, qi a2)]) 4 dX10_season_80 rfl (by decide) rfl rfl ?_
        refine S_goto (pc' := 46) dX10_season_83 (by decide) ?_
        refine S_sub [3, 4, 1, 0] rfl ?_
        exact ih a2 v13 (qw (a4 + 1)) h11
      · refine S_goto (pc' := 80) dX10_season_68 (by decide) ?_
        refine S_iinc (lv' := [(4, qi (qw (a4 + 1))), (5, qi r4), (0, qr 212), (2, qi a2), (3, qi a3)]) 4 dX10_season_80 rfl (by decide) rfl rfl ?_
        refine S_goto (pc' := 46) dX10_season_83 (by decide) ?_
        refine S_sub [2, 3, 4, 0] rfl ?_
        exact ih a2 a3 (qw (a4 + 1)) h8
def DX10_season (a1 : Int) (a2 : Int) (h : qH) : Option (Int × qH) := (qlt (qu h 212 0 0) fun h14 => (qbd (DX10_within a2 1 40 h14) fun r15 h16 => (if ¬ r15 = 0 then (if ¬ h16.1 213 4 = 0 then (qbd (DX10_keepsAll h16) fun r20 h21 => (qlt (qu h21 212 22 a1) fun h23 => (DX10_season_l46 LF a2 0 0 h23))) else some ((-5), h16)) else some ((-3), h16))))
set_option maxRecDepth 100000 in
theorem TX10_season {L : Nat} {xs : Nat → Int32} (a1 : Int) (a2 : Int) (h : qH) : qMet L xs yX10_season cX10_season 6 (some .int) 1 9 [qr 212, qi a1, qi a2] h (DX10_season a1 a2 h) := by
  refine qMet.of (by decide +kernel) (Or.inr (Or.inl ⟨rfl, rfl⟩)) (Nat.le_of_ble_eq_true rfl) ?_
  show qS L xs cX10_season "BottlePostModel" 6 9 1 0 [(0, qr 212), (1, qi a1), (2, qi a2)] [] h (DX10_season a1 a2 h)
  unfold DX10_season
  refine S_aload_n 0 dX10_season_0 rfl rfl rfl ?_
  refine S_iconst (a := 0) dX10_season_1 rfl (by decide) ?_
  refine S_puti 0 qC_10 (by decide) (by decide) rfl rfl qk_212 (by decide) tw_1226 dX10_season_2 rfl ?_
  refine S_lh (fun h14 => ?_)
  refine S_iload_n 2 dX10_season_5 rfl rfl rfl ?_
  refine S_i2l dX10_season_6 rfl ?_
  refine S_lconst (a := 1) dX10_season_7 rfl (by decide) (by decide) ?_
  refine S_ldc2 (a := 40) dX10_season_8 rfl (by rw [show Int64.ofInt 40 = (40 : Int64) from by decide]; exact tw_1676) (by decide) ?_
  refine S_callS_i (as := [ql a2, ql 1, ql 40]) (st := []) (fun _ => rfl) (TX10_within a2 1 40 h14) yv_X10_within tw_1352 (by decide) rfl rfl (Nat.le_of_ble_eq_true rfl) dX10_season_11 rfl (fun r15 h16 e17 => ?_)
  refine S_if_ne (tgt := 20) dX10_season_14 (by decide) rfl (fun _ => ?_) (fun _ => ?_)
  · refine S_aload_n 0 dX10_season_20 rfl rfl rfl ?_
    refine S_getr (j := 213) (o := 1) 1 qC_10 (by decide) (by decide) qk_212 rfl rfl (by decide) tw_1227 dX10_season_21 rfl ?_
    refine S_iconst (a := 4) dX10_season_24 rfl (by decide) ?_
    refine S_pick_t ((0 : Int) ≤ 4 ∧ (4 : Int) < 5736) (by decide) ?_
    refine S_iald (N := 5736) qk_213 rfl dX10_season_25 rfl (fun g18 g19 => ?_)
    refine S_if_ne (tgt := 32) dX10_season_26 (by decide) rfl (fun _ => ?_) (fun _ => ?_)
    · refine S_aload_n 0 dX10_season_32 rfl rfl rfl ?_
      refine S_callV_0 (as := []) (st := []) (fun _ => rfl) (TX10_keepsAll h16) yv_X10_keepsAll tw_1557 qC_10 qk_212 (by decide) rfl rfl (Nat.le_of_ble_eq_true rfl) dX10_season_33 rfl (fun r20 h21 e22 => ?_)
      refine S_aload_n 0 dX10_season_36 rfl rfl rfl ?_
      refine S_iload_n 1 dX10_season_37 rfl rfl rfl ?_
      refine S_puti 22 qC_10 (by decide) (by decide) rfl rfl qk_212 (by decide) tw_1248 dX10_season_38 rfl ?_
      refine S_lh (fun h23 => ?_)
      refine S_iconst (a := 0) dX10_season_41 rfl (by decide) ?_
      refine S_istore_n (lv' := [(3, qi 0), (0, qr 212), (1, qi a1), (2, qi a2)]) dX10_season_42 rfl (by decide) rfl rfl ?_
      refine S_iconst (a := 0) dX10_season_43 rfl (by decide) ?_
      refine S_istore (lv' := [(4, qi 0), (3, qi 0), (0, qr 212), (1, qi a1), (2, qi a2)]) dX10_season_44 (by decide) rfl rfl ?_
      refine S_sub [2, 4, 1, 0] rfl ?_
      exact TX10_season_l46 LF a2 0 0 h23
    · refine S_bipush (a := (-5)) dX10_season_29 rfl (by decide) (by decide) ?_
      exact S_iret dX10_season_31
  · refine S_bipush (a := (-3)) dX10_season_17 rfl (by decide) (by decide) ?_
    exact S_iret dX10_season_19
def DX10_seen (a1 : Int) (h : qH) : Option (Int × qH) := (qlt (qu h 212 0 0) fun h1 => (qbd (DX10_noSeen a1 h1) fun r2 h3 => (if r2 = 0 then (qbd (DX10_laysFits a1 (-1) h3) fun r5 h6 => some (h6.1 212 30, h6)) else some (r2, h3))))
set_option maxRecDepth 100000 in
theorem TX10_seen {L : Nat} {xs : Nat → Int32} (a1 : Int) (h : qH) : qMet L xs yX10_seen cX10_seen 3 (some .int) 1 9 [qr 212, qi a1] h (DX10_seen a1 h) := by
  refine qMet.of (by decide +kernel) (Or.inr (Or.inl ⟨rfl, rfl⟩)) (Nat.le_of_ble_eq_true rfl) ?_
  show qS L xs cX10_seen "BottlePostModel" 3 9 1 0 [(0, qr 212), (1, qi a1)] [] h (DX10_seen a1 h)
  unfold DX10_seen
  refine S_aload_n 0 dX10_seen_0 rfl rfl rfl ?_
  refine S_iconst (a := 0) dX10_seen_1 rfl (by decide) ?_
  refine S_puti 0 qC_10 (by decide) (by decide) rfl rfl qk_212 (by decide) tw_1226 dX10_seen_2 rfl ?_
  refine S_lh (fun h1 => ?_)
  refine S_aload_n 0 dX10_seen_5 rfl rfl rfl ?_
  refine S_iload_n 1 dX10_seen_6 rfl rfl rfl ?_
  refine S_callV_i (as := [qi a1]) (st := []) (fun _ => rfl) (TX10_noSeen a1 h1) yv_X10_noSeen tw_1795 qC_10 qk_212 (by decide) rfl rfl (Nat.le_of_ble_eq_true rfl) dX10_seen_7 rfl (fun r2 h3 e4 => ?_)
  refine S_istore_n (lv' := [(2, qi r2), (0, qr 212), (1, qi a1)]) dX10_seen_10 rfl (by decide) rfl rfl ?_
  refine S_iload_n 0 dX10_seen_11 rfl rfl rfl ?_
  refine S_if_eq (tgt := 17) dX10_seen_12 (by decide) rfl (fun _ => ?_) (fun _ => ?_)
  · refine S_aload_n 1 dX10_seen_17 rfl rfl rfl ?_
    refine S_iload_n 2 dX10_seen_18 rfl rfl rfl ?_
    refine S_iconst (a := (-1)) dX10_seen_19 rfl (by decide) ?_
    refine S_callV_0 (as := [qi a1, qi (-1)]) (st := []) (fun _ => rfl) (TX10_laysFits a1 (-1) h3) yv_X10_laysFits tw_1800 qC_10 qk_212 (by decide) rfl rfl (Nat.le_of_ble_eq_true rfl) dX10_seen_20 rfl (fun r5 h6 e7 => ?_)
    refine S_aload_n 1 dX10_seen_23 rfl rfl rfl ?_
    refine S_geti 30 qC_10 (by decide) (by decide) qk_212 tw_1256 dX10_seen_24 rfl ?_
    exact S_iret dX10_seen_27
  · refine S_iload_n 0 dX10_seen_15 rfl rfl rfl ?_
    exact S_iret dX10_seen_16
def DX10_stateSet_b86 (k5 : Int → Int → Int → Int → qH → Option (Int × qH)) (a1 : Int) (a2 : Int) (a3 : Int) (a4 : Int) (b0 : Int) (h : qH) : Option (Int × qH) := (if 0 ≤ qw (284 + qw (8 * a4)) ∧ qw (284 + qw (8 * a4)) < 5736 then (if ¬ h.1 213 (qw (284 + qw (8 * a4))).toNat = a2 then (k5 a1 a2 a3 (qw (a4 + 1)) h) else (if b0 = 0 then (k5 a1 a2 a3 (qw (a4 + 1)) h) else (qlt (qor a3 (qshl 1 a4)) fun v3 => (k5 a1 a2 v3 (qw (a4 + 1)) h)))) else none)
set_option maxRecDepth 100000 in
theorem TX10_stateSet_b86 {L : Nat} {xs : Nat → Int32} (k5 : Int → Int → Int → Int → qH → Option (Int × qH)) (hk5 : ∀ (a1 : Int) (a2 : Int) (a3 : Int) (a4 : Int) (h : qH), qS L xs cX10_stateSet "BottlePostModel" 6 1 1 5 [(0, qr 212), (1, qi a1), (2, qi a2), (3, qi a3), (4, qi a4)] [] h (k5 a1 a2 a3 a4 h)) (a1 : Int) (a2 : Int) (a3 : Int) (a4 : Int) (b0 : Int) (h : qH) : qS L xs cX10_stateSet "BottlePostModel" 6 1 1 86 [(0, qr 212), (1, qi a1), (2, qi a2), (3, qi a3), (4, qi a4)] [qi b0] h (DX10_stateSet_b86 k5 a1 a2 a3 a4 b0 h) := by
  unfold DX10_stateSet_b86
  refine S_istore (lv' := [(5, qi b0), (0, qr 212), (1, qi a1), (2, qi a2), (3, qi a3), (4, qi a4)]) dX10_stateSet_86 (by decide) rfl rfl ?_
  refine S_aload_n 1 dX10_stateSet_88 rfl rfl rfl ?_
  refine S_getr (j := 213) (o := 1) 1 qC_10 (by decide) (by decide) qk_212 rfl rfl (by decide) tw_1227 dX10_stateSet_89 rfl ?_
  refine S_sipush (a := 284) dX10_stateSet_92 rfl (by decide) (by decide) ?_
  refine S_bipush (a := 8) dX10_stateSet_95 rfl (by decide) (by decide) ?_
  refine S_iload 5 dX10_stateSet_97 rfl rfl ?_
  refine S_imul dX10_stateSet_99 rfl ?_
  refine S_iadd dX10_stateSet_100 rfl ?_
  refine S_iald (N := 5736) qk_213 rfl dX10_stateSet_101 rfl (fun g1 g2 => ?_)
  refine S_iload_n 3 dX10_stateSet_102 rfl rfl rfl ?_
  refine S_icmp_ne (tgt := 118) dX10_stateSet_103 (by decide) rfl (fun _ => ?_) (fun _ => ?_)
  · refine S_iinc (lv' := [(4, qi (qw (a4 + 1))), (5, qi b0), (0, qr 212), (1, qi a1), (2, qi a2), (3, qi a3)]) 5 dX10_stateSet_118 rfl (by decide) rfl rfl ?_
    refine S_goto (pc' := 5) dX10_stateSet_121 (by decide) ?_
    refine S_sub [2, 3, 4, 5, 0] rfl ?_
    exact hk5 a1 a2 a3 (qw (a4 + 1)) h
  · refine S_iload 0 dX10_stateSet_106 rfl rfl ?_
    refine S_if_eq (tgt := 118) dX10_stateSet_108 (by decide) rfl (fun _ => ?_) (fun _ => ?_)
    · refine S_iinc (lv' := [(4, qi (qw (a4 + 1))), (5, qi b0), (0, qr 212), (1, qi a1), (2, qi a2), (3, qi a3)]) 5 dX10_stateSet_118 rfl (by decide) rfl rfl ?_
      refine S_goto (pc' := 5) dX10_stateSet_121 (by decide) ?_
      refine S_sub [2, 3, 4, 5, 0] rfl ?_
      exact hk5 a1 a2 a3 (qw (a4 + 1)) h
    · refine S_iload_n 4 dX10_stateSet_111 rfl rfl rfl ?_
      refine S_iconst (a := 1) dX10_stateSet_112 rfl (by decide) ?_
      refine S_iload 5 dX10_stateSet_113 rfl rfl ?_
      refine S_ishl dX10_stateSet_115 rfl ?_
      refine S_ior dX10_stateSet_116 rfl ?_
      refine S_istore_n (lv' := [(3, qi (qor a3 (qshl 1 a4))), (5, qi b0), (0, qr 212), (1, qi a1), (2, qi a2), (4, qi a4)]) dX10_stateSet_117 rfl (by decide) rfl rfl ?_
      refine S_li (fun v3 => ?_)
      refine S_iinc (lv' := [(4, qi (qw (a4 + 1))), (3, qi v3), (5, qi b0), (0, qr 212), (1, qi a1), (2, qi a2)]) 5 dX10_stateSet_118 rfl (by decide) rfl rfl ?_
      refine S_goto (pc' := 5) dX10_stateSet_121 (by decide) ?_
      refine S_sub [3, 4, 5, 1, 0] rfl ?_
      exact hk5 a1 a2 v3 (qw (a4 + 1)) h
def DX10_stateSet_l5 : Nat → Int → Int → Int → Int → qH → Option (Int × qH)
  | 0, _, _, _, _, _ => none
  | n + 1, a1, a2, a3, a4, h => (if h.1 213 348 ≤ a4 then some (a3, h) else (if ¬ a2 = 1 then (if 0 ≤ qw (qw (284 + qw (8 * a4)) + 7) ∧ qw (qw (284 + qw (8 * a4)) + 7) < 5736 then (if ¬ h.1 213 (qw (qw (284 + qw (8 * a4)) + 7)).toNat = a1 then (DX10_stateSet_b86 (DX10_stateSet_l5 n) a1 a2 a3 a4 0 h) else (DX10_stateSet_b86 (DX10_stateSet_l5 n) a1 a2 a3 a4 1 h)) else none) else (if 0 ≤ qw (qw (284 + qw (8 * a4)) + 1) ∧ qw (qw (284 + qw (8 * a4)) + 1) < 5736 then (if 0 ≤ qw (266 + a1) ∧ qw (266 + a1) < 5736 then (if ¬ h.1 213 (qw (qw (284 + qw (8 * a4)) + 1)).toNat = h.1 213 (qw (266 + a1)).toNat then (DX10_stateSet_b86 (DX10_stateSet_l5 n) a1 a2 a3 a4 0 h) else (DX10_stateSet_b86 (DX10_stateSet_l5 n) a1 a2 a3 a4 1 h)) else none) else none)))
set_option maxRecDepth 100000 in
theorem TX10_stateSet_l5 {L : Nat} {xs : Nat → Int32} : ∀ (n : Nat) (a1 : Int) (a2 : Int) (a3 : Int) (a4 : Int) (h : qH), qS L xs cX10_stateSet "BottlePostModel" 6 1 1 5 [(0, qr 212), (1, qi a1), (2, qi a2), (3, qi a3), (4, qi a4)] [] h (DX10_stateSet_l5 n a1 a2 a3 a4 h) := by
  intro n
  induction n with
  | zero =>
    intro a1 a2 a3 a4 h
    exact S_none
  | succ n ih =>
    intro a1 a2 a3 a4 h
    rw [DX10_stateSet_l5.eq_2]
    refine S_iload 4 dX10_stateSet_5 rfl rfl ?_
    refine S_aload_n 0 dX10_stateSet_7 rfl rfl rfl ?_
    refine S_getr (j := 213) (o := 1) 1 qC_10 (by decide) (by decide) qk_212 rfl rfl (by decide) tw_1227 dX10_stateSet_8 rfl ?_
    refine S_sipush (a := 348) dX10_stateSet_11 rfl (by decide) (by decide) ?_
    refine S_pick_t ((0 : Int) ≤ 348 ∧ (348 : Int) < 5736) (by decide) ?_
    refine S_iald (N := 5736) qk_213 rfl dX10_stateSet_14 rfl (fun g4 g5 => ?_)
    refine S_icmp_ge (tgt := 124) dX10_stateSet_15 (by decide) rfl (fun _ => ?_) (fun _ => ?_)
    · refine S_iload_n 3 dX10_stateSet_124 rfl rfl rfl ?_
      exact S_iret dX10_stateSet_125
    · refine S_iload_n 2 dX10_stateSet_18 rfl rfl rfl ?_
      refine S_iconst (a := 1) dX10_stateSet_19 rfl (by decide) ?_
      refine S_icmp_ne (tgt := 60) dX10_stateSet_20 (by decide) rfl (fun _ => ?_) (fun _ => ?_)
      · refine S_aload_n 0 dX10_stateSet_60 rfl rfl rfl ?_
        refine S_getr (j := 213) (o := 1) 1 qC_10 (by decide) (by decide) qk_212 rfl rfl (by decide) tw_1227 dX10_stateSet_61 rfl ?_
        refine S_sipush (a := 284) dX10_stateSet_64 rfl (by decide) (by decide) ?_
        refine S_bipush (a := 8) dX10_stateSet_67 rfl (by decide) (by decide) ?_
        refine S_iload 4 dX10_stateSet_69 rfl rfl ?_
        refine S_imul dX10_stateSet_71 rfl ?_
        refine S_iadd dX10_stateSet_72 rfl ?_
        refine S_bipush (a := 7) dX10_stateSet_73 rfl (by decide) (by decide) ?_
        refine S_iadd dX10_stateSet_75 rfl ?_
        refine S_iald (N := 5736) qk_213 rfl dX10_stateSet_76 rfl (fun g6 g7 => ?_)
        refine S_iload_n 1 dX10_stateSet_77 rfl rfl rfl ?_
        refine S_icmp_ne (tgt := 85) dX10_stateSet_78 (by decide) rfl (fun _ => ?_) (fun _ => ?_)
        · refine S_iconst (a := 0) dX10_stateSet_85 rfl (by decide) ?_
          exact TX10_stateSet_b86 (DX10_stateSet_l5 n) ih a1 a2 a3 a4 0 h
        · refine S_iconst (a := 1) dX10_stateSet_81 rfl (by decide) ?_
          refine S_goto (pc' := 86) dX10_stateSet_82 (by decide) ?_
          exact TX10_stateSet_b86 (DX10_stateSet_l5 n) ih a1 a2 a3 a4 1 h
      · refine S_aload_n 0 dX10_stateSet_23 rfl rfl rfl ?_
        refine S_getr (j := 213) (o := 1) 1 qC_10 (by decide) (by decide) qk_212 rfl rfl (by decide) tw_1227 dX10_stateSet_24 rfl ?_
        refine S_sipush (a := 284) dX10_stateSet_27 rfl (by decide) (by decide) ?_
        refine S_bipush (a := 8) dX10_stateSet_30 rfl (by decide) (by decide) ?_
        refine S_iload 4 dX10_stateSet_32 rfl rfl ?_
        refine S_imul dX10_stateSet_34 rfl ?_
        refine S_iadd dX10_stateSet_35 rfl ?_
        refine S_iconst (a := 1) dX10_stateSet_36 rfl (by decide) ?_
        refine S_iadd dX10_stateSet_37 rfl ?_
        refine S_iald (N := 5736) qk_213 rfl dX10_stateSet_38 rfl (fun g8 g9 => ?_)
        refine S_aload_n 0 dX10_stateSet_39 rfl rfl rfl ?_
        refine S_getr (j := 213) (o := 1) 1 qC_10 (by decide) (by decide) qk_212 rfl rfl (by decide) tw_1227 dX10_stateSet_40 rfl ?_
        refine S_sipush (a := 266) dX10_stateSet_43 rfl (by decide) (by decide) ?_
        refine S_iload_n 1 dX10_stateSet_46 rfl rfl rfl ?_
        refine S_iadd dX10_stateSet_47 rfl ?_
        refine S_iald (N := 5736) qk_213 rfl dX10_stateSet_48 rfl (fun g10 g11 => ?_)
        refine S_icmp_ne (tgt := 56) dX10_stateSet_49 (by decide) rfl (fun _ => ?_) (fun _ => ?_)
        · refine S_iconst (a := 0) dX10_stateSet_56 rfl (by decide) ?_
          refine S_goto (pc' := 86) dX10_stateSet_57 (by decide) ?_
          exact TX10_stateSet_b86 (DX10_stateSet_l5 n) ih a1 a2 a3 a4 0 h
        · refine S_iconst (a := 1) dX10_stateSet_52 rfl (by decide) ?_
          refine S_goto (pc' := 86) dX10_stateSet_53 (by decide) ?_
          exact TX10_stateSet_b86 (DX10_stateSet_l5 n) ih a1 a2 a3 a4 1 h
def DX10_stateSet (a1 : Int) (a2 : Int) (h : qH) : Option (Int × qH) := (DX10_stateSet_l5 LF a1 a2 0 0 h)
set_option maxRecDepth 100000 in
theorem TX10_stateSet {L : Nat} {xs : Nat → Int32} (a1 : Int) (a2 : Int) (h : qH) : qMet L xs yX10_stateSet cX10_stateSet 6 (some .int) 1 1 [qr 212, qi a1, qi a2] h (DX10_stateSet a1 a2 h) := by
  refine qMet.of (by decide +kernel) (Or.inr (Or.inl ⟨rfl, rfl⟩)) (Nat.le_of_ble_eq_true rfl) ?_
  show qS L xs cX10_stateSet "BottlePostModel" 6 1 1 0 [(0, qr 212), (1, qi a1), (2, qi a2)] [] h (DX10_stateSet a1 a2 h)
  unfold DX10_stateSet
  refine S_iconst (a := 0) dX10_stateSet_0 rfl (by decide) ?_
  refine S_istore_n (lv' := [(3, qi 0), (0, qr 212), (1, qi a1), (2, qi a2)]) dX10_stateSet_1 rfl (by decide) rfl rfl ?_
  refine S_iconst (a := 0) dX10_stateSet_2 rfl (by decide) ?_
  refine S_istore (lv' := [(4, qi 0), (3, qi 0), (0, qr 212), (1, qi a1), (2, qi a2)]) dX10_stateSet_3 (by decide) rfl rfl ?_
  refine S_sub [2, 3, 4, 1, 0] rfl ?_
  exact TX10_stateSet_l5 LF a1 a2 0 0 h
def DX10_shore (a1 : Int) (a2 : Int) (h : qH) : Option (Int × qH) := (qlt (qu h 212 0 0) fun h1 => (qbd (DX10_isShore a1 h1) fun r2 h3 => (if ¬ r2 = 0 then (if a2 = 0 then (if 0 ≤ qw (266 + a1) ∧ qw (266 + a1) < 5736 then some (h3.1 213 (qw (266 + a1)).toNat, h3) else none) else (if a2 = 1 then (if 0 ≤ qw (272 + a1) ∧ qw (272 + a1) < 5736 then some (h3.1 213 (qw (272 + a1)).toNat, h3) else none) else (if a2 = 2 then (if 0 ≤ qw (278 + a1) ∧ qw (278 + a1) < 5736 then some (h3.1 213 (qw (278 + a1)).toNat, h3) else none) else (if a2 = 3 then (qbd (DX10_throwsTo a1 h3) fun r15 h16 => some (r15, h16)) else (if a2 = 4 then (qbd (DX10_stateSet a1 1 h3) fun r19 h20 => some (r19, h20)) else (if a2 = 5 then (qbd (DX10_stateSet a1 2 h3) fun r23 h24 => some (r23, h24)) else some ((-2), h3))))))) else some ((-2), h3))))
set_option maxRecDepth 100000 in
theorem TX10_shore {L : Nat} {xs : Nat → Int32} (a1 : Int) (a2 : Int) (h : qH) : qMet L xs yX10_shore cX10_shore 3 (some .int) 1 4 [qr 212, qi a1, qi a2] h (DX10_shore a1 a2 h) := by
  refine qMet.of (by decide +kernel) (Or.inr (Or.inl ⟨rfl, rfl⟩)) (Nat.le_of_ble_eq_true rfl) ?_
  show qS L xs cX10_shore "BottlePostModel" 3 4 1 0 [(0, qr 212), (1, qi a1), (2, qi a2)] [] h (DX10_shore a1 a2 h)
  unfold DX10_shore
  refine S_aload_n 0 dX10_shore_0 rfl rfl rfl ?_
  refine S_iconst (a := 0) dX10_shore_1 rfl (by decide) ?_
  refine S_puti 0 qC_10 (by decide) (by decide) rfl rfl qk_212 (by decide) tw_1226 dX10_shore_2 rfl ?_
  refine S_lh (fun h1 => ?_)
  refine S_aload_n 0 dX10_shore_5 rfl rfl rfl ?_
  refine S_iload_n 1 dX10_shore_6 rfl rfl rfl ?_
  refine S_i2l dX10_shore_7 rfl ?_
  refine S_callV_i (as := [ql a1]) (st := []) (fun _ => rfl) (TX10_isShore a1 h1) yv_X10_isShore tw_1481 qC_10 qk_212 (by decide) rfl rfl (Nat.le_of_ble_eq_true rfl) dX10_shore_8 rfl (fun r2 h3 e4 => ?_)
  refine S_if_ne (tgt := 17) dX10_shore_11 (by decide) rfl (fun _ => ?_) (fun _ => ?_)
  · refine S_iload_n 2 dX10_shore_17 rfl rfl rfl ?_
    refine S_ite (fun g5 => ?_) (fun g5 => ?_)
    · refine S_tabIn (a0 := 0) (off := 38) (pc' := 56) dX10_shore_18 g5 (by decide) (by decide) rfl (by decide) ?_
      refine S_aload_n 0 dX10_shore_56 rfl rfl rfl ?_
      refine S_getr (j := 213) (o := 1) 1 qC_10 (by decide) (by decide) qk_212 rfl rfl (by decide) tw_1227 dX10_shore_57 rfl ?_
      refine S_sipush (a := 266) dX10_shore_60 rfl (by decide) (by decide) ?_
      refine S_iload_n 1 dX10_shore_63 rfl rfl rfl ?_
      refine S_iadd dX10_shore_64 rfl ?_
      refine S_iald (N := 5736) qk_213 rfl dX10_shore_65 rfl (fun g6 g7 => ?_)
      exact S_iret dX10_shore_66
    · refine S_ite (fun g8 => ?_) (fun g8 => ?_)
      · refine S_tabIn (a0 := 1) (off := 49) (pc' := 67) dX10_shore_18 g8 (by decide) (by decide) rfl (by decide) ?_
        refine S_aload_n 0 dX10_shore_67 rfl rfl rfl ?_
        refine S_getr (j := 213) (o := 1) 1 qC_10 (by decide) (by decide) qk_212 rfl rfl (by decide) tw_1227 dX10_shore_68 rfl ?_
        refine S_sipush (a := 272) dX10_shore_71 rfl (by decide) (by decide) ?_
        refine S_iload_n 1 dX10_shore_74 rfl rfl rfl ?_
        refine S_iadd dX10_shore_75 rfl ?_
        refine S_iald (N := 5736) qk_213 rfl dX10_shore_76 rfl (fun g9 g10 => ?_)
        exact S_iret dX10_shore_77
      · refine S_ite (fun g11 => ?_) (fun g11 => ?_)
        · refine S_tabIn (a0 := 2) (off := 60) (pc' := 78) dX10_shore_18 g11 (by decide) (by decide) rfl (by decide) ?_
          refine S_aload_n 0 dX10_shore_78 rfl rfl rfl ?_
          refine S_getr (j := 213) (o := 1) 1 qC_10 (by decide) (by decide) qk_212 rfl rfl (by decide) tw_1227 dX10_shore_79 rfl ?_
          refine S_sipush (a := 278) dX10_shore_82 rfl (by decide) (by decide) ?_
          refine S_iload_n 1 dX10_shore_85 rfl rfl rfl ?_
          refine S_iadd dX10_shore_86 rfl ?_
          refine S_iald (N := 5736) qk_213 rfl dX10_shore_87 rfl (fun g12 g13 => ?_)
          exact S_iret dX10_shore_88
        · refine S_ite (fun g14 => ?_) (fun g14 => ?_)
          · refine S_tabIn (a0 := 3) (off := 71) (pc' := 89) dX10_shore_18 g14 (by decide) (by decide) rfl (by decide) ?_
            refine S_aload_n 0 dX10_shore_89 rfl rfl rfl ?_
            refine S_iload_n 1 dX10_shore_90 rfl rfl rfl ?_
            refine S_callV_i (as := [qi a1]) (st := []) (fun _ => rfl) (TX10_throwsTo a1 h3) yv_X10_throwsTo tw_1485 qC_10 qk_212 (by decide) rfl rfl (Nat.le_of_ble_eq_true rfl) dX10_shore_91 rfl (fun r15 h16 e17 => ?_)
            exact S_iret dX10_shore_94
          · refine S_ite (fun g18 => ?_) (fun g18 => ?_)
            · refine S_tabIn (a0 := 4) (off := 77) (pc' := 95) dX10_shore_18 g18 (by decide) (by decide) rfl (by decide) ?_
              refine S_aload_n 0 dX10_shore_95 rfl rfl rfl ?_
              refine S_iload_n 1 dX10_shore_96 rfl rfl rfl ?_
              refine S_iconst (a := 1) dX10_shore_97 rfl (by decide) ?_
              refine S_callV_i (as := [qi a1, qi 1]) (st := []) (fun _ => rfl) (TX10_stateSet a1 1 h3) yv_X10_stateSet tw_1497 qC_10 qk_212 (by decide) rfl rfl (Nat.le_of_ble_eq_true rfl) dX10_shore_98 rfl (fun r19 h20 e21 => ?_)
              exact S_iret dX10_shore_101
            · refine S_ite (fun g22 => ?_) (fun g22 => ?_)
              · refine S_tabIn (a0 := 5) (off := 84) (pc' := 102) dX10_shore_18 g22 (by decide) (by decide) rfl (by decide) ?_
                refine S_aload_n 0 dX10_shore_102 rfl rfl rfl ?_
                refine S_iload_n 1 dX10_shore_103 rfl rfl rfl ?_
                refine S_iconst (a := 2) dX10_shore_104 rfl (by decide) ?_
                refine S_callV_i (as := [qi a1, qi 2]) (st := []) (fun _ => rfl) (TX10_stateSet a1 2 h3) yv_X10_stateSet tw_1497 qC_10 qk_212 (by decide) rfl rfl (Nat.le_of_ble_eq_true rfl) dX10_shore_105 rfl (fun r23 h24 e25 => ?_)
                exact S_iret dX10_shore_108
              · refine S_tabOut (pc' := 109) dX10_shore_18 (by omega) (by decide) ?_
                refine S_bipush (a := (-2)) dX10_shore_109 rfl (by decide) (by decide) ?_
                exact S_iret dX10_shore_111
  · refine S_bipush (a := (-2)) dX10_shore_14 rfl (by decide) (by decide) ?_
    exact S_iret dX10_shore_16
def DX10_storm_b122 (k59 : Int → Int → Int → Int → qH → Option (Int × qH)) (a1 : Int) (a2 : Int) (a3 : Int) (a4 : Int) (a5 : Int) (h : qH) : Option (Int × qH) := (if ¬ a5 = a1 then (if 0 ≤ qw (qw (284 + qw (8 * a4)) + 1) ∧ qw (qw (284 + qw (8 * a4)) + 1) < 5736 then qlt (qu h 213 (qw (qw (284 + qw (8 * a4)) + 1)).toNat a1) fun h1 => (qlt (qw (a3 + 1)) fun v2 => (k59 a1 a2 v2 (qw (a4 + 1)) h1)) else none) else (if 0 ≤ qw (qw (284 + qw (8 * a4)) + 1) ∧ qw (qw (284 + qw (8 * a4)) + 1) < 5736 then qlt (qu h 213 (qw (qw (284 + qw (8 * a4)) + 1)).toNat a2) fun h3 => (qlt (qw (a3 + 1)) fun v4 => (k59 a1 a2 v4 (qw (a4 + 1)) h3)) else none))
set_option maxRecDepth 100000 in
theorem TX10_storm_b122 {L : Nat} {xs : Nat → Int32} (k59 : Int → Int → Int → Int → qH → Option (Int × qH)) (hk59 : ∀ (a1 : Int) (a2 : Int) (a3 : Int) (a4 : Int) (h : qH), qS L xs cX10_storm "BottlePostModel" 6 3 1 59 [(0, qr 212), (1, qi a1), (2, qi a2), (3, qi a3), (4, qi a4)] [] h (k59 a1 a2 a3 a4 h)) (a1 : Int) (a2 : Int) (a3 : Int) (a4 : Int) (a5 : Int) (h : qH) : qS L xs cX10_storm "BottlePostModel" 6 3 1 122 [(0, qr 212), (1, qi a1), (2, qi a2), (3, qi a3), (4, qi a4), (5, qi a5)] [] h (DX10_storm_b122 k59 a1 a2 a3 a4 a5 h) := by
  unfold DX10_storm_b122
  refine S_aload_n 0 dX10_storm_122 rfl rfl rfl ?_
  refine S_getr (j := 213) (o := 1) 1 qC_10 (by decide) (by decide) qk_212 rfl rfl (by decide) tw_1227 dX10_storm_123 rfl ?_
  refine S_sipush (a := 284) dX10_storm_126 rfl (by decide) (by decide) ?_
  refine S_bipush (a := 8) dX10_storm_129 rfl (by decide) (by decide) ?_
  refine S_iload 4 dX10_storm_131 rfl rfl ?_
  refine S_imul dX10_storm_133 rfl ?_
  refine S_iadd dX10_storm_134 rfl ?_
  refine S_iconst (a := 1) dX10_storm_135 rfl (by decide) ?_
  refine S_iadd dX10_storm_136 rfl ?_
  refine S_iload 5 dX10_storm_137 rfl rfl ?_
  refine S_iload_n 1 dX10_storm_139 rfl rfl rfl ?_
  refine S_icmp_ne (tgt := 147) dX10_storm_140 (by decide) rfl (fun _ => ?_) (fun _ => ?_)
  · refine S_iload_n 1 dX10_storm_147 rfl rfl rfl ?_
    refine S_iast (N := 5736) qk_213 rfl dX10_storm_148 rfl (fun _ _ => ?_)
    refine S_lh (fun h1 => ?_)
    refine S_iinc (lv' := [(3, qi (qw (a3 + 1))), (0, qr 212), (1, qi a1), (2, qi a2), (4, qi a4), (5, qi a5)]) 3 dX10_storm_149 rfl (by decide) rfl rfl ?_
    refine S_li (fun v2 => ?_)
    refine S_iinc (lv' := [(4, qi (qw (a4 + 1))), (3, qi v2), (0, qr 212), (1, qi a1), (2, qi a2), (5, qi a5)]) 4 dX10_storm_152 rfl (by decide) rfl rfl ?_
    refine S_goto (pc' := 59) dX10_storm_155 (by decide) ?_
    refine S_sub [2, 3, 4, 1, 0] rfl ?_
    exact hk59 a1 a2 v2 (qw (a4 + 1)) h1
  · refine S_iload_n 2 dX10_storm_143 rfl rfl rfl ?_
    refine S_goto (pc' := 148) dX10_storm_144 (by decide) ?_
    refine S_iast (N := 5736) qk_213 rfl dX10_storm_148 rfl (fun _ _ => ?_)
    refine S_lh (fun h3 => ?_)
    refine S_iinc (lv' := [(3, qi (qw (a3 + 1))), (0, qr 212), (1, qi a1), (2, qi a2), (4, qi a4), (5, qi a5)]) 3 dX10_storm_149 rfl (by decide) rfl rfl ?_
    refine S_li (fun v4 => ?_)
    refine S_iinc (lv' := [(4, qi (qw (a4 + 1))), (3, qi v4), (0, qr 212), (1, qi a1), (2, qi a2), (5, qi a5)]) 4 dX10_storm_152 rfl (by decide) rfl rfl ?_
    refine S_goto (pc' := 59) dX10_storm_155 (by decide) ?_
    refine S_sub [2, 3, 4, 1, 0] rfl ?_
    exact hk59 a1 a2 v4 (qw (a4 + 1)) h3
def DX10_storm_l59 : Nat → Int → Int → Int → Int → qH → Option (Int × qH)
  | 0, _, _, _, _, _ => none
  | n + 1, a1, a2, a3, a4, h => (if h.1 213 348 ≤ a4 then (if a3 ≤ 0 then some (a3, h) else (qbd (DX10_notes h) fun r7 h8 => some (a3, h8))) else (if 0 ≤ qw (qw (284 + qw (8 * a4)) + 1) ∧ qw (qw (284 + qw (8 * a4)) + 1) < 5736 then (qlt (h.1 213 (qw (qw (284 + qw (8 * a4)) + 1)).toNat) fun v12 => (if 0 ≤ qw (284 + qw (8 * a4)) ∧ qw (284 + qw (8 * a4)) < 5736 then (if ¬ h.1 213 (qw (284 + qw (8 * a4))).toNat = 0 then ((DX10_storm_l59 n) a1 a2 a3 (qw (a4 + 1)) h) else (if v12 = a1 then (DX10_storm_b122 (DX10_storm_l59 n) a1 a2 a3 a4 v12 h) else (if v12 = a2 then (DX10_storm_b122 (DX10_storm_l59 n) a1 a2 a3 a4 v12 h) else ((DX10_storm_l59 n) a1 a2 a3 (qw (a4 + 1)) h)))) else none)) else none))
set_option maxRecDepth 100000 in
theorem TX10_storm_l59 {L : Nat} {xs : Nat → Int32} : ∀ (n : Nat) (a1 : Int) (a2 : Int) (a3 : Int) (a4 : Int) (h : qH), qS L xs cX10_storm "BottlePostModel" 6 3 1 59 [(0, qr 212), (1, qi a1), (2, qi a2), (3, qi a3), (4, qi a4)] [] h (DX10_storm_l59 n a1 a2 a3 a4 h) := by
  intro n
  induction n with
  | zero =>
    intro a1 a2 a3 a4 h
    exact S_none
  | succ n ih =>
    intro a1 a2 a3 a4 h
    rw [DX10_storm_l59.eq_2]
    refine S_iload 4 dX10_storm_59 rfl rfl ?_
    refine S_aload_n 0 dX10_storm_61 rfl rfl rfl ?_
    refine S_getr (j := 213) (o := 1) 1 qC_10 (by decide) (by decide) qk_212 rfl rfl (by decide) tw_1227 dX10_storm_62 rfl ?_
    refine S_sipush (a := 348) dX10_storm_65 rfl (by decide) (by decide) ?_
    refine S_pick_t ((0 : Int) ≤ 348 ∧ (348 : Int) < 5736) (by decide) ?_
    refine S_iald (N := 5736) qk_213 rfl dX10_storm_68 rfl (fun g5 g6 => ?_)
    refine S_icmp_ge (tgt := 158) dX10_storm_69 (by decide) rfl (fun _ => ?_) (fun _ => ?_)
    · refine S_iload_n 3 dX10_storm_158 rfl rfl rfl ?_
      refine S_if_le (tgt := 166) dX10_storm_159 (by decide) rfl (fun _ => ?_) (fun _ => ?_)
      · refine S_iload_n 3 dX10_storm_166 rfl rfl rfl ?_
        exact S_iret dX10_storm_167
      · refine S_aload_n 0 dX10_storm_162 rfl rfl rfl ?_
        refine S_callV_0 (as := []) (st := []) (fun _ => rfl) (TX10_notes h) yv_X10_notes tw_1573 qC_10 qk_212 (by decide) rfl rfl (Nat.le_of_ble_eq_true rfl) dX10_storm_163 rfl (fun r7 h8 e9 => ?_)
        refine S_iload_n 3 dX10_storm_166 rfl rfl rfl ?_
        exact S_iret dX10_storm_167
    · refine S_aload_n 0 dX10_storm_72 rfl rfl rfl ?_
      refine S_getr (j := 213) (o := 1) 1 qC_10 (by decide) (by decide) qk_212 rfl rfl (by decide) tw_1227 dX10_storm_73 rfl ?_
      refine S_sipush (a := 284) dX10_storm_76 rfl (by decide) (by decide) ?_
      refine S_bipush (a := 8) dX10_storm_79 rfl (by decide) (by decide) ?_
      refine S_iload 4 dX10_storm_81 rfl rfl ?_
      refine S_imul dX10_storm_83 rfl ?_
      refine S_iadd dX10_storm_84 rfl ?_
      refine S_iconst (a := 1) dX10_storm_85 rfl (by decide) ?_
      refine S_iadd dX10_storm_86 rfl ?_
      refine S_iald (N := 5736) qk_213 rfl dX10_storm_87 rfl (fun g10 g11 => ?_)
      refine S_istore (lv' := [(5, qi (h.1 213 (qw (qw (284 + qw (8 * a4)) + 1)).toNat)), (0, qr 212), (1, qi a1), (2, qi a2), (3, qi a3), (4, qi a4)]) dX10_storm_88 (by decide) rfl rfl ?_
      refine S_li (fun v12 => ?_)
      refine S_aload_n 1 dX10_storm_90 rfl rfl rfl ?_
      refine S_getr (j := 213) (o := 1) 1 qC_10 (by decide) (by decide) qk_212 rfl rfl (by decide) tw_1227 dX10_storm_91 rfl ?_
      refine S_sipush (a := 284) dX10_storm_94 rfl (by decide) (by decide) ?_
      refine S_bipush (a := 8) dX10_storm_97 rfl (by decide) (by decide) ?_
      refine S_iload 5 dX10_storm_99 rfl rfl ?_
      refine S_imul dX10_storm_101 rfl ?_
      refine S_iadd dX10_storm_102 rfl ?_
      refine S_iald (N := 5736) qk_213 rfl dX10_storm_103 rfl (fun g13 g14 => ?_)
      refine S_if_ne (tgt := 152) dX10_storm_104 (by decide) rfl (fun _ => ?_) (fun _ => ?_)
      · refine S_iinc (lv' := [(4, qi (qw (a4 + 1))), (5, qi v12), (0, qr 212), (1, qi a1), (2, qi a2), (3, qi a3)]) 5 dX10_storm_152 rfl (by decide) rfl rfl ?_
        refine S_goto (pc' := 59) dX10_storm_155 (by decide) ?_
        refine S_sub [2, 3, 4, 5, 0] rfl ?_
        exact ih a1 a2 a3 (qw (a4 + 1)) h
      · refine S_iload 0 dX10_storm_107 rfl rfl ?_
        refine S_iload_n 2 dX10_storm_109 rfl rfl rfl ?_
        refine S_icmp_eq (tgt := 122) dX10_storm_110 (by decide) rfl (fun _ => ?_) (fun _ => ?_)
        · refine S_sub [1, 2, 3, 4, 5, 0] rfl ?_
          exact TX10_storm_b122 (DX10_storm_l59 n) ih a1 a2 a3 a4 v12 h
        · refine S_iload 0 dX10_storm_113 rfl rfl ?_
          refine S_iload_n 3 dX10_storm_115 rfl rfl rfl ?_
          refine S_icmp_eq (tgt := 122) dX10_storm_116 (by decide) rfl (fun _ => ?_) (fun _ => ?_)
          · refine S_sub [1, 2, 3, 4, 5, 0] rfl ?_
            exact TX10_storm_b122 (DX10_storm_l59 n) ih a1 a2 a3 a4 v12 h
          · refine S_goto (pc' := 152) dX10_storm_119 (by decide) ?_
            refine S_iinc (lv' := [(4, qi (qw (a4 + 1))), (5, qi v12), (0, qr 212), (1, qi a1), (2, qi a2), (3, qi a3)]) 5 dX10_storm_152 rfl (by decide) rfl rfl ?_
            refine S_goto (pc' := 59) dX10_storm_155 (by decide) ?_
            refine S_sub [2, 3, 4, 5, 0] rfl ?_
            exact ih a1 a2 a3 (qw (a4 + 1)) h
def DX10_storm (a1 : Int) (a2 : Int) (h : qH) : Option (Int × qH) := (qlt (qu h 212 0 0) fun h15 => (qbd (DX10_isCell a1 h15) fun r16 h17 => (if r16 = 0 then some ((-2), h17) else (qbd (DX10_isCell a2 h17) fun r19 h20 => (if r19 = 0 then some ((-2), h20) else (if ¬ a1 = a2 then (qbd (DX10_isOpen a1 h20) fun r22 h23 => (if r22 = 0 then some ((-5), h23) else (qbd (DX10_isOpen a2 h23) fun r25 h26 => (if ¬ r25 = 0 then (qbd (DX10_keepsAll h26) fun r28 h29 => (DX10_storm_l59 LF a1 a2 0 0 h29)) else some ((-5), h26))))) else some ((-2), h20)))))))
set_option maxRecDepth 100000 in
theorem TX10_storm {L : Nat} {xs : Nat → Int32} (a1 : Int) (a2 : Int) (h : qH) : qMet L xs yX10_storm cX10_storm 6 (some .int) 1 3 [qr 212, qi a1, qi a2] h (DX10_storm a1 a2 h) := by
  refine qMet.of (by decide +kernel) (Or.inr (Or.inl ⟨rfl, rfl⟩)) (Nat.le_of_ble_eq_true rfl) ?_
  show qS L xs cX10_storm "BottlePostModel" 6 3 1 0 [(0, qr 212), (1, qi a1), (2, qi a2)] [] h (DX10_storm a1 a2 h)
  unfold DX10_storm
  refine S_aload_n 0 dX10_storm_0 rfl rfl rfl ?_
  refine S_iconst (a := 0) dX10_storm_1 rfl (by decide) ?_
  refine S_puti 0 qC_10 (by decide) (by decide) rfl rfl qk_212 (by decide) tw_1226 dX10_storm_2 rfl ?_
  refine S_lh (fun h15 => ?_)
  refine S_aload_n 0 dX10_storm_5 rfl rfl rfl ?_
  refine S_iload_n 1 dX10_storm_6 rfl rfl rfl ?_
  refine S_i2l dX10_storm_7 rfl ?_
  refine S_callV_i (as := [ql a1]) (st := []) (fun _ => rfl) (TX10_isCell a1 h15) yv_X10_isCell tw_1469 qC_10 qk_212 (by decide) rfl rfl (Nat.le_of_ble_eq_true rfl) dX10_storm_8 rfl (fun r16 h17 e18 => ?_)
  refine S_if_eq (tgt := 28) dX10_storm_11 (by decide) rfl (fun _ => ?_) (fun _ => ?_)
  · refine S_bipush (a := (-2)) dX10_storm_28 rfl (by decide) (by decide) ?_
    exact S_iret dX10_storm_30
  · refine S_aload_n 0 dX10_storm_14 rfl rfl rfl ?_
    refine S_iload_n 2 dX10_storm_15 rfl rfl rfl ?_
    refine S_i2l dX10_storm_16 rfl ?_
    refine S_callV_i (as := [ql a2]) (st := []) (fun _ => rfl) (TX10_isCell a2 h17) yv_X10_isCell tw_1469 qC_10 qk_212 (by decide) rfl rfl (Nat.le_of_ble_eq_true rfl) dX10_storm_17 rfl (fun r19 h20 e21 => ?_)
    refine S_if_eq (tgt := 28) dX10_storm_20 (by decide) rfl (fun _ => ?_) (fun _ => ?_)
    · refine S_bipush (a := (-2)) dX10_storm_28 rfl (by decide) (by decide) ?_
      exact S_iret dX10_storm_30
    · refine S_iload_n 1 dX10_storm_23 rfl rfl rfl ?_
      refine S_iload_n 2 dX10_storm_24 rfl rfl rfl ?_
      refine S_icmp_ne (tgt := 31) dX10_storm_25 (by decide) rfl (fun _ => ?_) (fun _ => ?_)
      · refine S_aload_n 0 dX10_storm_31 rfl rfl rfl ?_
        refine S_iload_n 1 dX10_storm_32 rfl rfl rfl ?_
        refine S_callV_i (as := [qi a1]) (st := []) (fun _ => rfl) (TX10_isOpen a1 h20) yv_X10_isOpen tw_1493 qC_10 qk_212 (by decide) rfl rfl (Nat.le_of_ble_eq_true rfl) dX10_storm_33 rfl (fun r22 h23 e24 => ?_)
        refine S_if_eq (tgt := 47) dX10_storm_36 (by decide) rfl (fun _ => ?_) (fun _ => ?_)
        · refine S_bipush (a := (-5)) dX10_storm_47 rfl (by decide) (by decide) ?_
          exact S_iret dX10_storm_49
        · refine S_aload_n 0 dX10_storm_39 rfl rfl rfl ?_
          refine S_iload_n 2 dX10_storm_40 rfl rfl rfl ?_
          refine S_callV_i (as := [qi a2]) (st := []) (fun _ => rfl) (TX10_isOpen a2 h23) yv_X10_isOpen tw_1493 qC_10 qk_212 (by decide) rfl rfl (Nat.le_of_ble_eq_true rfl) dX10_storm_41 rfl (fun r25 h26 e27 => ?_)
          refine S_if_ne (tgt := 50) dX10_storm_44 (by decide) rfl (fun _ => ?_) (fun _ => ?_)
          · refine S_aload_n 0 dX10_storm_50 rfl rfl rfl ?_
            refine S_callV_0 (as := []) (st := []) (fun _ => rfl) (TX10_keepsAll h26) yv_X10_keepsAll tw_1557 qC_10 qk_212 (by decide) rfl rfl (Nat.le_of_ble_eq_true rfl) dX10_storm_51 rfl (fun r28 h29 e30 => ?_)
            refine S_iconst (a := 0) dX10_storm_54 rfl (by decide) ?_
            refine S_istore_n (lv' := [(3, qi 0), (0, qr 212), (1, qi a1), (2, qi a2)]) dX10_storm_55 rfl (by decide) rfl rfl ?_
            refine S_iconst (a := 0) dX10_storm_56 rfl (by decide) ?_
            refine S_istore (lv' := [(4, qi 0), (3, qi 0), (0, qr 212), (1, qi a1), (2, qi a2)]) dX10_storm_57 (by decide) rfl rfl ?_
            refine S_sub [2, 3, 4, 1, 0] rfl ?_
            exact TX10_storm_l59 LF a1 a2 0 0 h29
          · refine S_bipush (a := (-5)) dX10_storm_47 rfl (by decide) (by decide) ?_
            exact S_iret dX10_storm_49
      · refine S_bipush (a := (-2)) dX10_storm_28 rfl (by decide) (by decide) ?_
        exact S_iret dX10_storm_30
def DX10_suspects (a1 : Int) (h : qH) : Option (Int × qH) := (qlt (qu h 212 0 0) fun h1 => (qbd (DX10_noSeen a1 h1) fun r2 h3 => (if r2 = 0 then (qbd (DX10_laysFits a1 (-1) h3) fun r5 h6 => some (h6.1 212 31, h6)) else some (r2, h3))))
set_option maxRecDepth 100000 in
theorem TX10_suspects {L : Nat} {xs : Nat → Int32} (a1 : Int) (h : qH) : qMet L xs yX10_suspects cX10_suspects 3 (some .int) 1 9 [qr 212, qi a1] h (DX10_suspects a1 h) := by
  refine qMet.of (by decide +kernel) (Or.inr (Or.inl ⟨rfl, rfl⟩)) (Nat.le_of_ble_eq_true rfl) ?_
  show qS L xs cX10_suspects "BottlePostModel" 3 9 1 0 [(0, qr 212), (1, qi a1)] [] h (DX10_suspects a1 h)
  unfold DX10_suspects
  refine S_aload_n 0 dX10_suspects_0 rfl rfl rfl ?_
  refine S_iconst (a := 0) dX10_suspects_1 rfl (by decide) ?_
  refine S_puti 0 qC_10 (by decide) (by decide) rfl rfl qk_212 (by decide) tw_1226 dX10_suspects_2 rfl ?_
  refine S_lh (fun h1 => ?_)
  refine S_aload_n 0 dX10_suspects_5 rfl rfl rfl ?_
  refine S_iload_n 1 dX10_suspects_6 rfl rfl rfl ?_
  refine S_callV_i (as := [qi a1]) (st := []) (fun _ => rfl) (TX10_noSeen a1 h1) yv_X10_noSeen tw_1795 qC_10 qk_212 (by decide) rfl rfl (Nat.le_of_ble_eq_true rfl) dX10_suspects_7 rfl (fun r2 h3 e4 => ?_)
  refine S_istore_n (lv' := [(2, qi r2), (0, qr 212), (1, qi a1)]) dX10_suspects_10 rfl (by decide) rfl rfl ?_
  refine S_iload_n 0 dX10_suspects_11 rfl rfl rfl ?_
  refine S_if_eq (tgt := 17) dX10_suspects_12 (by decide) rfl (fun _ => ?_) (fun _ => ?_)
  · refine S_aload_n 1 dX10_suspects_17 rfl rfl rfl ?_
    refine S_iload_n 2 dX10_suspects_18 rfl rfl rfl ?_
    refine S_iconst (a := (-1)) dX10_suspects_19 rfl (by decide) ?_
    refine S_callV_0 (as := [qi a1, qi (-1)]) (st := []) (fun _ => rfl) (TX10_laysFits a1 (-1) h3) yv_X10_laysFits tw_1800 qC_10 qk_212 (by decide) rfl rfl (Nat.le_of_ble_eq_true rfl) dX10_suspects_20 rfl (fun r5 h6 e7 => ?_)
    refine S_aload_n 1 dX10_suspects_23 rfl rfl rfl ?_
    refine S_geti 31 qC_10 (by decide) (by decide) qk_212 tw_1257 dX10_suspects_24 rfl ?_
    exact S_iret dX10_suspects_27
  · refine S_iload_n 0 dX10_suspects_15 rfl rfl rfl ?_
    exact S_iret dX10_suspects_16
def DX10_thrower (a1 : Int) (a2 : Int) (a3 : Int) (h : qH) : Option (Int × qH) := (qlt (qu h 212 0 0) fun h1 => (qbd (DX10_within a3 0 3 h1) fun r2 h3 => (if ¬ r2 = 0 then (qbd (DX10_noSeen a1 h3) fun r5 h6 => (if r5 = 0 then (if 0 ≤ a2 then (qbd (DX10_laysFits a1 a2 h6) fun r8 h9 => (if a2 < h9.1 212 30 then (if ¬ a3 = 0 then (if ¬ a3 = 1 then (if ¬ a3 = 2 then some (h9.1 212 35, h9) else some (h9.1 212 34, h9)) else some (h9.1 212 33, h9)) else some (h9.1 212 32, h9)) else (if ¬ a3 = 1 then some ((-1), h9) else some ((-9), h9)))) else some ((-3), h6)) else some (r5, h6))) else some ((-2), h3))))
set_option maxRecDepth 100000 in
theorem TX10_thrower {L : Nat} {xs : Nat → Int32} (a1 : Int) (a2 : Int) (a3 : Int) (h : qH) : qMet L xs yX10_thrower cX10_thrower 5 (some .int) 1 9 [qr 212, qi a1, qi a2, qi a3] h (DX10_thrower a1 a2 a3 h) := by
  refine qMet.of (by decide +kernel) (Or.inr (Or.inl ⟨rfl, rfl⟩)) (Nat.le_of_ble_eq_true rfl) ?_
  show qS L xs cX10_thrower "BottlePostModel" 5 9 1 0 [(0, qr 212), (1, qi a1), (2, qi a2), (3, qi a3)] [] h (DX10_thrower a1 a2 a3 h)
  unfold DX10_thrower
  refine S_aload_n 0 dX10_thrower_0 rfl rfl rfl ?_
  refine S_iconst (a := 0) dX10_thrower_1 rfl (by decide) ?_
  refine S_puti 0 qC_10 (by decide) (by decide) rfl rfl qk_212 (by decide) tw_1226 dX10_thrower_2 rfl ?_
  refine S_lh (fun h1 => ?_)
  refine S_iload_n 3 dX10_thrower_5 rfl rfl rfl ?_
  refine S_i2l dX10_thrower_6 rfl ?_
  refine S_lconst (a := 0) dX10_thrower_7 rfl (by decide) (by decide) ?_
  refine S_ldc2 (a := 3) dX10_thrower_8 rfl (by rw [show Int64.ofInt 3 = (3 : Int64) from by decide]; exact tw_1638) (by decide) ?_
  refine S_callS_i (as := [ql a3, ql 0, ql 3]) (st := []) (fun _ => rfl) (TX10_within a3 0 3 h1) yv_X10_within tw_1352 (by decide) rfl rfl (Nat.le_of_ble_eq_true rfl) dX10_thrower_11 rfl (fun r2 h3 e4 => ?_)
  refine S_if_ne (tgt := 20) dX10_thrower_14 (by decide) rfl (fun _ => ?_) (fun _ => ?_)
  · refine S_aload_n 0 dX10_thrower_20 rfl rfl rfl ?_
    refine S_iload_n 1 dX10_thrower_21 rfl rfl rfl ?_
    refine S_callV_i (as := [qi a1]) (st := []) (fun _ => rfl) (TX10_noSeen a1 h3) yv_X10_noSeen tw_1795 qC_10 qk_212 (by decide) rfl rfl (Nat.le_of_ble_eq_true rfl) dX10_thrower_22 rfl (fun r5 h6 e7 => ?_)
    refine S_istore (lv' := [(4, qi r5), (0, qr 212), (1, qi a1), (2, qi a2), (3, qi a3)]) dX10_thrower_25 (by decide) rfl rfl ?_
    refine S_iload 0 dX10_thrower_27 rfl rfl ?_
    refine S_if_eq (tgt := 35) dX10_thrower_29 (by decide) rfl (fun _ => ?_) (fun _ => ?_)
    · refine S_iload_n 3 dX10_thrower_35 rfl rfl rfl ?_
      refine S_if_ge (tgt := 42) dX10_thrower_36 (by decide) rfl (fun _ => ?_) (fun _ => ?_)
      · refine S_aload_n 1 dX10_thrower_42 rfl rfl rfl ?_
        refine S_iload_n 2 dX10_thrower_43 rfl rfl rfl ?_
        refine S_iload_n 3 dX10_thrower_44 rfl rfl rfl ?_
        refine S_callV_0 (as := [qi a1, qi a2]) (st := []) (fun _ => rfl) (TX10_laysFits a1 a2 h6) yv_X10_laysFits tw_1800 qC_10 qk_212 (by decide) rfl rfl (Nat.le_of_ble_eq_true rfl) dX10_thrower_45 rfl (fun r8 h9 e10 => ?_)
        refine S_iload_n 3 dX10_thrower_48 rfl rfl rfl ?_
        refine S_aload_n 1 dX10_thrower_49 rfl rfl rfl ?_
        refine S_geti 30 qC_10 (by decide) (by decide) qk_212 tw_1256 dX10_thrower_50 rfl ?_
        refine S_icmp_lt (tgt := 68) dX10_thrower_53 (by decide) rfl (fun _ => ?_) (fun _ => ?_)
        · refine S_iload_n 4 dX10_thrower_68 rfl rfl rfl ?_
          refine S_if_ne (tgt := 79) dX10_thrower_69 (by decide) rfl (fun _ => ?_) (fun _ => ?_)
          · refine S_iload_n 4 dX10_thrower_79 rfl rfl rfl ?_
            refine S_iconst (a := 1) dX10_thrower_80 rfl (by decide) ?_
            refine S_icmp_ne (tgt := 91) dX10_thrower_81 (by decide) rfl (fun _ => ?_) (fun _ => ?_)
            · refine S_iload_n 4 dX10_thrower_91 rfl rfl rfl ?_
              refine S_iconst (a := 2) dX10_thrower_92 rfl (by decide) ?_
              refine S_icmp_ne (tgt := 103) dX10_thrower_93 (by decide) rfl (fun _ => ?_) (fun _ => ?_)
              · refine S_aload_n 1 dX10_thrower_103 rfl rfl rfl ?_
                refine S_geti 35 qC_10 (by decide) (by decide) qk_212 tw_1261 dX10_thrower_104 rfl ?_
                exact S_iret dX10_thrower_107
              · refine S_aload_n 1 dX10_thrower_96 rfl rfl rfl ?_
                refine S_geti 34 qC_10 (by decide) (by decide) qk_212 tw_1260 dX10_thrower_97 rfl ?_
                refine S_goto (pc' := 107) dX10_thrower_100 (by decide) ?_
                exact S_iret dX10_thrower_107
            · refine S_aload_n 1 dX10_thrower_84 rfl rfl rfl ?_
              refine S_geti 33 qC_10 (by decide) (by decide) qk_212 tw_1259 dX10_thrower_85 rfl ?_
              refine S_goto (pc' := 107) dX10_thrower_88 (by decide) ?_
              exact S_iret dX10_thrower_107
          · refine S_aload_n 1 dX10_thrower_72 rfl rfl rfl ?_
            refine S_geti 32 qC_10 (by decide) (by decide) qk_212 tw_1258 dX10_thrower_73 rfl ?_
            refine S_goto (pc' := 107) dX10_thrower_76 (by decide) ?_
            exact S_iret dX10_thrower_107
        · refine S_iload_n 4 dX10_thrower_56 rfl rfl rfl ?_
          refine S_iconst (a := 1) dX10_thrower_57 rfl (by decide) ?_
          refine S_icmp_ne (tgt := 66) dX10_thrower_58 (by decide) rfl (fun _ => ?_) (fun _ => ?_)
          · refine S_iconst (a := (-1)) dX10_thrower_66 rfl (by decide) ?_
            exact S_iret dX10_thrower_67
          · refine S_bipush (a := (-9)) dX10_thrower_61 rfl (by decide) (by decide) ?_
            refine S_goto (pc' := 67) dX10_thrower_63 (by decide) ?_
            exact S_iret dX10_thrower_67
      · refine S_bipush (a := (-3)) dX10_thrower_39 rfl (by decide) (by decide) ?_
        exact S_iret dX10_thrower_41
    · refine S_iload 0 dX10_thrower_32 rfl rfl ?_
      exact S_iret dX10_thrower_34
  · refine S_bipush (a := (-2)) dX10_thrower_17 rfl (by decide) (by decide) ?_
    exact S_iret dX10_thrower_19
def DX10_throwsIt (a1 : Int) (a2 : Int) (a3 : Int) (h : qH) : Option (Int × qH) := (qlt (qu h 212 0 0) fun h1 => (qbd (DX10_whyThrow a1 a2 h1) fun r2 h3 => (if r2 = 0 then (qbd (DX10_keepsAll h3) fun r5 h6 => (qbd (DX10_throwsOne a1 a2 a3 h6) fun r8 h9 => (qbd (DX10_notes h9) fun r11 h12 => some (qw (h12.1 213 348 - 1), h12)))) else some (qw ((-10) - r2), h3))))
set_option maxRecDepth 100000 in
theorem TX10_throwsIt {L : Nat} {xs : Nat → Int32} (a1 : Int) (a2 : Int) (a3 : Int) (h : qH) : qMet L xs yX10_throwsIt cX10_throwsIt 5 (some .int) 1 5 [qr 212, qi a1, qi a2, qi a3] h (DX10_throwsIt a1 a2 a3 h) := by
  refine qMet.of (by decide +kernel) (Or.inr (Or.inl ⟨rfl, rfl⟩)) (Nat.le_of_ble_eq_true rfl) ?_
  show qS L xs cX10_throwsIt "BottlePostModel" 5 5 1 0 [(0, qr 212), (1, qi a1), (2, qi a2), (3, qi a3)] [] h (DX10_throwsIt a1 a2 a3 h)
  unfold DX10_throwsIt
  refine S_aload_n 0 dX10_throwsIt_0 rfl rfl rfl ?_
  refine S_iconst (a := 0) dX10_throwsIt_1 rfl (by decide) ?_
  refine S_puti 0 qC_10 (by decide) (by decide) rfl rfl qk_212 (by decide) tw_1226 dX10_throwsIt_2 rfl ?_
  refine S_lh (fun h1 => ?_)
  refine S_aload_n 0 dX10_throwsIt_5 rfl rfl rfl ?_
  refine S_iload_n 1 dX10_throwsIt_6 rfl rfl rfl ?_
  refine S_i2l dX10_throwsIt_7 rfl ?_
  refine S_iload_n 2 dX10_throwsIt_8 rfl rfl rfl ?_
  refine S_i2l dX10_throwsIt_9 rfl ?_
  refine S_callV_i (as := [ql a1, ql a2]) (st := []) (fun _ => rfl) (TX10_whyThrow a1 a2 h1) yv_X10_whyThrow tw_1552 qC_10 qk_212 (by decide) rfl rfl (Nat.le_of_ble_eq_true rfl) dX10_throwsIt_10 rfl (fun r2 h3 e4 => ?_)
  refine S_istore (lv' := [(4, qi r2), (0, qr 212), (1, qi a1), (2, qi a2), (3, qi a3)]) dX10_throwsIt_13 (by decide) rfl rfl ?_
  refine S_iload 0 dX10_throwsIt_15 rfl rfl ?_
  refine S_if_eq (tgt := 26) dX10_throwsIt_17 (by decide) rfl (fun _ => ?_) (fun _ => ?_)
  · refine S_aload_n 1 dX10_throwsIt_26 rfl rfl rfl ?_
    refine S_callV_0 (as := []) (st := []) (fun _ => rfl) (TX10_keepsAll h3) yv_X10_keepsAll tw_1557 qC_10 qk_212 (by decide) rfl rfl (Nat.le_of_ble_eq_true rfl) dX10_throwsIt_27 rfl (fun r5 h6 e7 => ?_)
    refine S_aload_n 1 dX10_throwsIt_30 rfl rfl rfl ?_
    refine S_iload_n 2 dX10_throwsIt_31 rfl rfl rfl ?_
    refine S_iload_n 3 dX10_throwsIt_32 rfl rfl rfl ?_
    refine S_iload_n 4 dX10_throwsIt_33 rfl rfl rfl ?_
    refine S_callV_0 (as := [qi a1, qi a2, qi a3]) (st := []) (fun _ => rfl) (TX10_throwsOne a1 a2 a3 h6) yv_X10_throwsOne tw_1561 qC_10 qk_212 (by decide) rfl rfl (Nat.le_of_ble_eq_true rfl) dX10_throwsIt_34 rfl (fun r8 h9 e10 => ?_)
    refine S_aload_n 1 dX10_throwsIt_37 rfl rfl rfl ?_
    refine S_callV_0 (as := []) (st := []) (fun _ => rfl) (TX10_notes h9) yv_X10_notes tw_1573 qC_10 qk_212 (by decide) rfl rfl (Nat.le_of_ble_eq_true rfl) dX10_throwsIt_38 rfl (fun r11 h12 e13 => ?_)
    refine S_aload_n 1 dX10_throwsIt_41 rfl rfl rfl ?_
    refine S_getr (j := 213) (o := 1) 1 qC_10 (by decide) (by decide) qk_212 rfl rfl (by decide) tw_1227 dX10_throwsIt_42 rfl ?_
    refine S_sipush (a := 348) dX10_throwsIt_45 rfl (by decide) (by decide) ?_
    refine S_pick_t ((0 : Int) ≤ 348 ∧ (348 : Int) < 5736) (by decide) ?_
    refine S_iald (N := 5736) qk_213 rfl dX10_throwsIt_48 rfl (fun g14 g15 => ?_)
    refine S_iconst (a := 1) dX10_throwsIt_49 rfl (by decide) ?_
    refine S_isub dX10_throwsIt_50 rfl ?_
    exact S_iret dX10_throwsIt_51
  · refine S_bipush (a := (-10)) dX10_throwsIt_20 rfl (by decide) (by decide) ?_
    refine S_iload 0 dX10_throwsIt_22 rfl rfl ?_
    refine S_isub dX10_throwsIt_24 rfl ?_
    exact S_iret dX10_throwsIt_25
def DX10_tides_l28 : Nat → Int → Int → Int → qH → Option (Int × qH)
  | 0, _, _, _, _ => none
  | n + 1, a1, a2, a3, h => (if a1 ≤ a3 then (qbd (DX10_notes h) fun r1 h2 => some (a2, h2)) else (qbd (DX10_tide h) fun r4 h5 => (qlt (qw (a2 + r4)) fun v7 => ((DX10_tides_l28 n) a1 v7 (qw (a3 + 1)) h5))))
set_option maxRecDepth 100000 in
theorem TX10_tides_l28 {L : Nat} {xs : Nat → Int32} : ∀ (n : Nat) (a1 : Int) (a2 : Int) (a3 : Int) (h : qH), qS L xs cX10_tides "BottlePostModel" 4 8 1 28 [(0, qr 212), (1, qi a1), (2, qi a2), (3, qi a3)] [] h (DX10_tides_l28 n a1 a2 a3 h) := by
  intro n
  induction n with
  | zero =>
    intro a1 a2 a3 h
    exact S_none
  | succ n ih =>
    intro a1 a2 a3 h
    rw [DX10_tides_l28.eq_2]
    refine S_iload_n 3 dX10_tides_28 rfl rfl rfl ?_
    refine S_iload_n 1 dX10_tides_29 rfl rfl rfl ?_
    refine S_icmp_ge (tgt := 46) dX10_tides_30 (by decide) rfl (fun _ => ?_) (fun _ => ?_)
    · refine S_aload_n 0 dX10_tides_46 rfl rfl rfl ?_
      refine S_callV_0 (as := []) (st := []) (fun _ => rfl) (TX10_notes h) yv_X10_notes tw_1573 qC_10 qk_212 (by decide) rfl rfl (Nat.le_of_ble_eq_true rfl) dX10_tides_47 rfl (fun r1 h2 e3 => ?_)
      refine S_iload_n 2 dX10_tides_50 rfl rfl rfl ?_
      exact S_iret dX10_tides_51
    · refine S_iload_n 2 dX10_tides_33 rfl rfl rfl ?_
      refine S_aload_n 0 dX10_tides_34 rfl rfl rfl ?_
      refine S_callV_i (as := []) (st := [qi a2]) (fun _ => rfl) (TX10_tide h) yv_X10_tide tw_1582 qC_10 qk_212 (by decide) rfl rfl (Nat.le_of_ble_eq_true rfl) dX10_tides_35 rfl (fun r4 h5 e6 => ?_)
      refine S_iadd dX10_tides_38 rfl ?_
      refine S_istore_n (lv' := [(2, qi (qw (a2 + r4))), (0, qr 212), (1, qi a1), (3, qi a3)]) dX10_tides_39 rfl (by decide) rfl rfl ?_
      refine S_li (fun v7 => ?_)
      refine S_iinc (lv' := [(3, qi (qw (a3 + 1))), (2, qi v7), (0, qr 212), (1, qi a1)]) 3 dX10_tides_40 rfl (by decide) rfl rfl ?_
      refine S_goto (pc' := 28) dX10_tides_43 (by decide) ?_
      refine S_sub [2, 3, 1, 0] rfl ?_
      exact ih a1 v7 (qw (a3 + 1)) h5
def DX10_tides (a1 : Int) (h : qH) : Option (Int × qH) := (qlt (qu h 212 0 0) fun h8 => (qbd (DX10_within a1 1 99 h8) fun r9 h10 => (if ¬ r9 = 0 then (qbd (DX10_keepsAll h10) fun r12 h13 => (DX10_tides_l28 LF a1 0 0 h13)) else some ((-3), h10))))
set_option maxRecDepth 100000 in
theorem TX10_tides {L : Nat} {xs : Nat → Int32} (a1 : Int) (h : qH) : qMet L xs yX10_tides cX10_tides 4 (some .int) 1 8 [qr 212, qi a1] h (DX10_tides a1 h) := by
  refine qMet.of (by decide +kernel) (Or.inr (Or.inl ⟨rfl, rfl⟩)) (Nat.le_of_ble_eq_true rfl) ?_
  show qS L xs cX10_tides "BottlePostModel" 4 8 1 0 [(0, qr 212), (1, qi a1)] [] h (DX10_tides a1 h)
  unfold DX10_tides
  refine S_aload_n 0 dX10_tides_0 rfl rfl rfl ?_
  refine S_iconst (a := 0) dX10_tides_1 rfl (by decide) ?_
  refine S_puti 0 qC_10 (by decide) (by decide) rfl rfl qk_212 (by decide) tw_1226 dX10_tides_2 rfl ?_
  refine S_lh (fun h8 => ?_)
  refine S_iload_n 1 dX10_tides_5 rfl rfl rfl ?_
  refine S_i2l dX10_tides_6 rfl ?_
  refine S_lconst (a := 1) dX10_tides_7 rfl (by decide) (by decide) ?_
  refine S_ldc2 (a := 99) dX10_tides_8 rfl (by rw [show Int64.ofInt 99 = (99 : Int64) from by decide]; exact tw_1581) (by decide) ?_
  refine S_callS_i (as := [ql a1, ql 1, ql 99]) (st := []) (fun _ => rfl) (TX10_within a1 1 99 h8) yv_X10_within tw_1352 (by decide) rfl rfl (Nat.le_of_ble_eq_true rfl) dX10_tides_11 rfl (fun r9 h10 e11 => ?_)
  refine S_if_ne (tgt := 20) dX10_tides_14 (by decide) rfl (fun _ => ?_) (fun _ => ?_)
  · refine S_aload_n 0 dX10_tides_20 rfl rfl rfl ?_
    refine S_callV_0 (as := []) (st := []) (fun _ => rfl) (TX10_keepsAll h10) yv_X10_keepsAll tw_1557 qC_10 qk_212 (by decide) rfl rfl (Nat.le_of_ble_eq_true rfl) dX10_tides_21 rfl (fun r12 h13 e14 => ?_)
    refine S_iconst (a := 0) dX10_tides_24 rfl (by decide) ?_
    refine S_istore_n (lv' := [(2, qi 0), (0, qr 212), (1, qi a1)]) dX10_tides_25 rfl (by decide) rfl rfl ?_
    refine S_iconst (a := 0) dX10_tides_26 rfl (by decide) ?_
    refine S_istore_n (lv' := [(3, qi 0), (2, qi 0), (0, qr 212), (1, qi a1)]) dX10_tides_27 rfl (by decide) rfl rfl ?_
    refine S_sub [2, 3, 1, 0] rfl ?_
    exact TX10_tides_l28 LF a1 0 0 h13
  · refine S_bipush (a := (-3)) dX10_tides_17 rfl (by decide) (by decide) ?_
    exact S_iret dX10_tides_19
def DX10_undo_l46 : Nat → Int → qH → Option (Int × qH)
  | 0, _, _ => none
  | n + 1, a2, h => (if 66 ≤ a2 then some (h.1 213 350, h) else (if 0 ≤ qw (qw (351 + qw (66 * h.1 213 350)) + a2) ∧ qw (qw (351 + qw (66 * h.1 213 350)) + a2) < 5736 then (if 0 ≤ qw (284 + a2) ∧ qw (284 + a2) < 5736 then qlt (qu h 213 (qw (284 + a2)).toNat (h.1 213 (qw (qw (351 + qw (66 * h.1 213 350)) + a2)).toNat)) fun h7 => ((DX10_undo_l46 n) (qw (a2 + 1)) h7) else none) else none))
set_option maxRecDepth 100000 in
theorem TX10_undo_l46 {L : Nat} {xs : Nat → Int32} : ∀ (n : Nat) (a2 : Int) (h : qH), qS L xs cX10_undo "BottlePostModel" 3 2 1 46 [(0, qr 212), (2, qi a2)] [] h (DX10_undo_l46 n a2 h) := by
  intro n
  induction n with
  | zero =>
    intro a2 h
    exact S_none
  | succ n ih =>
    intro a2 h
    rw [DX10_undo_l46.eq_2]
    refine S_iload_n 1 dX10_undo_46 rfl rfl rfl ?_
    refine S_bipush (a := 66) dX10_undo_47 rfl (by decide) (by decide) ?_
    refine S_icmp_ge (tgt := 90) dX10_undo_49 (by decide) rfl (fun _ => ?_) (fun _ => ?_)
    · refine S_aload_n 0 dX10_undo_90 rfl rfl rfl ?_
      refine S_getr (j := 213) (o := 1) 1 qC_10 (by decide) (by decide) qk_212 rfl rfl (by decide) tw_1227 dX10_undo_91 rfl ?_
      refine S_sipush (a := 350) dX10_undo_94 rfl (by decide) (by decide) ?_
      refine S_pick_t ((0 : Int) ≤ 350 ∧ (350 : Int) < 5736) (by decide) ?_
      refine S_iald (N := 5736) qk_213 rfl dX10_undo_97 rfl (fun g1 g2 => ?_)
      exact S_iret dX10_undo_98
    · refine S_aload_n 0 dX10_undo_52 rfl rfl rfl ?_
      refine S_getr (j := 213) (o := 1) 1 qC_10 (by decide) (by decide) qk_212 rfl rfl (by decide) tw_1227 dX10_undo_53 rfl ?_
      refine S_sipush (a := 284) dX10_undo_56 rfl (by decide) (by decide) ?_
      refine S_iload_n 1 dX10_undo_59 rfl rfl rfl ?_
      refine S_iadd dX10_undo_60 rfl ?_
      refine S_aload_n 0 dX10_undo_61 rfl rfl rfl ?_
      refine S_getr (j := 213) (o := 1) 1 qC_10 (by decide) (by decide) qk_212 rfl rfl (by decide) tw_1227 dX10_undo_62 rfl ?_
      refine S_sipush (a := 351) dX10_undo_65 rfl (by decide) (by decide) ?_
      refine S_bipush (a := 66) dX10_undo_68 rfl (by decide) (by decide) ?_
      refine S_aload_n 0 dX10_undo_70 rfl rfl rfl ?_
      refine S_getr (j := 213) (o := 1) 1 qC_10 (by decide) (by decide) qk_212 rfl rfl (by decide) tw_1227 dX10_undo_71 rfl ?_
      refine S_sipush (a := 350) dX10_undo_74 rfl (by decide) (by decide) ?_
      refine S_pick_t ((0 : Int) ≤ 350 ∧ (350 : Int) < 5736) (by decide) ?_
      refine S_iald (N := 5736) qk_213 rfl dX10_undo_77 rfl (fun g3 g4 => ?_)
      refine S_imul dX10_undo_78 rfl ?_
      refine S_iadd dX10_undo_79 rfl ?_
      refine S_iload_n 1 dX10_undo_80 rfl rfl rfl ?_
      refine S_iadd dX10_undo_81 rfl ?_
      refine S_iald (N := 5736) qk_213 rfl dX10_undo_82 rfl (fun g5 g6 => ?_)
      refine S_iast (N := 5736) qk_213 rfl dX10_undo_83 rfl (fun _ _ => ?_)
      refine S_lh (fun h7 => ?_)
      refine S_iinc (lv' := [(2, qi (qw (a2 + 1))), (0, qr 212)]) 1 dX10_undo_84 rfl (by decide) rfl rfl ?_
      refine S_goto (pc' := 46) dX10_undo_87 (by decide) ?_
      refine S_sub [1, 0] rfl ?_
      exact ih (qw (a2 + 1)) h7
def DX10_undo (a1 : Int) (h : qH) : Option (Int × qH) := (qlt (qu h 212 0 0) fun h8 => (qbd (DX10_within a1 1 10 h8) fun r9 h10 => (if r9 = 0 then some ((-3), h10) else (if a1 ≤ h10.1 213 350 then (qlt (qu h10 213 350 (qw (h10.1 213 350 - a1))) fun h16 => (DX10_undo_l46 LF 0 h16)) else some ((-3), h10)))))
set_option maxRecDepth 100000 in
theorem TX10_undo {L : Nat} {xs : Nat → Int32} (a1 : Int) (h : qH) : qMet L xs yX10_undo cX10_undo 3 (some .int) 1 2 [qr 212, qi a1] h (DX10_undo a1 h) := by
  refine qMet.of (by decide +kernel) (Or.inr (Or.inl ⟨rfl, rfl⟩)) (Nat.le_of_ble_eq_true rfl) ?_
  show qS L xs cX10_undo "BottlePostModel" 3 2 1 0 [(0, qr 212), (1, qi a1)] [] h (DX10_undo a1 h)
  unfold DX10_undo
  refine S_aload_n 0 dX10_undo_0 rfl rfl rfl ?_
  refine S_iconst (a := 0) dX10_undo_1 rfl (by decide) ?_
  refine S_puti 0 qC_10 (by decide) (by decide) rfl rfl qk_212 (by decide) tw_1226 dX10_undo_2 rfl ?_
  refine S_lh (fun h8 => ?_)
  refine S_iload_n 1 dX10_undo_5 rfl rfl rfl ?_
  refine S_i2l dX10_undo_6 rfl ?_
  refine S_lconst (a := 1) dX10_undo_7 rfl (by decide) (by decide) ?_
  refine S_ldc2 (a := 10) dX10_undo_8 rfl (by rw [show Int64.ofInt 10 = (10 : Int64) from by decide]; exact tw_1633) (by decide) ?_
  refine S_callS_i (as := [ql a1, ql 1, ql 10]) (st := []) (fun _ => rfl) (TX10_within a1 1 10 h8) yv_X10_within tw_1352 (by decide) rfl rfl (Nat.le_of_ble_eq_true rfl) dX10_undo_11 rfl (fun r9 h10 e11 => ?_)
  refine S_if_eq (tgt := 29) dX10_undo_14 (by decide) rfl (fun _ => ?_) (fun _ => ?_)
  · refine S_bipush (a := (-3)) dX10_undo_29 rfl (by decide) (by decide) ?_
    exact S_iret dX10_undo_31
  · refine S_iload_n 1 dX10_undo_17 rfl rfl rfl ?_
    refine S_aload_n 0 dX10_undo_18 rfl rfl rfl ?_
    refine S_getr (j := 213) (o := 1) 1 qC_10 (by decide) (by decide) qk_212 rfl rfl (by decide) tw_1227 dX10_undo_19 rfl ?_
    refine S_sipush (a := 350) dX10_undo_22 rfl (by decide) (by decide) ?_
    refine S_pick_t ((0 : Int) ≤ 350 ∧ (350 : Int) < 5736) (by decide) ?_
    refine S_iald (N := 5736) qk_213 rfl dX10_undo_25 rfl (fun g12 g13 => ?_)
    refine S_icmp_le (tgt := 32) dX10_undo_26 (by decide) rfl (fun _ => ?_) (fun _ => ?_)
    · refine S_aload_n 0 dX10_undo_32 rfl rfl rfl ?_
      refine S_getr (j := 213) (o := 1) 1 qC_10 (by decide) (by decide) qk_212 rfl rfl (by decide) tw_1227 dX10_undo_33 rfl ?_
      refine S_sipush (a := 350) dX10_undo_36 rfl (by decide) (by decide) ?_
      refine S_dup2 dX10_undo_39 rfl rfl rfl ?_
      refine S_pick_t ((0 : Int) ≤ 350 ∧ (350 : Int) < 5736) (by decide) ?_
      refine S_iald (N := 5736) qk_213 rfl dX10_undo_40 rfl (fun g14 g15 => ?_)
      refine S_iload_n 1 dX10_undo_41 rfl rfl rfl ?_
      refine S_isub dX10_undo_42 rfl ?_
      refine S_pick_t ((0 : Int) ≤ 350 ∧ (350 : Int) < 5736) (by decide) ?_
      refine S_iast (N := 5736) qk_213 rfl dX10_undo_43 rfl (fun _ _ => ?_)
      refine S_lh (fun h16 => ?_)
      refine S_iconst (a := 0) dX10_undo_44 rfl (by decide) ?_
      refine S_istore_n (lv' := [(2, qi 0), (0, qr 212), (1, qi a1)]) dX10_undo_45 rfl (by decide) rfl rfl ?_
      refine S_sub [1, 0] rfl ?_
      exact TX10_undo_l46 LF 0 h16
    · refine S_bipush (a := (-3)) dX10_undo_29 rfl (by decide) (by decide) ?_
      exact S_iret dX10_undo_31
def DX10_whereIn_l39 : Nat → Int → Int → qH → Option (Int × qH)
  | 0, _, _, _ => none
  | n + 1, a2, a3, h => (if a2 ≤ a3 then (qbd (DX10_here h) fun r1 h2 => some (r1, h2)) else (qbd (DX10_goesTide (qw (h.1 213 349 + a3)) 0 h) fun r6 h7 => ((DX10_whereIn_l39 n) a2 (qw (a3 + 1)) h7)))
set_option maxRecDepth 100000 in
theorem TX10_whereIn_l39 {L : Nat} {xs : Nat → Int32} : ∀ (n : Nat) (a2 : Int) (a3 : Int) (h : qH), qS L xs cX10_whereIn "BottlePostModel" 4 7 1 39 [(0, qr 212), (2, qi a2), (3, qi a3)] [] h (DX10_whereIn_l39 n a2 a3 h) := by
  intro n
  induction n with
  | zero =>
    intro a2 a3 h
    exact S_none
  | succ n ih =>
    intro a2 a3 h
    rw [DX10_whereIn_l39.eq_2]
    refine S_iload_n 2 dX10_whereIn_39 rfl rfl rfl ?_
    refine S_iload_n 1 dX10_whereIn_40 rfl rfl rfl ?_
    refine S_icmp_ge (tgt := 65) dX10_whereIn_41 (by decide) rfl (fun _ => ?_) (fun _ => ?_)
    · refine S_aload_n 0 dX10_whereIn_65 rfl rfl rfl ?_
      refine S_callV_i (as := []) (st := []) (fun _ => rfl) (TX10_here h) yv_X10_here tw_1701 qC_10 qk_212 (by decide) rfl rfl (Nat.le_of_ble_eq_true rfl) dX10_whereIn_66 rfl (fun r1 h2 e3 => ?_)
      exact S_iret dX10_whereIn_69
    · refine S_aload_n 0 dX10_whereIn_44 rfl rfl rfl ?_
      refine S_aload_n 0 dX10_whereIn_45 rfl rfl rfl ?_
      refine S_getr (j := 213) (o := 1) 1 qC_10 (by decide) (by decide) qk_212 rfl rfl (by decide) tw_1227 dX10_whereIn_46 rfl ?_
      refine S_sipush (a := 349) dX10_whereIn_49 rfl (by decide) (by decide) ?_
      refine S_pick_t ((0 : Int) ≤ 349 ∧ (349 : Int) < 5736) (by decide) ?_
      refine S_iald (N := 5736) qk_213 rfl dX10_whereIn_52 rfl (fun g4 g5 => ?_)
      refine S_iload_n 2 dX10_whereIn_53 rfl rfl rfl ?_
      refine S_iadd dX10_whereIn_54 rfl ?_
      refine S_iconst (a := 0) dX10_whereIn_55 rfl (by decide) ?_
      refine S_callV_0 (as := [qi (qw (h.1 213 349 + a3)), qi 0]) (st := []) (fun _ => rfl) (TX10_goesTide (qw (h.1 213 349 + a3)) 0 h) yv_X10_goesTide tw_1594 qC_10 qk_212 (by decide) rfl rfl (Nat.le_of_ble_eq_true rfl) dX10_whereIn_56 rfl (fun r6 h7 e8 => ?_)
      refine S_iinc (lv' := [(3, qi (qw (a3 + 1))), (0, qr 212), (2, qi a2)]) 2 dX10_whereIn_59 rfl (by decide) rfl rfl ?_
      refine S_goto (pc' := 39) dX10_whereIn_62 (by decide) ?_
      refine S_sub [1, 2, 0] rfl ?_
      exact ih a2 (qw (a3 + 1)) h7
def DX10_whereIn (a1 : Int) (a2 : Int) (h : qH) : Option (Int × qH) := (qlt (qu h 212 0 0) fun h9 => (qbd (DX10_isBottle a1 h9) fun r10 h11 => (if ¬ r10 = 0 then (qbd (DX10_within a2 0 200 h11) fun r13 h14 => (if ¬ r13 = 0 then (qbd (DX10_loads a1 h14) fun r16 h17 => (DX10_whereIn_l39 LF a2 0 h17)) else some ((-3), h14))) else some ((-2), h11))))
set_option maxRecDepth 100000 in
theorem TX10_whereIn {L : Nat} {xs : Nat → Int32} (a1 : Int) (a2 : Int) (h : qH) : qMet L xs yX10_whereIn cX10_whereIn 4 (some .int) 1 7 [qr 212, qi a1, qi a2] h (DX10_whereIn a1 a2 h) := by
  refine qMet.of (by decide +kernel) (Or.inr (Or.inl ⟨rfl, rfl⟩)) (Nat.le_of_ble_eq_true rfl) ?_
  show qS L xs cX10_whereIn "BottlePostModel" 4 7 1 0 [(0, qr 212), (1, qi a1), (2, qi a2)] [] h (DX10_whereIn a1 a2 h)
  unfold DX10_whereIn
  refine S_aload_n 0 dX10_whereIn_0 rfl rfl rfl ?_
  refine S_iconst (a := 0) dX10_whereIn_1 rfl (by decide) ?_
  refine S_puti 0 qC_10 (by decide) (by decide) rfl rfl qk_212 (by decide) tw_1226 dX10_whereIn_2 rfl ?_
  refine S_lh (fun h9 => ?_)
  refine S_aload_n 0 dX10_whereIn_5 rfl rfl rfl ?_
  refine S_iload_n 1 dX10_whereIn_6 rfl rfl rfl ?_
  refine S_i2l dX10_whereIn_7 rfl ?_
  refine S_callV_i (as := [ql a1]) (st := []) (fun _ => rfl) (TX10_isBottle a1 h9) yv_X10_isBottle tw_1543 qC_10 qk_212 (by decide) rfl rfl (Nat.le_of_ble_eq_true rfl) dX10_whereIn_8 rfl (fun r10 h11 e12 => ?_)
  refine S_if_ne (tgt := 17) dX10_whereIn_11 (by decide) rfl (fun _ => ?_) (fun _ => ?_)
  · refine S_iload_n 2 dX10_whereIn_17 rfl rfl rfl ?_
    refine S_i2l dX10_whereIn_18 rfl ?_
    refine S_lconst (a := 0) dX10_whereIn_19 rfl (by decide) (by decide) ?_
    refine S_ldc2 (a := 200) dX10_whereIn_20 rfl (by rw [show Int64.ofInt 200 = (200 : Int64) from by decide]; exact tw_1700) (by decide) ?_
    refine S_callS_i (as := [ql a2, ql 0, ql 200]) (st := []) (fun _ => rfl) (TX10_within a2 0 200 h11) yv_X10_within tw_1352 (by decide) rfl rfl (Nat.le_of_ble_eq_true rfl) dX10_whereIn_23 rfl (fun r13 h14 e15 => ?_)
    refine S_if_ne (tgt := 32) dX10_whereIn_26 (by decide) rfl (fun _ => ?_) (fun _ => ?_)
    · refine S_aload_n 0 dX10_whereIn_32 rfl rfl rfl ?_
      refine S_iload_n 1 dX10_whereIn_33 rfl rfl rfl ?_
      refine S_callV_0 (as := [qi a1]) (st := []) (fun _ => rfl) (TX10_loads a1 h14) yv_X10_loads tw_1586 qC_10 qk_212 (by decide) rfl rfl (Nat.le_of_ble_eq_true rfl) dX10_whereIn_34 rfl (fun r16 h17 e18 => ?_)
      refine S_iconst (a := 0) dX10_whereIn_37 rfl (by decide) ?_
      refine S_istore_n (lv' := [(3, qi 0), (0, qr 212), (1, qi a1), (2, qi a2)]) dX10_whereIn_38 rfl (by decide) rfl rfl ?_
      refine S_sub [1, 3, 0] rfl ?_
      exact TX10_whereIn_l39 LF a2 0 h17
    · refine S_bipush (a := (-3)) dX10_whereIn_29 rfl (by decide) (by decide) ?_
      exact S_iret dX10_whereIn_31
  · refine S_bipush (a := (-2)) dX10_whereIn_14 rfl (by decide) (by decide) ?_
    exact S_iret dX10_whereIn_16
def DX10_wind (a1 : Int) (a2 : Int) (h : qH) : Option (Int × qH) := (qlt (qu h 212 0 0) fun h1 => (qbd (DX10_isCell a1 h1) fun r2 h3 => (if ¬ r2 = 0 then (qbd (DX10_within a2 0 999 h3) fun r5 h6 => (if r5 = 0 then some ((-3), h6) else (qbd (DX10_windOf a1 (qw (h6.1 213 349 + a2)) h6) fun r10 h11 => some (r10, h11)))) else some ((-2), h3))))
set_option maxRecDepth 100000 in
theorem TX10_wind {L : Nat} {xs : Nat → Int32} (a1 : Int) (a2 : Int) (h : qH) : qMet L xs yX10_wind cX10_wind 3 (some .int) 1 5 [qr 212, qi a1, qi a2] h (DX10_wind a1 a2 h) := by
  refine qMet.of (by decide +kernel) (Or.inr (Or.inl ⟨rfl, rfl⟩)) (Nat.le_of_ble_eq_true rfl) ?_
  show qS L xs cX10_wind "BottlePostModel" 3 5 1 0 [(0, qr 212), (1, qi a1), (2, qi a2)] [] h (DX10_wind a1 a2 h)
  unfold DX10_wind
  refine S_aload_n 0 dX10_wind_0 rfl rfl rfl ?_
  refine S_iconst (a := 0) dX10_wind_1 rfl (by decide) ?_
  refine S_puti 0 qC_10 (by decide) (by decide) rfl rfl qk_212 (by decide) tw_1226 dX10_wind_2 rfl ?_
  refine S_lh (fun h1 => ?_)
  refine S_aload_n 0 dX10_wind_5 rfl rfl rfl ?_
  refine S_iload_n 1 dX10_wind_6 rfl rfl rfl ?_
  refine S_i2l dX10_wind_7 rfl ?_
  refine S_callV_i (as := [ql a1]) (st := []) (fun _ => rfl) (TX10_isCell a1 h1) yv_X10_isCell tw_1469 qC_10 qk_212 (by decide) rfl rfl (Nat.le_of_ble_eq_true rfl) dX10_wind_8 rfl (fun r2 h3 e4 => ?_)
  refine S_if_ne (tgt := 17) dX10_wind_11 (by decide) rfl (fun _ => ?_) (fun _ => ?_)
  · refine S_iload_n 2 dX10_wind_17 rfl rfl rfl ?_
    refine S_i2l dX10_wind_18 rfl ?_
    refine S_lconst (a := 0) dX10_wind_19 rfl (by decide) (by decide) ?_
    refine S_ldc2 (a := 999) dX10_wind_20 rfl (by rw [show Int64.ofInt 999 = (999 : Int64) from by decide]; exact tw_1509) (by decide) ?_
    refine S_callS_i (as := [ql a2, ql 0, ql 999]) (st := []) (fun _ => rfl) (TX10_within a2 0 999 h3) yv_X10_within tw_1352 (by decide) rfl rfl (Nat.le_of_ble_eq_true rfl) dX10_wind_23 rfl (fun r5 h6 e7 => ?_)
    refine S_if_eq (tgt := 47) dX10_wind_26 (by decide) rfl (fun _ => ?_) (fun _ => ?_)
    · refine S_bipush (a := (-3)) dX10_wind_47 rfl (by decide) (by decide) ?_
      exact S_iret dX10_wind_49
    · refine S_aload_n 0 dX10_wind_29 rfl rfl rfl ?_
      refine S_iload_n 1 dX10_wind_30 rfl rfl rfl ?_
      refine S_aload_n 0 dX10_wind_31 rfl rfl rfl ?_
      refine S_getr (j := 213) (o := 1) 1 qC_10 (by decide) (by decide) qk_212 rfl rfl (by decide) tw_1227 dX10_wind_32 rfl ?_
      refine S_sipush (a := 349) dX10_wind_35 rfl (by decide) (by decide) ?_
      refine S_pick_t ((0 : Int) ≤ 349 ∧ (349 : Int) < 5736) (by decide) ?_
      refine S_iald (N := 5736) qk_213 rfl dX10_wind_38 rfl (fun g8 g9 => ?_)
      refine S_iload_n 2 dX10_wind_39 rfl rfl rfl ?_
      refine S_iadd dX10_wind_40 rfl ?_
      refine S_callV_i (as := [qi a1, qi (qw (h6.1 213 349 + a2))]) (st := []) (fun _ => rfl) (TX10_windOf a1 (qw (h6.1 213 349 + a2)) h6) yv_X10_windOf tw_1510 qC_10 qk_212 (by decide) rfl rfl (Nat.le_of_ble_eq_true rfl) dX10_wind_41 rfl (fun r10 h11 e12 => ?_)
      refine S_goto (pc' := 49) dX10_wind_44 (by decide) ?_
      exact S_iret dX10_wind_49
  · refine S_bipush (a := (-2)) dX10_wind_14 rfl (by decide) (by decide) ?_
    exact S_iret dX10_wind_16
def DX10_without (a1 : Int) (a2 : Int) (a3 : Int) (h : qH) : Option (Int × qH) := (qlt (qu h 212 0 0) fun h1 => (qbd (DX10_noThrow a1 a2 h1) fun r2 h3 => (if ¬ r2 = 0 then some ((-2), h3) else (if a2 = (-1) then some ((-2), h3) else (qbd (DX10_isShore a3 h3) fun r5 h6 => (if r5 = 0 then some ((-2), h6) else (if a3 = a1 then some ((-2), h6) else (if ¬ a3 = a2 then (qbd (DX10_throwsTo a1 h6) fun r8 h9 => (if ¬ r8 = (-1) then (qbd (DX10_bestFrom a1 a2 (h9.1 213 349) h9) fun r13 h14 => (qlt (qu h14 212 19 a3) fun h16 => (qbd (DX10_bestFrom a1 a2 (h16.1 213 349) h16) fun r19 h20 => (qlt (qu h20 212 19 (-1)) fun h22 => (if r13 = 1000000 then some ((-1), h22) else (if ¬ r19 = 1000000 then some (qw (r19 - r13), h22) else some ((-1), h22))))))) else some ((-5), h9))) else some ((-2), h6)))))))))
set_option maxRecDepth 100000 in
theorem TX10_without {L : Nat} {xs : Nat → Int32} (a1 : Int) (a2 : Int) (a3 : Int) (h : qH) : qMet L xs yX10_without cX10_without 6 (some .int) 1 10 [qr 212, qi a1, qi a2, qi a3] h (DX10_without a1 a2 a3 h) := by
  refine qMet.of (by decide +kernel) (Or.inr (Or.inl ⟨rfl, rfl⟩)) (Nat.le_of_ble_eq_true rfl) ?_
  show qS L xs cX10_without "BottlePostModel" 6 10 1 0 [(0, qr 212), (1, qi a1), (2, qi a2), (3, qi a3)] [] h (DX10_without a1 a2 a3 h)
  unfold DX10_without
  refine S_aload_n 0 dX10_without_0 rfl rfl rfl ?_
  refine S_iconst (a := 0) dX10_without_1 rfl (by decide) ?_
  refine S_puti 0 qC_10 (by decide) (by decide) rfl rfl qk_212 (by decide) tw_1226 dX10_without_2 rfl ?_
  refine S_lh (fun h1 => ?_)
  refine S_aload_n 0 dX10_without_5 rfl rfl rfl ?_
  refine S_iload_n 1 dX10_without_6 rfl rfl rfl ?_
  refine S_iload_n 2 dX10_without_7 rfl rfl rfl ?_
  refine S_callV_i (as := [qi a1, qi a2]) (st := []) (fun _ => rfl) (TX10_noThrow a1 a2 h1) yv_X10_noThrow tw_1713 qC_10 qk_212 (by decide) rfl rfl (Nat.le_of_ble_eq_true rfl) dX10_without_8 rfl (fun r2 h3 e4 => ?_)
  refine S_if_ne (tgt := 38) dX10_without_11 (by decide) rfl (fun _ => ?_) (fun _ => ?_)
  · refine S_bipush (a := (-2)) dX10_without_38 rfl (by decide) (by decide) ?_
    exact S_iret dX10_without_40
  · refine S_iload_n 2 dX10_without_14 rfl rfl rfl ?_
    refine S_iconst (a := (-1)) dX10_without_15 rfl (by decide) ?_
    refine S_icmp_eq (tgt := 38) dX10_without_16 (by decide) rfl (fun _ => ?_) (fun _ => ?_)
    · refine S_bipush (a := (-2)) dX10_without_38 rfl (by decide) (by decide) ?_
      exact S_iret dX10_without_40
    · refine S_aload_n 0 dX10_without_19 rfl rfl rfl ?_
      refine S_iload_n 3 dX10_without_20 rfl rfl rfl ?_
      refine S_i2l dX10_without_21 rfl ?_
      refine S_callV_i (as := [ql a3]) (st := []) (fun _ => rfl) (TX10_isShore a3 h3) yv_X10_isShore tw_1481 qC_10 qk_212 (by decide) rfl rfl (Nat.le_of_ble_eq_true rfl) dX10_without_22 rfl (fun r5 h6 e7 => ?_)
      refine S_if_eq (tgt := 38) dX10_without_25 (by decide) rfl (fun _ => ?_) (fun _ => ?_)
      · refine S_bipush (a := (-2)) dX10_without_38 rfl (by decide) (by decide) ?_
        exact S_iret dX10_without_40
      · refine S_iload_n 3 dX10_without_28 rfl rfl rfl ?_
        refine S_iload_n 1 dX10_without_29 rfl rfl rfl ?_
        refine S_icmp_eq (tgt := 38) dX10_without_30 (by decide) rfl (fun _ => ?_) (fun _ => ?_)
        · refine S_bipush (a := (-2)) dX10_without_38 rfl (by decide) (by decide) ?_
          exact S_iret dX10_without_40
        · refine S_iload_n 3 dX10_without_33 rfl rfl rfl ?_
          refine S_iload_n 2 dX10_without_34 rfl rfl rfl ?_
          refine S_icmp_ne (tgt := 41) dX10_without_35 (by decide) rfl (fun _ => ?_) (fun _ => ?_)
          · refine S_aload_n 0 dX10_without_41 rfl rfl rfl ?_
            refine S_iload_n 1 dX10_without_42 rfl rfl rfl ?_
            refine S_callV_i (as := [qi a1]) (st := []) (fun _ => rfl) (TX10_throwsTo a1 h6) yv_X10_throwsTo tw_1485 qC_10 qk_212 (by decide) rfl rfl (Nat.le_of_ble_eq_true rfl) dX10_without_43 rfl (fun r8 h9 e10 => ?_)
            refine S_iconst (a := (-1)) dX10_without_46 rfl (by decide) ?_
            refine S_icmp_ne (tgt := 53) dX10_without_47 (by decide) rfl (fun _ => ?_) (fun _ => ?_)
            · refine S_aload_n 0 dX10_without_53 rfl rfl rfl ?_
              refine S_iload_n 1 dX10_without_54 rfl rfl rfl ?_
              refine S_iload_n 2 dX10_without_55 rfl rfl rfl ?_
              refine S_aload_n 0 dX10_without_56 rfl rfl rfl ?_
              refine S_getr (j := 213) (o := 1) 1 qC_10 (by decide) (by decide) qk_212 rfl rfl (by decide) tw_1227 dX10_without_57 rfl ?_
              refine S_sipush (a := 349) dX10_without_60 rfl (by decide) (by decide) ?_
              refine S_pick_t ((0 : Int) ≤ 349 ∧ (349 : Int) < 5736) (by decide) ?_
              refine S_iald (N := 5736) qk_213 rfl dX10_without_63 rfl (fun g11 g12 => ?_)
              refine S_callV_i (as := [qi a1, qi a2, qi (h9.1 213 349)]) (st := []) (fun _ => rfl) (TX10_bestFrom a1 a2 (h9.1 213 349) h9) yv_X10_bestFrom tw_1730 qC_10 qk_212 (by decide) rfl rfl (Nat.le_of_ble_eq_true rfl) dX10_without_64 rfl (fun r13 h14 e15 => ?_)
              refine S_istore (lv' := [(4, qi r13), (0, qr 212), (1, qi a1), (2, qi a2), (3, qi a3)]) dX10_without_67 (by decide) rfl rfl ?_
              refine S_aload_n 1 dX10_without_69 rfl rfl rfl ?_
              refine S_iload_n 4 dX10_without_70 rfl rfl rfl ?_
              refine S_puti 19 qC_10 (by decide) (by decide) rfl rfl qk_212 (by decide) tw_1245 dX10_without_71 rfl ?_
              refine S_lh (fun h16 => ?_)
              refine S_aload_n 1 dX10_without_74 rfl rfl rfl ?_
              refine S_iload_n 2 dX10_without_75 rfl rfl rfl ?_
              refine S_iload_n 3 dX10_without_76 rfl rfl rfl ?_
              refine S_aload_n 1 dX10_without_77 rfl rfl rfl ?_
              refine S_getr (j := 213) (o := 1) 1 qC_10 (by decide) (by decide) qk_212 rfl rfl (by decide) tw_1227 dX10_without_78 rfl ?_
              refine S_sipush (a := 349) dX10_without_81 rfl (by decide) (by decide) ?_
              refine S_pick_t ((0 : Int) ≤ 349 ∧ (349 : Int) < 5736) (by decide) ?_
              refine S_iald (N := 5736) qk_213 rfl dX10_without_84 rfl (fun g17 g18 => ?_)
              refine S_callV_i (as := [qi a1, qi a2, qi (h16.1 213 349)]) (st := []) (fun _ => rfl) (TX10_bestFrom a1 a2 (h16.1 213 349) h16) yv_X10_bestFrom tw_1730 qC_10 qk_212 (by decide) rfl rfl (Nat.le_of_ble_eq_true rfl) dX10_without_85 rfl (fun r19 h20 e21 => ?_)
              refine S_istore (lv' := [(5, qi r19), (4, qi r13), (0, qr 212), (1, qi a1), (2, qi a2), (3, qi a3)]) dX10_without_88 (by decide) rfl rfl ?_
              refine S_aload_n 2 dX10_without_90 rfl rfl rfl ?_
              refine S_iconst (a := (-1)) dX10_without_91 rfl (by decide) ?_
              refine S_puti 19 qC_10 (by decide) (by decide) rfl rfl qk_212 (by decide) tw_1245 dX10_without_92 rfl ?_
              refine S_lh (fun h22 => ?_)
              refine S_iload 1 dX10_without_95 rfl rfl ?_
              refine S_ldcw (a := 1000000) dX10_without_97 rfl (by rw [show Int32.ofInt 1000000 = (1000000 : Int32) from by decide]; exact tw_1695) (by decide) ?_
              refine S_icmp_eq (tgt := 111) dX10_without_100 (by decide) rfl (fun _ => ?_) (fun _ => ?_)
              · refine S_iconst (a := (-1)) dX10_without_111 rfl (by decide) ?_
                refine S_goto (pc' := 120) dX10_without_112 (by decide) ?_
                exact S_iret dX10_without_120
              · refine S_iload 0 dX10_without_103 rfl rfl ?_
                refine S_ldcw (a := 1000000) dX10_without_105 rfl (by rw [show Int32.ofInt 1000000 = (1000000 : Int32) from by decide]; exact tw_1695) (by decide) ?_
                refine S_icmp_ne (tgt := 115) dX10_without_108 (by decide) rfl (fun _ => ?_) (fun _ => ?_)
                · refine S_iload 0 dX10_without_115 rfl rfl ?_
                  refine S_iload 1 dX10_without_117 rfl rfl ?_
                  refine S_isub dX10_without_119 rfl ?_
                  exact S_iret dX10_without_120
                · refine S_iconst (a := (-1)) dX10_without_111 rfl (by decide) ?_
                  refine S_goto (pc' := 120) dX10_without_112 (by decide) ?_
                  exact S_iret dX10_without_120
            · refine S_bipush (a := (-5)) dX10_without_50 rfl (by decide) (by decide) ?_
              exact S_iret dX10_without_52
          · refine S_bipush (a := (-2)) dX10_without_38 rfl (by decide) (by decide) ?_
            exact S_iret dX10_without_40
