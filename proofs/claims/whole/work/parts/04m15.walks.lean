def DX10_net_b73 (k41 : Int → Int → Int → Int → Int → qH → Option (Int × qH)) (a1 : Int) (a2 : Int) (a3 : Int) (a4 : Int) (a5 : Int) (b0 : Int) (h : qH) : Option (Int × qH) := (if a4 < b0 then (k41 a1 a2 a5 b0 (qw (a5 + 1)) h) else (k41 a1 a2 a3 a4 (qw (a5 + 1)) h))
set_option maxRecDepth 100000 in
theorem TX10_net_b73 {L : Nat} {xs : Nat → Int32} (k41 : Int → Int → Int → Int → Int → qH → Option (Int × qH)) (hk41 : ∀ (a1 : Int) (a2 : Int) (a3 : Int) (a4 : Int) (a5 : Int) (h : qH), qS L xs cX10_net "BottlePostModel" 7 9 1 41 [(0, qr 212), (1, qi a1), (2, qi a2), (3, qi a3), (4, qi a4), (5, qi a5)] [] h (k41 a1 a2 a3 a4 a5 h)) (a1 : Int) (a2 : Int) (a3 : Int) (a4 : Int) (a5 : Int) (b0 : Int) (h : qH) : qS L xs cX10_net "BottlePostModel" 7 9 1 73 [(0, qr 212), (1, qi a1), (2, qi a2), (3, qi a3), (4, qi a4), (5, qi a5)] [qi b0] h (DX10_net_b73 k41 a1 a2 a3 a4 a5 b0 h) := by
  unfold DX10_net_b73
  refine S_istore (lv' := [(6, qi b0), (0, qr 212), (1, qi a1), (2, qi a2), (3, qi a3), (4, qi a4), (5, qi a5)]) dX10_net_73 (by decide) rfl rfl ?_
  refine S_iload 0 dX10_net_75 rfl rfl ?_
  refine S_iload 5 dX10_net_77 rfl rfl ?_
  refine S_icmp_gt (tgt := 85) dX10_net_79 (by decide) rfl (fun _ => ?_) (fun _ => ?_)
  · refine S_iload 6 dX10_net_85 rfl rfl ?_
    refine S_istore_n (lv' := [(3, qi a5), (6, qi b0), (0, qr 212), (1, qi a1), (2, qi a2), (4, qi a4), (5, qi a5)]) dX10_net_87 rfl (by decide) rfl rfl ?_
    refine S_iload 1 dX10_net_88 rfl rfl ?_
    refine S_istore (lv' := [(4, qi b0), (3, qi a5), (6, qi b0), (0, qr 212), (1, qi a1), (2, qi a2), (5, qi a5)]) dX10_net_90 (by decide) rfl rfl ?_
    refine S_iinc (lv' := [(5, qi (qw (a5 + 1))), (4, qi b0), (3, qi a5), (6, qi b0), (0, qr 212), (1, qi a1), (2, qi a2)]) 6 dX10_net_92 rfl (by decide) rfl rfl ?_
    refine S_goto (pc' := 41) dX10_net_95 (by decide) ?_
    refine S_sub [4, 5, 6, 2, 1, 0] rfl ?_
    exact hk41 a1 a2 a5 b0 (qw (a5 + 1)) h
  · refine S_goto (pc' := 92) dX10_net_82 (by decide) ?_
    refine S_iinc (lv' := [(5, qi (qw (a5 + 1))), (6, qi b0), (0, qr 212), (1, qi a1), (2, qi a2), (3, qi a3), (4, qi a4)]) 6 dX10_net_92 rfl (by decide) rfl rfl ?_
    refine S_goto (pc' := 41) dX10_net_95 (by decide) ?_
    refine S_sub [2, 3, 4, 5, 6, 0] rfl ?_
    exact hk41 a1 a2 a3 a4 (qw (a5 + 1)) h
def DX10_net_l41 : Nat → Int → Int → Int → Int → Int → qH → Option (Int × qH)
  | 0, _, _, _, _, _, _ => none
  | n + 1, a1, a2, a3, a4, a5, h => (qbd (DX10_cells h) fun r1 h2 => (if r1 ≤ a5 then (if ¬ a2 = 0 then some (a4, h2) else some (a3, h2)) else (qbd (DX10_isOpen a5 h2) fun r4 h5 => (if r4 = 0 then (DX10_net_b73 (DX10_net_l41 n) a1 a2 a3 a4 a5 (-1) h5) else (qbd (DX10_catchOf a5 a1 h5) fun r7 h8 => (qbd (DX10_bitsOf r7 h8) fun r10 h11 => (DX10_net_b73 (DX10_net_l41 n) a1 a2 a3 a4 a5 r10 h11)))))))
set_option maxRecDepth 100000 in
theorem TX10_net_l41 {L : Nat} {xs : Nat → Int32} : ∀ (n : Nat) (a1 : Int) (a2 : Int) (a3 : Int) (a4 : Int) (a5 : Int) (h : qH), qS L xs cX10_net "BottlePostModel" 7 9 1 41 [(0, qr 212), (1, qi a1), (2, qi a2), (3, qi a3), (4, qi a4), (5, qi a5)] [] h (DX10_net_l41 n a1 a2 a3 a4 a5 h) := by
  intro n
  induction n with
  | zero =>
    intro a1 a2 a3 a4 a5 h
    exact S_none
  | succ n ih =>
    intro a1 a2 a3 a4 a5 h
    rw [DX10_net_l41.eq_2]
    refine S_iload 5 dX10_net_41 rfl rfl ?_
    refine S_aload_n 0 dX10_net_43 rfl rfl rfl ?_
    refine S_callV_i (as := []) (st := [qi a5]) (fun _ => rfl) (TX10_cells h) yv_X10_cells tw_1473 qC_10 qk_212 (by decide) rfl rfl (Nat.le_of_ble_eq_true rfl) dX10_net_44 rfl (fun r1 h2 e3 => ?_)
    refine S_icmp_ge (tgt := 98) dX10_net_47 (by decide) rfl (fun _ => ?_) (fun _ => ?_)
    · refine S_iload_n 2 dX10_net_98 rfl rfl rfl ?_
      refine S_if_ne (tgt := 106) dX10_net_99 (by decide) rfl (fun _ => ?_) (fun _ => ?_)
      · refine S_iload 4 dX10_net_106 rfl rfl ?_
        exact S_iret dX10_net_108
      · refine S_iload_n 3 dX10_net_102 rfl rfl rfl ?_
        refine S_goto (pc' := 108) dX10_net_103 (by decide) ?_
        exact S_iret dX10_net_108
    · refine S_aload_n 0 dX10_net_50 rfl rfl rfl ?_
      refine S_iload 5 dX10_net_51 rfl rfl ?_
      refine S_callV_i (as := [qi a5]) (st := []) (fun _ => rfl) (TX10_isOpen a5 h2) yv_X10_isOpen tw_1493 qC_10 qk_212 (by decide) rfl rfl (Nat.le_of_ble_eq_true rfl) dX10_net_53 rfl (fun r4 h5 e6 => ?_)
      refine S_if_eq (tgt := 72) dX10_net_56 (by decide) rfl (fun _ => ?_) (fun _ => ?_)
      · refine S_iconst (a := (-1)) dX10_net_72 rfl (by decide) ?_
        exact TX10_net_b73 (DX10_net_l41 n) ih a1 a2 a3 a4 a5 (-1) h5
      · refine S_aload_n 0 dX10_net_59 rfl rfl rfl ?_
        refine S_iload 5 dX10_net_60 rfl rfl ?_
        refine S_iload_n 1 dX10_net_62 rfl rfl rfl ?_
        refine S_callV_i (as := [qi a5, qi a1]) (st := []) (fun _ => rfl) (TX10_catchOf a5 a1 h5) yv_X10_catchOf tw_1759 qC_10 qk_212 (by decide) rfl rfl (Nat.le_of_ble_eq_true rfl) dX10_net_63 rfl (fun r7 h8 e9 => ?_)
        refine S_callS_i (as := [qi r7]) (st := []) (fun _ => rfl) (TX10_bitsOf r7 h8) yv_X10_bitsOf tw_1771 (by decide) rfl rfl (Nat.le_of_ble_eq_true rfl) dX10_net_66 rfl (fun r10 h11 e12 => ?_)
        refine S_goto (pc' := 73) dX10_net_69 (by decide) ?_
        exact TX10_net_b73 (DX10_net_l41 n) ih a1 a2 a3 a4 a5 r10 h11
def DX10_net (a1 : Int) (a2 : Int) (h : qH) : Option (Int × qH) := (qlt (qu h 212 0 0) fun h13 => (qbd (DX10_within a2 0 1 h13) fun r14 h15 => (if ¬ r14 = 0 then (qbd (DX10_within a1 1 60 h15) fun r17 h18 => (if ¬ r17 = 0 then (DX10_net_l41 LF a1 a2 (-1) (-1) 0 h18) else some ((-3), h18))) else some ((-2), h15))))
set_option maxRecDepth 100000 in
theorem TX10_net {L : Nat} {xs : Nat → Int32} (a1 : Int) (a2 : Int) (h : qH) : qMet L xs yX10_net cX10_net 7 (some .int) 1 9 [qr 212, qi a1, qi a2] h (DX10_net a1 a2 h) := by
  refine qMet.of (by decide +kernel) (Or.inr (Or.inl ⟨rfl, rfl⟩)) (Nat.le_of_ble_eq_true rfl) ?_
  show qS L xs cX10_net "BottlePostModel" 7 9 1 0 [(0, qr 212), (1, qi a1), (2, qi a2)] [] h (DX10_net a1 a2 h)
  unfold DX10_net
  refine S_aload_n 0 dX10_net_0 rfl rfl rfl ?_
  refine S_iconst (a := 0) dX10_net_1 rfl (by decide) ?_
  refine S_puti 0 qC_10 (by decide) (by decide) rfl rfl qk_212 (by decide) tw_1226 dX10_net_2 rfl ?_
  refine S_lh (fun h13 => ?_)
  refine S_iload_n 2 dX10_net_5 rfl rfl rfl ?_
  refine S_i2l dX10_net_6 rfl ?_
  refine S_lconst (a := 0) dX10_net_7 rfl (by decide) (by decide) ?_
  refine S_lconst (a := 1) dX10_net_8 rfl (by decide) (by decide) ?_
  refine S_callS_i (as := [ql a2, ql 0, ql 1]) (st := []) (fun _ => rfl) (TX10_within a2 0 1 h13) yv_X10_within tw_1352 (by decide) rfl rfl (Nat.le_of_ble_eq_true rfl) dX10_net_9 rfl (fun r14 h15 e16 => ?_)
  refine S_if_ne (tgt := 18) dX10_net_12 (by decide) rfl (fun _ => ?_) (fun _ => ?_)
  · refine S_iload_n 1 dX10_net_18 rfl rfl rfl ?_
    refine S_i2l dX10_net_19 rfl ?_
    refine S_lconst (a := 1) dX10_net_20 rfl (by decide) (by decide) ?_
    refine S_ldc2 (a := 60) dX10_net_21 rfl (by rw [show Int64.ofInt 60 = (60 : Int64) from by decide]; exact tw_1758) (by decide) ?_
    refine S_callS_i (as := [ql a1, ql 1, ql 60]) (st := []) (fun _ => rfl) (TX10_within a1 1 60 h15) yv_X10_within tw_1352 (by decide) rfl rfl (Nat.le_of_ble_eq_true rfl) dX10_net_24 rfl (fun r17 h18 e19 => ?_)
    refine S_if_ne (tgt := 33) dX10_net_27 (by decide) rfl (fun _ => ?_) (fun _ => ?_)
    · refine S_iconst (a := (-1)) dX10_net_33 rfl (by decide) ?_
      refine S_istore_n (lv' := [(3, qi (-1)), (0, qr 212), (1, qi a1), (2, qi a2)]) dX10_net_34 rfl (by decide) rfl rfl ?_
      refine S_iconst (a := (-1)) dX10_net_35 rfl (by decide) ?_
      refine S_istore (lv' := [(4, qi (-1)), (3, qi (-1)), (0, qr 212), (1, qi a1), (2, qi a2)]) dX10_net_36 (by decide) rfl rfl ?_
      refine S_iconst (a := 0) dX10_net_38 rfl (by decide) ?_
      refine S_istore (lv' := [(5, qi 0), (4, qi (-1)), (3, qi (-1)), (0, qr 212), (1, qi a1), (2, qi a2)]) dX10_net_39 (by decide) rfl rfl ?_
      refine S_sub [3, 4, 5, 2, 1, 0] rfl ?_
      exact TX10_net_l41 LF a1 a2 (-1) (-1) 0 h18
    · refine S_bipush (a := (-3)) dX10_net_30 rfl (by decide) (by decide) ?_
      exact S_iret dX10_net_32
  · refine S_bipush (a := (-2)) dX10_net_15 rfl (by decide) (by decide) ?_
    exact S_iret dX10_net_17
def DX10_noSeen_l48 : Nat → Int → Int → qH → Option (Int × qH)
  | 0, _, _, _ => none
  | n + 1, a1, a3, h => (if 0 ≤ a1 ∧ a1 < 4 then (if h.1 223 a1.toNat ≤ a3 then some (0, h) else (if ¬ qrem a3 2 = 0 then (if 0 ≤ qw (qw (40 * a1) + a3) ∧ qw (qw (40 * a1) + a3) < 160 then (qbd (DX10_within (h.1 224 (qw (qw (40 * a1) + a3)).toNat) 0 30 h) fun r5 h6 => (if ¬ r5 = 0 then ((DX10_noSeen_l48 n) a1 (qw (a3 + 1)) h6) else some ((-3), h6))) else none) else (if 0 ≤ qw (qw (40 * a1) + a3) ∧ qw (qw (40 * a1) + a3) < 160 then (qbd (DX10_isCell (h.1 224 (qw (qw (40 * a1) + a3)).toNat) h) fun r10 h11 => (if ¬ r10 = 0 then ((DX10_noSeen_l48 n) a1 (qw (a3 + 1)) h11) else some ((-3), h11))) else none))) else none)
set_option maxRecDepth 100000 in
theorem TX10_noSeen_l48 {L : Nat} {xs : Nat → Int32} : ∀ (n : Nat) (a1 : Int) (a3 : Int) (h : qH), qS L xs cX10_noSeen "BottlePostModel" 4 3 1 48 [(0, qr 212), (1, qi a1), (3, qi a3)] [] h (DX10_noSeen_l48 n a1 a3 h) := by
  intro n
  induction n with
  | zero =>
    intro a1 a3 h
    exact S_none
  | succ n ih =>
    intro a1 a3 h
    rw [DX10_noSeen_l48.eq_2]
    refine S_iload_n 2 dX10_noSeen_48 rfl rfl rfl ?_
    refine S_aload_n 0 dX10_noSeen_49 rfl rfl rfl ?_
    refine S_getr (j := 223) (o := 11) 37 qC_10 (by decide) (by decide) qk_212 rfl rfl (by decide) tw_1263 dX10_noSeen_50 rfl ?_
    refine S_iload_n 1 dX10_noSeen_53 rfl rfl rfl ?_
    refine S_iald (N := 4) qk_223 rfl dX10_noSeen_54 rfl (fun g1 g2 => ?_)
    refine S_icmp_ge (tgt := 115) dX10_noSeen_55 (by decide) rfl (fun _ => ?_) (fun _ => ?_)
    · refine S_iconst (a := 0) dX10_noSeen_115 rfl (by decide) ?_
      exact S_iret dX10_noSeen_116
    · refine S_iload_n 2 dX10_noSeen_58 rfl rfl rfl ?_
      refine S_iconst (a := 2) dX10_noSeen_59 rfl (by decide) ?_
      refine S_irem dX10_noSeen_60 rfl (by decide) ?_
      refine S_if_ne (tgt := 85) dX10_noSeen_61 (by decide) rfl (fun _ => ?_) (fun _ => ?_)
      · refine S_aload_n 0 dX10_noSeen_85 rfl rfl rfl ?_
        refine S_getr (j := 224) (o := 12) 38 qC_10 (by decide) (by decide) qk_212 rfl rfl (by decide) tw_1264 dX10_noSeen_86 rfl ?_
        refine S_bipush (a := 40) dX10_noSeen_89 rfl (by decide) (by decide) ?_
        refine S_iload_n 1 dX10_noSeen_91 rfl rfl rfl ?_
        refine S_imul dX10_noSeen_92 rfl ?_
        refine S_iload_n 2 dX10_noSeen_93 rfl rfl rfl ?_
        refine S_iadd dX10_noSeen_94 rfl ?_
        refine S_lald (N := 160) qk_224 rfl dX10_noSeen_95 rfl (fun g3 g4 => ?_)
        refine S_lconst (a := 0) dX10_noSeen_96 rfl (by decide) (by decide) ?_
        refine S_ldc2 (a := 30) dX10_noSeen_97 rfl (by rw [show Int64.ofInt 30 = (30 : Int64) from by decide]; exact tw_1717) (by decide) ?_
        refine S_callS_i (as := [ql (h.1 224 (qw (qw (40 * a1) + a3)).toNat), ql 0, ql 30]) (st := []) (fun _ => rfl) (TX10_within (h.1 224 (qw (qw (40 * a1) + a3)).toNat) 0 30 h) yv_X10_within tw_1352 (by decide) rfl rfl (Nat.le_of_ble_eq_true rfl) dX10_noSeen_100 rfl (fun r5 h6 e7 => ?_)
        refine S_if_ne (tgt := 109) dX10_noSeen_103 (by decide) rfl (fun _ => ?_) (fun _ => ?_)
        · refine S_iinc (lv' := [(3, qi (qw (a3 + 1))), (0, qr 212), (1, qi a1)]) 2 dX10_noSeen_109 rfl (by decide) rfl rfl ?_
          refine S_goto (pc' := 48) dX10_noSeen_112 (by decide) ?_
          refine S_sub [1, 2, 0] rfl ?_
          exact ih a1 (qw (a3 + 1)) h6
        · refine S_bipush (a := (-3)) dX10_noSeen_106 rfl (by decide) (by decide) ?_
          exact S_iret dX10_noSeen_108
      · refine S_aload_n 0 dX10_noSeen_64 rfl rfl rfl ?_
        refine S_aload_n 0 dX10_noSeen_65 rfl rfl rfl ?_
        refine S_getr (j := 224) (o := 12) 38 qC_10 (by decide) (by decide) qk_212 rfl rfl (by decide) tw_1264 dX10_noSeen_66 rfl ?_
        refine S_bipush (a := 40) dX10_noSeen_69 rfl (by decide) (by decide) ?_
        refine S_iload_n 1 dX10_noSeen_71 rfl rfl rfl ?_
        refine S_imul dX10_noSeen_72 rfl ?_
        refine S_iload_n 2 dX10_noSeen_73 rfl rfl rfl ?_
        refine S_iadd dX10_noSeen_74 rfl ?_
        refine S_lald (N := 160) qk_224 rfl dX10_noSeen_75 rfl (fun g8 g9 => ?_)
        refine S_callV_i (as := [ql (h.1 224 (qw (qw (40 * a1) + a3)).toNat)]) (st := []) (fun _ => rfl) (TX10_isCell (h.1 224 (qw (qw (40 * a1) + a3)).toNat) h) yv_X10_isCell tw_1469 qC_10 qk_212 (by decide) rfl rfl (Nat.le_of_ble_eq_true rfl) dX10_noSeen_76 rfl (fun r10 h11 e12 => ?_)
        refine S_if_ne (tgt := 109) dX10_noSeen_79 (by decide) rfl (fun _ => ?_) (fun _ => ?_)
        · refine S_iinc (lv' := [(3, qi (qw (a3 + 1))), (0, qr 212), (1, qi a1)]) 2 dX10_noSeen_109 rfl (by decide) rfl rfl ?_
          refine S_goto (pc' := 48) dX10_noSeen_112 (by decide) ?_
          refine S_sub [1, 2, 0] rfl ?_
          exact ih a1 (qw (a3 + 1)) h11
        · refine S_goto (pc' := 106) dX10_noSeen_82 (by decide) ?_
          refine S_bipush (a := (-3)) dX10_noSeen_106 rfl (by decide) (by decide) ?_
          exact S_iret dX10_noSeen_108
def DX10_noSeen (a1 : Int) (h : qH) : Option (Int × qH) := (qbd (DX10_noTray a1 h) fun r13 h14 => (if r13 = 0 then (if 0 ≤ a1 ∧ a1 < 4 then (if qrem (h14.1 223 a1.toNat) 2 = 1 then some ((-4), h14) else (if 0 ≤ a1 ∧ a1 < 4 then (qbd (DX10_within (h14.1 223 a1.toNat) 2 8 h14) fun r20 h21 => (if ¬ r20 = 0 then (DX10_noSeen_l48 LF a1 0 h21) else some ((-4), h21))) else none)) else none) else some (r13, h14)))
set_option maxRecDepth 100000 in
theorem TX10_noSeen {L : Nat} {xs : Nat → Int32} (a1 : Int) (h : qH) : qMet L xs yX10_noSeen cX10_noSeen 4 (some .int) 1 3 [qr 212, qi a1] h (DX10_noSeen a1 h) := by
  refine qMet.of (by decide +kernel) (Or.inr (Or.inl ⟨rfl, rfl⟩)) (Nat.le_of_ble_eq_true rfl) ?_
  show qS L xs cX10_noSeen "BottlePostModel" 4 3 1 0 [(0, qr 212), (1, qi a1)] [] h (DX10_noSeen a1 h)
  unfold DX10_noSeen
  refine S_aload_n 0 dX10_noSeen_0 rfl rfl rfl ?_
  refine S_iload_n 1 dX10_noSeen_1 rfl rfl rfl ?_
  refine S_callV_i (as := [qi a1]) (st := []) (fun _ => rfl) (TX10_noTray a1 h) yv_X10_noTray tw_1639 qC_10 qk_212 (by decide) rfl rfl (Nat.le_of_ble_eq_true rfl) dX10_noSeen_2 rfl (fun r13 h14 e15 => ?_)
  refine S_istore_n (lv' := [(2, qi r13), (0, qr 212), (1, qi a1)]) dX10_noSeen_5 rfl (by decide) rfl rfl ?_
  refine S_iload_n 0 dX10_noSeen_6 rfl rfl rfl ?_
  refine S_if_eq (tgt := 12) dX10_noSeen_7 (by decide) rfl (fun _ => ?_) (fun _ => ?_)
  · refine S_aload_n 1 dX10_noSeen_12 rfl rfl rfl ?_
    refine S_getr (j := 223) (o := 11) 37 qC_10 (by decide) (by decide) qk_212 rfl rfl (by decide) tw_1263 dX10_noSeen_13 rfl ?_
    refine S_iload_n 2 dX10_noSeen_16 rfl rfl rfl ?_
    refine S_iald (N := 4) qk_223 rfl dX10_noSeen_17 rfl (fun g16 g17 => ?_)
    refine S_iconst (a := 2) dX10_noSeen_18 rfl (by decide) ?_
    refine S_irem dX10_noSeen_19 rfl (by decide) ?_
    refine S_iconst (a := 1) dX10_noSeen_20 rfl (by decide) ?_
    refine S_icmp_eq (tgt := 43) dX10_noSeen_21 (by decide) rfl (fun _ => ?_) (fun _ => ?_)
    · refine S_bipush (a := (-4)) dX10_noSeen_43 rfl (by decide) (by decide) ?_
      exact S_iret dX10_noSeen_45
    · refine S_aload_n 1 dX10_noSeen_24 rfl rfl rfl ?_
      refine S_getr (j := 223) (o := 11) 37 qC_10 (by decide) (by decide) qk_212 rfl rfl (by decide) tw_1263 dX10_noSeen_25 rfl ?_
      refine S_iload_n 2 dX10_noSeen_28 rfl rfl rfl ?_
      refine S_iald (N := 4) qk_223 rfl dX10_noSeen_29 rfl (fun g18 g19 => ?_)
      refine S_i2l dX10_noSeen_30 rfl ?_
      refine S_ldc2 (a := 2) dX10_noSeen_31 rfl (by rw [show Int64.ofInt 2 = (2 : Int64) from by decide]; exact tw_1690) (by decide) ?_
      refine S_ldc2 (a := 8) dX10_noSeen_34 rfl (by rw [show Int64.ofInt 8 = (8 : Int64) from by decide]; exact tw_1799) (by decide) ?_
      refine S_callS_i (as := [ql (h14.1 223 a1.toNat), ql 2, ql 8]) (st := []) (fun _ => rfl) (TX10_within (h14.1 223 a1.toNat) 2 8 h14) yv_X10_within tw_1352 (by decide) rfl rfl (Nat.le_of_ble_eq_true rfl) dX10_noSeen_37 rfl (fun r20 h21 e22 => ?_)
      refine S_if_ne (tgt := 46) dX10_noSeen_40 (by decide) rfl (fun _ => ?_) (fun _ => ?_)
      · refine S_iconst (a := 0) dX10_noSeen_46 rfl (by decide) ?_
        refine S_istore_n (lv' := [(3, qi 0), (2, qi r13), (0, qr 212), (1, qi a1)]) dX10_noSeen_47 rfl (by decide) rfl rfl ?_
        refine S_sub [2, 3, 0] rfl ?_
        exact TX10_noSeen_l48 LF a1 0 h21
      · refine S_bipush (a := (-4)) dX10_noSeen_43 rfl (by decide) (by decide) ?_
        exact S_iret dX10_noSeen_45
  · refine S_iload_n 0 dX10_noSeen_10 rfl rfl rfl ?_
    exact S_iret dX10_noSeen_11
def DX10_numbers_l64 : Nat → Int → Int → Int → qH → Option (Int × qH)
  | 0, _, _, _, _ => none
  | n + 1, a1, a3, a4, h => (if a3 ≤ a4 then some (0, h) else (if 0 ≤ qw (qw (40 * a1) + a4) ∧ qw (qw (40 * a1) + a4) < 160 then qlt (qu h 224 (qw (qw (40 * a1) + a4)).toNat 0) fun h1 => ((DX10_numbers_l64 n) a1 a3 (qw (a4 + 1)) h1) else none))
set_option maxRecDepth 100000 in
theorem TX10_numbers_l64 {L : Nat} {xs : Nat → Int32} : ∀ (n : Nat) (a1 : Int) (a3 : Int) (a4 : Int) (h : qH), qS L xs cX10_numbers "BottlePostModel" 5 2 1 64 [(0, qr 212), (1, qi a1), (3, qi a3), (4, qi a4)] [] h (DX10_numbers_l64 n a1 a3 a4 h) := by
  intro n
  induction n with
  | zero =>
    intro a1 a3 a4 h
    exact S_none
  | succ n ih =>
    intro a1 a3 a4 h
    rw [DX10_numbers_l64.eq_2]
    refine S_iload 3 dX10_numbers_64 rfl rfl ?_
    refine S_iload_n 2 dX10_numbers_66 rfl rfl rfl ?_
    refine S_icmp_ge (tgt := 89) dX10_numbers_67 (by decide) rfl (fun _ => ?_) (fun _ => ?_)
    · refine S_iconst (a := 0) dX10_numbers_89 rfl (by decide) ?_
      exact S_iret dX10_numbers_90
    · refine S_aload_n 0 dX10_numbers_70 rfl rfl rfl ?_
      refine S_getr (j := 224) (o := 12) 38 qC_10 (by decide) (by decide) qk_212 rfl rfl (by decide) tw_1264 dX10_numbers_71 rfl ?_
      refine S_bipush (a := 40) dX10_numbers_74 rfl (by decide) (by decide) ?_
      refine S_iload_n 1 dX10_numbers_76 rfl rfl rfl ?_
      refine S_imul dX10_numbers_77 rfl ?_
      refine S_iload 3 dX10_numbers_78 rfl rfl ?_
      refine S_iadd dX10_numbers_80 rfl ?_
      refine S_lconst (a := 0) dX10_numbers_81 rfl (by decide) (by decide) ?_
      refine S_last (N := 160) qk_224 rfl dX10_numbers_82 rfl (fun _ _ => ?_)
      refine S_lh (fun h1 => ?_)
      refine S_iinc (lv' := [(4, qi (qw (a4 + 1))), (0, qr 212), (1, qi a1), (3, qi a3)]) 3 dX10_numbers_83 rfl (by decide) rfl rfl ?_
      refine S_goto (pc' := 64) dX10_numbers_86 (by decide) ?_
      refine S_sub [1, 2, 3, 0] rfl ?_
      exact ih a1 a3 (qw (a4 + 1)) h1
def DX10_numbers (a1 : Int) (a2 : Int) (a3 : Int) (h : qH) : Option (Int × qH) := (qlt (qu h 212 0 0) fun h2 => (qbd (DX10_within a1 0 3 h2) fun r3 h4 => (if r3 = 0 then some ((-2), h4) else (qbd (DX10_within a2 0 3 h4) fun r6 h7 => (if ¬ r6 = 0 then (qbd (DX10_within a3 0 40 h7) fun r9 h10 => (if ¬ r9 = 0 then (if 0 ≤ a1 ∧ a1 < 4 then qlt (qu h10 222 a1.toNat a2) fun h12 => (if 0 ≤ a1 ∧ a1 < 4 then qlt (qu h12 223 a1.toNat a3) fun h13 => (DX10_numbers_l64 LF a1 a3 0 h13) else none) else none) else some ((-3), h10))) else some ((-2), h7))))))
set_option maxRecDepth 100000 in
theorem TX10_numbers {L : Nat} {xs : Nat → Int32} (a1 : Int) (a2 : Int) (a3 : Int) (h : qH) : qMet L xs yX10_numbers cX10_numbers 5 (some .int) 1 2 [qr 212, qi a1, qi a2, qi a3] h (DX10_numbers a1 a2 a3 h) := by
  refine qMet.of (by decide +kernel) (Or.inr (Or.inl ⟨rfl, rfl⟩)) (Nat.le_of_ble_eq_true rfl) ?_
  show qS L xs cX10_numbers "BottlePostModel" 5 2 1 0 [(0, qr 212), (1, qi a1), (2, qi a2), (3, qi a3)] [] h (DX10_numbers a1 a2 a3 h)
  unfold DX10_numbers
  refine S_aload_n 0 dX10_numbers_0 rfl rfl rfl ?_
  refine S_iconst (a := 0) dX10_numbers_1 rfl (by decide) ?_
  refine S_puti 0 qC_10 (by decide) (by decide) rfl rfl qk_212 (by decide) tw_1226 dX10_numbers_2 rfl ?_
  refine S_lh (fun h2 => ?_)
  refine S_iload_n 1 dX10_numbers_5 rfl rfl rfl ?_
  refine S_i2l dX10_numbers_6 rfl ?_
  refine S_lconst (a := 0) dX10_numbers_7 rfl (by decide) (by decide) ?_
  refine S_ldc2 (a := 3) dX10_numbers_8 rfl (by rw [show Int64.ofInt 3 = (3 : Int64) from by decide]; exact tw_1638) (by decide) ?_
  refine S_callS_i (as := [ql a1, ql 0, ql 3]) (st := []) (fun _ => rfl) (TX10_within a1 0 3 h2) yv_X10_within tw_1352 (by decide) rfl rfl (Nat.le_of_ble_eq_true rfl) dX10_numbers_11 rfl (fun r3 h4 e5 => ?_)
  refine S_if_eq (tgt := 29) dX10_numbers_14 (by decide) rfl (fun _ => ?_) (fun _ => ?_)
  · refine S_bipush (a := (-2)) dX10_numbers_29 rfl (by decide) (by decide) ?_
    exact S_iret dX10_numbers_31
  · refine S_iload_n 2 dX10_numbers_17 rfl rfl rfl ?_
    refine S_i2l dX10_numbers_18 rfl ?_
    refine S_lconst (a := 0) dX10_numbers_19 rfl (by decide) (by decide) ?_
    refine S_ldc2 (a := 3) dX10_numbers_20 rfl (by rw [show Int64.ofInt 3 = (3 : Int64) from by decide]; exact tw_1638) (by decide) ?_
    refine S_callS_i (as := [ql a2, ql 0, ql 3]) (st := []) (fun _ => rfl) (TX10_within a2 0 3 h4) yv_X10_within tw_1352 (by decide) rfl rfl (Nat.le_of_ble_eq_true rfl) dX10_numbers_23 rfl (fun r6 h7 e8 => ?_)
    refine S_if_ne (tgt := 32) dX10_numbers_26 (by decide) rfl (fun _ => ?_) (fun _ => ?_)
    · refine S_iload_n 3 dX10_numbers_32 rfl rfl rfl ?_
      refine S_i2l dX10_numbers_33 rfl ?_
      refine S_lconst (a := 0) dX10_numbers_34 rfl (by decide) (by decide) ?_
      refine S_ldc2 (a := 40) dX10_numbers_35 rfl (by rw [show Int64.ofInt 40 = (40 : Int64) from by decide]; exact tw_1676) (by decide) ?_
      refine S_callS_i (as := [ql a3, ql 0, ql 40]) (st := []) (fun _ => rfl) (TX10_within a3 0 40 h7) yv_X10_within tw_1352 (by decide) rfl rfl (Nat.le_of_ble_eq_true rfl) dX10_numbers_38 rfl (fun r9 h10 e11 => ?_)
      refine S_if_ne (tgt := 47) dX10_numbers_41 (by decide) rfl (fun _ => ?_) (fun _ => ?_)
      · refine S_aload_n 0 dX10_numbers_47 rfl rfl rfl ?_
        refine S_getr (j := 222) (o := 10) 36 qC_10 (by decide) (by decide) qk_212 rfl rfl (by decide) tw_1262 dX10_numbers_48 rfl ?_
        refine S_iload_n 1 dX10_numbers_51 rfl rfl rfl ?_
        refine S_iload_n 2 dX10_numbers_52 rfl rfl rfl ?_
        refine S_iast (N := 4) qk_222 rfl dX10_numbers_53 rfl (fun _ _ => ?_)
        refine S_lh (fun h12 => ?_)
        refine S_aload_n 0 dX10_numbers_54 rfl rfl rfl ?_
        refine S_getr (j := 223) (o := 11) 37 qC_10 (by decide) (by decide) qk_212 rfl rfl (by decide) tw_1263 dX10_numbers_55 rfl ?_
        refine S_iload_n 1 dX10_numbers_58 rfl rfl rfl ?_
        refine S_iload_n 3 dX10_numbers_59 rfl rfl rfl ?_
        refine S_iast (N := 4) qk_223 rfl dX10_numbers_60 rfl (fun _ _ => ?_)
        refine S_lh (fun h13 => ?_)
        refine S_iconst (a := 0) dX10_numbers_61 rfl (by decide) ?_
        refine S_istore (lv' := [(4, qi 0), (0, qr 212), (1, qi a1), (2, qi a2), (3, qi a3)]) dX10_numbers_62 (by decide) rfl rfl ?_
        refine S_sub [1, 2, 4, 0] rfl ?_
        exact TX10_numbers_l64 LF a1 a3 0 h13
      · refine S_bipush (a := (-3)) dX10_numbers_44 rfl (by decide) (by decide) ?_
        exact S_iret dX10_numbers_46
    · refine S_bipush (a := (-2)) dX10_numbers_29 rfl (by decide) (by decide) ?_
      exact S_iret dX10_numbers_31
def DX10_perform (a1 : Int) (h : qH) : Option (Int × qH) := (qlt (qu h 212 0 0) fun h1 => (qbd (DX10_noTray a1 h1) fun r2 h3 => (if r2 = 0 then (qbd (DX10_keepsAll h3) fun r5 h6 => (qbd (DX10_tells a1 h6) fun r8 h9 => (if r8 ≤ 0 then some (r8, h9) else (qbd (DX10_notes h9) fun r11 h12 => some (r8, h12))))) else some (r2, h3))))
set_option maxRecDepth 100000 in
theorem TX10_perform {L : Nat} {xs : Nat → Int32} (a1 : Int) (h : qH) : qMet L xs yX10_perform cX10_perform 4 (some .int) 1 10 [qr 212, qi a1] h (DX10_perform a1 h) := by
  refine qMet.of (by decide +kernel) (Or.inr (Or.inl ⟨rfl, rfl⟩)) (Nat.le_of_ble_eq_true rfl) ?_
  show qS L xs cX10_perform "BottlePostModel" 4 10 1 0 [(0, qr 212), (1, qi a1)] [] h (DX10_perform a1 h)
  unfold DX10_perform
  refine S_aload_n 0 dX10_perform_0 rfl rfl rfl ?_
  refine S_iconst (a := 0) dX10_perform_1 rfl (by decide) ?_
  refine S_puti 0 qC_10 (by decide) (by decide) rfl rfl qk_212 (by decide) tw_1226 dX10_perform_2 rfl ?_
  refine S_lh (fun h1 => ?_)
  refine S_aload_n 0 dX10_perform_5 rfl rfl rfl ?_
  refine S_iload_n 1 dX10_perform_6 rfl rfl rfl ?_
  refine S_callV_i (as := [qi a1]) (st := []) (fun _ => rfl) (TX10_noTray a1 h1) yv_X10_noTray tw_1639 qC_10 qk_212 (by decide) rfl rfl (Nat.le_of_ble_eq_true rfl) dX10_perform_7 rfl (fun r2 h3 e4 => ?_)
  refine S_istore_n (lv' := [(2, qi r2), (0, qr 212), (1, qi a1)]) dX10_perform_10 rfl (by decide) rfl rfl ?_
  refine S_iload_n 0 dX10_perform_11 rfl rfl rfl ?_
  refine S_if_eq (tgt := 17) dX10_perform_12 (by decide) rfl (fun _ => ?_) (fun _ => ?_)
  · refine S_aload_n 1 dX10_perform_17 rfl rfl rfl ?_
    refine S_callV_0 (as := []) (st := []) (fun _ => rfl) (TX10_keepsAll h3) yv_X10_keepsAll tw_1557 qC_10 qk_212 (by decide) rfl rfl (Nat.le_of_ble_eq_true rfl) dX10_perform_18 rfl (fun r5 h6 e7 => ?_)
    refine S_aload_n 1 dX10_perform_21 rfl rfl rfl ?_
    refine S_iload_n 2 dX10_perform_22 rfl rfl rfl ?_
    refine S_callV_i (as := [qi a1]) (st := []) (fun _ => rfl) (TX10_tells a1 h6) yv_X10_tells tw_1643 qC_10 qk_212 (by decide) rfl rfl (Nat.le_of_ble_eq_true rfl) dX10_perform_23 rfl (fun r8 h9 e10 => ?_)
    refine S_istore_n (lv' := [(3, qi r8), (2, qi r2), (0, qr 212), (1, qi a1)]) dX10_perform_26 rfl (by decide) rfl rfl ?_
    refine S_iload_n 0 dX10_perform_27 rfl rfl rfl ?_
    refine S_if_le (tgt := 35) dX10_perform_28 (by decide) rfl (fun _ => ?_) (fun _ => ?_)
    · refine S_iload_n 0 dX10_perform_35 rfl rfl rfl ?_
      exact S_iret dX10_perform_36
    · refine S_aload_n 2 dX10_perform_31 rfl rfl rfl ?_
      refine S_callV_0 (as := []) (st := []) (fun _ => rfl) (TX10_notes h9) yv_X10_notes tw_1573 qC_10 qk_212 (by decide) rfl rfl (Nat.le_of_ble_eq_true rfl) dX10_perform_32 rfl (fun r11 h12 e13 => ?_)
      refine S_iload_n 0 dX10_perform_35 rfl rfl rfl ?_
      exact S_iret dX10_perform_36
  · refine S_iload_n 0 dX10_perform_15 rfl rfl rfl ?_
    exact S_iret dX10_perform_16
def DX10_plain_l2 : Nat → Nat → Nat → Int → qH → Option (Int × qH)
  | 0, _, _, _, _ => none
  | n + 1, i0, n0, a1, h => (if 1912 ≤ a1 then (if (0 : Int) ≤ 3 ∧ (3 : Int) < (n0 : Int) then qlt (qu h i0 3 1) fun h1 => some (0, h1) else none) else (if 0 ≤ a1 ∧ a1 < (n0 : Int) then qlt (qu h i0 a1.toNat 0) fun h2 => ((DX10_plain_l2 n) i0 n0 (qw (a1 + 1)) h2) else none))
set_option maxRecDepth 100000 in
theorem TX10_plain_l2 {L : Nat} {xs : Nat → Int32} : ∀ (n : Nat) (i0 n0 : Nat) (a1 : Int) (t0 : qK i0 = (20, n0)) (ut0 : q32 (n0 : Int)) (h : qH), qS L xs cX10_plain "BottlePostModel" 2 1 0 2 [(0, qr i0), (1, qi a1)] [] h (DX10_plain_l2 n i0 n0 a1 h) := by
  intro n
  induction n with
  | zero =>
    intro i0 n0 a1 t0 ut0 h
    exact S_none
  | succ n ih =>
    intro i0 n0 a1 t0 ut0 h
    rw [DX10_plain_l2.eq_2]
    refine S_iload_n 1 dX10_plain_2 rfl rfl rfl ?_
    refine S_sipush (a := 1912) dX10_plain_3 rfl (by decide) (by decide) ?_
    refine S_icmp_ge (tgt := 19) dX10_plain_6 (by decide) rfl (fun _ => ?_) (fun _ => ?_)
    · refine S_aload_n 0 dX10_plain_19 rfl rfl rfl ?_
      refine S_iconst (a := 3) dX10_plain_20 rfl (by decide) ?_
      refine S_iconst (a := 1) dX10_plain_21 rfl (by decide) ?_
      refine S_iast (N := (n0 : Int)) t0 rfl dX10_plain_22 rfl (fun _ _ => ?_)
      refine S_lh (fun h1 => ?_)
      exact S_vret dX10_plain_23
    · refine S_aload_n 0 dX10_plain_9 rfl rfl rfl ?_
      refine S_iload_n 1 dX10_plain_10 rfl rfl rfl ?_
      refine S_iconst (a := 0) dX10_plain_11 rfl (by decide) ?_
      refine S_iast (N := (n0 : Int)) t0 rfl dX10_plain_12 rfl (fun _ _ => ?_)
      refine S_lh (fun h2 => ?_)
      refine S_iinc (lv' := [(1, qi (qw (a1 + 1))), (0, qr i0)]) 1 dX10_plain_13 rfl (by decide) rfl rfl ?_
      refine S_goto (pc' := 2) dX10_plain_16 (by decide) ?_
      refine S_sub [1, 0] rfl ?_
      exact ih i0 n0 (qw (a1 + 1)) t0 ut0 h2
def DX10_plain (i0 n0 : Nat) (h : qH) : Option (Int × qH) := (DX10_plain_l2 LF i0 n0 0 h)
set_option maxRecDepth 100000 in
theorem TX10_plain {L : Nat} {xs : Nat → Int32} (i0 n0 : Nat) (t0 : qK i0 = (20, n0)) (ut0 : q32 (n0 : Int)) (h : qH) : qMet L xs yX10_plain cX10_plain 2 (none) 0 1 [qr i0] h (DX10_plain i0 n0 h) := by
  refine qMet.of (by decide +kernel) (Or.inl ⟨rfl, rfl⟩) (Nat.le_of_ble_eq_true rfl) ?_
  show qS L xs cX10_plain "BottlePostModel" 2 1 0 0 [(0, qr i0)] [] h (DX10_plain i0 n0 h)
  unfold DX10_plain
  refine S_iconst (a := 0) dX10_plain_0 rfl (by decide) ?_
  refine S_istore_n (lv' := [(1, qi 0), (0, qr i0)]) dX10_plain_1 rfl (by decide) rfl rfl ?_
  refine S_sub [1, 0] rfl ?_
  exact TX10_plain_l2 LF i0 n0 0 t0 ut0 h
def DX10_reachers_l21 : Nat → Int → Int → Int → qH → Option (Int × qH)
  | 0, _, _, _, _ => none
  | n + 1, a1, a2, a3, h => (if h.1 213 4 ≤ a3 then some (a2, h) else (if a3 = a1 then ((DX10_reachers_l21 n) a1 a2 (qw (a3 + 1)) h) else (qbd (DX10_bestFrom a3 a1 (h.1 213 349) h) fun r5 h6 => (if r5 = 1000000 then ((DX10_reachers_l21 n) a1 a2 (qw (a3 + 1)) h6) else (qlt (qor a2 (qshl 1 a3)) fun v8 => ((DX10_reachers_l21 n) a1 v8 (qw (a3 + 1)) h6))))))
set_option maxRecDepth 100000 in
theorem TX10_reachers_l21 {L : Nat} {xs : Nat → Int32} : ∀ (n : Nat) (a1 : Int) (a2 : Int) (a3 : Int) (h : qH), qS L xs cX10_reachers "BottlePostModel" 4 10 1 21 [(0, qr 212), (1, qi a1), (2, qi a2), (3, qi a3)] [] h (DX10_reachers_l21 n a1 a2 a3 h) := by
  intro n
  induction n with
  | zero =>
    intro a1 a2 a3 h
    exact S_none
  | succ n ih =>
    intro a1 a2 a3 h
    rw [DX10_reachers_l21.eq_2]
    refine S_iload_n 3 dX10_reachers_21 rfl rfl rfl ?_
    refine S_aload_n 0 dX10_reachers_22 rfl rfl rfl ?_
    refine S_getr (j := 213) (o := 1) 1 qC_10 (by decide) (by decide) qk_212 rfl rfl (by decide) tw_1227 dX10_reachers_23 rfl ?_
    refine S_iconst (a := 4) dX10_reachers_26 rfl (by decide) ?_
    refine S_pick_t ((0 : Int) ≤ 4 ∧ (4 : Int) < 5736) (by decide) ?_
    refine S_iald (N := 5736) qk_213 rfl dX10_reachers_27 rfl (fun g1 g2 => ?_)
    refine S_icmp_ge (tgt := 68) dX10_reachers_28 (by decide) rfl (fun _ => ?_) (fun _ => ?_)
    · refine S_iload_n 2 dX10_reachers_68 rfl rfl rfl ?_
      exact S_iret dX10_reachers_69
    · refine S_iload_n 3 dX10_reachers_31 rfl rfl rfl ?_
      refine S_iload_n 1 dX10_reachers_32 rfl rfl rfl ?_
      refine S_icmp_eq (tgt := 62) dX10_reachers_33 (by decide) rfl (fun _ => ?_) (fun _ => ?_)
      · refine S_iinc (lv' := [(3, qi (qw (a3 + 1))), (0, qr 212), (1, qi a1), (2, qi a2)]) 3 dX10_reachers_62 rfl (by decide) rfl rfl ?_
        refine S_goto (pc' := 21) dX10_reachers_65 (by decide) ?_
        refine S_sub [1, 2, 3, 0] rfl ?_
        exact ih a1 a2 (qw (a3 + 1)) h
      · refine S_aload_n 0 dX10_reachers_36 rfl rfl rfl ?_
        refine S_iload_n 3 dX10_reachers_37 rfl rfl rfl ?_
        refine S_iload_n 1 dX10_reachers_38 rfl rfl rfl ?_
        refine S_aload_n 0 dX10_reachers_39 rfl rfl rfl ?_
        refine S_getr (j := 213) (o := 1) 1 qC_10 (by decide) (by decide) qk_212 rfl rfl (by decide) tw_1227 dX10_reachers_40 rfl ?_
        refine S_sipush (a := 349) dX10_reachers_43 rfl (by decide) (by decide) ?_
        refine S_pick_t ((0 : Int) ≤ 349 ∧ (349 : Int) < 5736) (by decide) ?_
        refine S_iald (N := 5736) qk_213 rfl dX10_reachers_46 rfl (fun g3 g4 => ?_)
        refine S_callV_i (as := [qi a3, qi a1, qi (h.1 213 349)]) (st := []) (fun _ => rfl) (TX10_bestFrom a3 a1 (h.1 213 349) h) yv_X10_bestFrom tw_1730 qC_10 qk_212 (by decide) rfl rfl (Nat.le_of_ble_eq_true rfl) dX10_reachers_47 rfl (fun r5 h6 e7 => ?_)
        refine S_ldcw (a := 1000000) dX10_reachers_50 rfl (by rw [show Int32.ofInt 1000000 = (1000000 : Int32) from by decide]; exact tw_1695) (by decide) ?_
        refine S_icmp_eq (tgt := 62) dX10_reachers_53 (by decide) rfl (fun _ => ?_) (fun _ => ?_)
        · refine S_iinc (lv' := [(3, qi (qw (a3 + 1))), (0, qr 212), (1, qi a1), (2, qi a2)]) 3 dX10_reachers_62 rfl (by decide) rfl rfl ?_
          refine S_goto (pc' := 21) dX10_reachers_65 (by decide) ?_
          refine S_sub [1, 2, 3, 0] rfl ?_
          exact ih a1 a2 (qw (a3 + 1)) h6
        · refine S_iload_n 2 dX10_reachers_56 rfl rfl rfl ?_
          refine S_iconst (a := 1) dX10_reachers_57 rfl (by decide) ?_
          refine S_iload_n 3 dX10_reachers_58 rfl rfl rfl ?_
          refine S_ishl dX10_reachers_59 rfl ?_
          refine S_ior dX10_reachers_60 rfl ?_
          refine S_istore_n (lv' := [(2, qi (qor a2 (qshl 1 a3))), (0, qr 212), (1, qi a1), (3, qi a3)]) dX10_reachers_61 rfl (by decide) rfl rfl ?_
          refine S_li (fun v8 => ?_)
          refine S_iinc (lv' := [(3, qi (qw (a3 + 1))), (2, qi v8), (0, qr 212), (1, qi a1)]) 3 dX10_reachers_62 rfl (by decide) rfl rfl ?_
          refine S_goto (pc' := 21) dX10_reachers_65 (by decide) ?_
          refine S_sub [2, 3, 1, 0] rfl ?_
          exact ih a1 v8 (qw (a3 + 1)) h6
def DX10_reachers (a1 : Int) (h : qH) : Option (Int × qH) := (qlt (qu h 212 0 0) fun h9 => (qbd (DX10_isShore a1 h9) fun r10 h11 => (if ¬ r10 = 0 then (DX10_reachers_l21 LF a1 0 0 h11) else some ((-2), h11))))
set_option maxRecDepth 100000 in
theorem TX10_reachers {L : Nat} {xs : Nat → Int32} (a1 : Int) (h : qH) : qMet L xs yX10_reachers cX10_reachers 4 (some .int) 1 10 [qr 212, qi a1] h (DX10_reachers a1 h) := by
  refine qMet.of (by decide +kernel) (Or.inr (Or.inl ⟨rfl, rfl⟩)) (Nat.le_of_ble_eq_true rfl) ?_
  show qS L xs cX10_reachers "BottlePostModel" 4 10 1 0 [(0, qr 212), (1, qi a1)] [] h (DX10_reachers a1 h)
  unfold DX10_reachers
  refine S_aload_n 0 dX10_reachers_0 rfl rfl rfl ?_
  refine S_iconst (a := 0) dX10_reachers_1 rfl (by decide) ?_
  refine S_puti 0 qC_10 (by decide) (by decide) rfl rfl qk_212 (by decide) tw_1226 dX10_reachers_2 rfl ?_
  refine S_lh (fun h9 => ?_)
  refine S_aload_n 0 dX10_reachers_5 rfl rfl rfl ?_
  refine S_iload_n 1 dX10_reachers_6 rfl rfl rfl ?_
  refine S_i2l dX10_reachers_7 rfl ?_
  refine S_callV_i (as := [ql a1]) (st := []) (fun _ => rfl) (TX10_isShore a1 h9) yv_X10_isShore tw_1481 qC_10 qk_212 (by decide) rfl rfl (Nat.le_of_ble_eq_true rfl) dX10_reachers_8 rfl (fun r10 h11 e12 => ?_)
  refine S_if_ne (tgt := 17) dX10_reachers_11 (by decide) rfl (fun _ => ?_) (fun _ => ?_)
  · refine S_iconst (a := 0) dX10_reachers_17 rfl (by decide) ?_
    refine S_istore_n (lv' := [(2, qi 0), (0, qr 212), (1, qi a1)]) dX10_reachers_18 rfl (by decide) rfl rfl ?_
    refine S_iconst (a := 0) dX10_reachers_19 rfl (by decide) ?_
    refine S_istore_n (lv' := [(3, qi 0), (2, qi 0), (0, qr 212), (1, qi a1)]) dX10_reachers_20 rfl (by decide) rfl rfl ?_
    refine S_sub [2, 3, 1, 0] rfl ?_
    exact TX10_reachers_l21 LF a1 0 0 h11
  · refine S_bipush (a := (-2)) dX10_reachers_14 rfl (by decide) (by decide) ?_
    exact S_iret dX10_reachers_16
def DX10_reaches (a1 : Int) (a2 : Int) (a3 : Int) (a4 : Int) (h : qH) : Option (Int × qH) := (qlt (qu h 212 0 0) fun h1 => (qbd (DX10_noThrow a1 a2 h1) fun r2 h3 => (if ¬ r2 = 0 then some ((-2), h3) else (if ¬ a2 = (-1) then (qbd (DX10_within a4 0 30 h3) fun r5 h6 => (if ¬ r5 = 0 then (qbd (DX10_throwsTo a1 h6) fun r8 h9 => (if ¬ r8 = (-1) then (qbd (DX10_keptBy a1 a2 a3 (qw (h9.1 213 349 + a4)) h9) fun r13 h14 => (if ¬ r13 = a2 then some ((-1), h14) else some (qw (a4 + h14.1 212 23), h14))) else some ((-5), h9))) else some ((-3), h6))) else some ((-2), h3)))))
set_option maxRecDepth 100000 in
theorem TX10_reaches {L : Nat} {xs : Nat → Int32} (a1 : Int) (a2 : Int) (a3 : Int) (a4 : Int) (h : qH) : qMet L xs yX10_reaches cX10_reaches 5 (some .int) 1 9 [qr 212, qi a1, qi a2, qi a3, qi a4] h (DX10_reaches a1 a2 a3 a4 h) := by
  refine qMet.of (by decide +kernel) (Or.inr (Or.inl ⟨rfl, rfl⟩)) (Nat.le_of_ble_eq_true rfl) ?_
  show qS L xs cX10_reaches "BottlePostModel" 5 9 1 0 [(0, qr 212), (1, qi a1), (2, qi a2), (3, qi a3), (4, qi a4)] [] h (DX10_reaches a1 a2 a3 a4 h)
  unfold DX10_reaches
  refine S_aload_n 0 dX10_reaches_0 rfl rfl rfl ?_
  refine S_iconst (a := 0) dX10_reaches_1 rfl (by decide) ?_
  refine S_puti 0 qC_10 (by decide) (by decide) rfl rfl qk_212 (by decide) tw_1226 dX10_reaches_2 rfl ?_
  refine S_lh (fun h1 => ?_)
  refine S_aload_n 0 dX10_reaches_5 rfl rfl rfl ?_
  refine S_iload_n 1 dX10_reaches_6 rfl rfl rfl ?_
  refine S_iload_n 2 dX10_reaches_7 rfl rfl rfl ?_
  refine S_callV_i (as := [qi a1, qi a2]) (st := []) (fun _ => rfl) (TX10_noThrow a1 a2 h1) yv_X10_noThrow tw_1713 qC_10 qk_212 (by decide) rfl rfl (Nat.le_of_ble_eq_true rfl) dX10_reaches_8 rfl (fun r2 h3 e4 => ?_)
  refine S_if_ne (tgt := 19) dX10_reaches_11 (by decide) rfl (fun _ => ?_) (fun _ => ?_)
  · refine S_bipush (a := (-2)) dX10_reaches_19 rfl (by decide) (by decide) ?_
    exact S_iret dX10_reaches_21
  · refine S_iload_n 2 dX10_reaches_14 rfl rfl rfl ?_
    refine S_iconst (a := (-1)) dX10_reaches_15 rfl (by decide) ?_
    refine S_icmp_ne (tgt := 22) dX10_reaches_16 (by decide) rfl (fun _ => ?_) (fun _ => ?_)
    · refine S_iload 4 dX10_reaches_22 rfl rfl ?_
      refine S_i2l dX10_reaches_24 rfl ?_
      refine S_lconst (a := 0) dX10_reaches_25 rfl (by decide) (by decide) ?_
      refine S_ldc2 (a := 30) dX10_reaches_26 rfl (by rw [show Int64.ofInt 30 = (30 : Int64) from by decide]; exact tw_1717) (by decide) ?_
      refine S_callS_i (as := [ql a4, ql 0, ql 30]) (st := []) (fun _ => rfl) (TX10_within a4 0 30 h3) yv_X10_within tw_1352 (by decide) rfl rfl (Nat.le_of_ble_eq_true rfl) dX10_reaches_29 rfl (fun r5 h6 e7 => ?_)
      refine S_if_ne (tgt := 38) dX10_reaches_32 (by decide) rfl (fun _ => ?_) (fun _ => ?_)
      · refine S_aload_n 0 dX10_reaches_38 rfl rfl rfl ?_
        refine S_iload_n 1 dX10_reaches_39 rfl rfl rfl ?_
        refine S_callV_i (as := [qi a1]) (st := []) (fun _ => rfl) (TX10_throwsTo a1 h6) yv_X10_throwsTo tw_1485 qC_10 qk_212 (by decide) rfl rfl (Nat.le_of_ble_eq_true rfl) dX10_reaches_40 rfl (fun r8 h9 e10 => ?_)
        refine S_iconst (a := (-1)) dX10_reaches_43 rfl (by decide) ?_
        refine S_icmp_ne (tgt := 50) dX10_reaches_44 (by decide) rfl (fun _ => ?_) (fun _ => ?_)
        · refine S_aload_n 0 dX10_reaches_50 rfl rfl rfl ?_
          refine S_iload_n 1 dX10_reaches_51 rfl rfl rfl ?_
          refine S_iload_n 2 dX10_reaches_52 rfl rfl rfl ?_
          refine S_iload_n 3 dX10_reaches_53 rfl rfl rfl ?_
          refine S_aload_n 0 dX10_reaches_54 rfl rfl rfl ?_
          refine S_getr (j := 213) (o := 1) 1 qC_10 (by decide) (by decide) qk_212 rfl rfl (by decide) tw_1227 dX10_reaches_55 rfl ?_
          refine S_sipush (a := 349) dX10_reaches_58 rfl (by decide) (by decide) ?_
          refine S_pick_t ((0 : Int) ≤ 349 ∧ (349 : Int) < 5736) (by decide) ?_
          refine S_iald (N := 5736) qk_213 rfl dX10_reaches_61 rfl (fun g11 g12 => ?_)
          refine S_iload 4 dX10_reaches_62 rfl rfl ?_
          refine S_iadd dX10_reaches_64 rfl ?_
          refine S_callV_i (as := [qi a1, qi a2, qi a3, qi (qw (h9.1 213 349 + a4))]) (st := []) (fun _ => rfl) (TX10_keptBy a1 a2 a3 (qw (h9.1 213 349 + a4)) h9) yv_X10_keptBy tw_1718 qC_10 qk_212 (by decide) rfl rfl (Nat.le_of_ble_eq_true rfl) dX10_reaches_65 rfl (fun r13 h14 e15 => ?_)
          refine S_iload_n 2 dX10_reaches_68 rfl rfl rfl ?_
          refine S_icmp_ne (tgt := 82) dX10_reaches_69 (by decide) rfl (fun _ => ?_) (fun _ => ?_)
          · refine S_iconst (a := (-1)) dX10_reaches_82 rfl (by decide) ?_
            exact S_iret dX10_reaches_83
          · refine S_iload 4 dX10_reaches_72 rfl rfl ?_
            refine S_aload_n 0 dX10_reaches_74 rfl rfl rfl ?_
            refine S_geti 23 qC_10 (by decide) (by decide) qk_212 tw_1249 dX10_reaches_75 rfl ?_
            refine S_iadd dX10_reaches_78 rfl ?_
            refine S_goto (pc' := 83) dX10_reaches_79 (by decide) ?_
            exact S_iret dX10_reaches_83
        · refine S_bipush (a := (-5)) dX10_reaches_47 rfl (by decide) (by decide) ?_
          exact S_iret dX10_reaches_49
      · refine S_bipush (a := (-3)) dX10_reaches_35 rfl (by decide) (by decide) ?_
        exact S_iret dX10_reaches_37
    · refine S_bipush (a := (-2)) dX10_reaches_19 rfl (by decide) (by decide) ?_
      exact S_iret dX10_reaches_21
def DX10_readTerm_l5 (f_X10_readAtom : Int → qH → Option (Int × qH)) (f_X10_readTerm : Int → qH → Option (Int × qH)) (f_X10_readSum : Int → qH → Option (Int × qH)) (f_X10_readUnit : Int → qH → Option (Int × qH)) (f_X10_readBoth : Int → qH → Option (Int × qH)) (f_X10_readTruth : Int → qH → Option (Int × qH)) : Nat → Int → qH → Option (Int × qH)
  | 0, _, _ => none
  | n + 1, a1, h => (qbd (DX10_eats 44 h) fun r1 h2 => (if r1 = 0 then some (0, h2) else (qbd (f_X10_readAtom a1 h2) fun r4 h5 => (qbd (DX10_codes 3002 h5) fun r7 h8 => ((DX10_readTerm_l5 f_X10_readAtom f_X10_readTerm f_X10_readSum f_X10_readUnit f_X10_readBoth f_X10_readTruth n) a1 h8)))))
set_option maxRecDepth 100000 in
theorem TX10_readTerm_l5 {L : Nat} {xs : Nat → Int32} {dd : Nat} (f_X10_readAtom : Int → qH → Option (Int × qH)) (f_X10_readTerm : Int → qH → Option (Int × qH)) (f_X10_readSum : Int → qH → Option (Int × qH)) (f_X10_readUnit : Int → qH → Option (Int × qH)) (f_X10_readBoth : Int → qH → Option (Int × qH)) (f_X10_readTruth : Int → qH → Option (Int × qH)) (hf_X10_readAtom : ∀ (a1 : Int) (h : qH), qMet L xs yX10_readAtom cX10_readAtom 2 (none) 0 dd [qr 212, qi a1] h (f_X10_readAtom a1 h)) (hf_X10_readTerm : ∀ (a1 : Int) (h : qH), qMet L xs yX10_readTerm cX10_readTerm 2 (none) 0 dd [qr 212, qi a1] h (f_X10_readTerm a1 h)) (hf_X10_readSum : ∀ (a1 : Int) (h : qH), qMet L xs yX10_readSum cX10_readSum 3 (none) 0 dd [qr 212, qi a1] h (f_X10_readSum a1 h)) (hf_X10_readUnit : ∀ (a1 : Int) (h : qH), qMet L xs yX10_readUnit cX10_readUnit 3 (none) 0 dd [qr 212, qi a1] h (f_X10_readUnit a1 h)) (hf_X10_readBoth : ∀ (a1 : Int) (h : qH), qMet L xs yX10_readBoth cX10_readBoth 2 (none) 0 dd [qr 212, qi a1] h (f_X10_readBoth a1 h)) (hf_X10_readTruth : ∀ (a1 : Int) (h : qH), qMet L xs yX10_readTruth cX10_readTruth 2 (none) 0 dd [qr 212, qi a1] h (f_X10_readTruth a1 h)) (hdd : 9 ≤ dd) : ∀ (n : Nat) (a1 : Int) (h : qH), qS L xs cX10_readTerm "BottlePostModel" 2 (dd + 1) 0 5 [(0, qr 212), (1, qi a1)] [] h (DX10_readTerm_l5 f_X10_readAtom f_X10_readTerm f_X10_readSum f_X10_readUnit f_X10_readBoth f_X10_readTruth n a1 h) := by
  intro n
  induction n with
  | zero =>
    intro a1 h
    exact S_none
  | succ n ih =>
    intro a1 h
    rw [DX10_readTerm_l5.eq_2]
    refine S_aload_n 0 dX10_readTerm_5 rfl rfl rfl ?_
    refine S_bipush (a := 44) dX10_readTerm_6 rfl (by decide) (by decide) ?_
    refine S_callV_i (as := [qi 44]) (st := []) (fun _ => rfl) (TX10_eats 44 h) yv_X10_eats tw_1377 qC_10 qk_212 (by omega) rfl rfl (Nat.le_of_ble_eq_true rfl) dX10_readTerm_8 rfl (fun r1 h2 e3 => ?_)
    refine S_if_eq (tgt := 29) dX10_readTerm_11 (by decide) rfl (fun _ => ?_) (fun _ => ?_)
    · exact S_vret dX10_readTerm_29
    · refine S_aload_n 0 dX10_readTerm_14 rfl rfl rfl ?_
      refine S_iload_n 1 dX10_readTerm_15 rfl rfl rfl ?_
      refine S_callV_0 (as := [qi a1]) (st := []) (fun _ => rfl) (hf_X10_readAtom a1 h2) yv_X10_readAtom tw_1427 qC_10 qk_212 (Nat.le_refl _) rfl rfl (Nat.le_of_ble_eq_true rfl) dX10_readTerm_16 rfl (fun r4 h5 e6 => ?_)
      refine S_aload_n 0 dX10_readTerm_19 rfl rfl rfl ?_
      refine S_sipush (a := 3002) dX10_readTerm_20 rfl (by decide) (by decide) ?_
      refine S_callV_0 (as := [qi 3002]) (st := []) (fun _ => rfl) (TX10_codes 3002 h5) yv_X10_codes tw_1431 qC_10 qk_212 (by omega) rfl rfl (Nat.le_of_ble_eq_true rfl) dX10_readTerm_23 rfl (fun r7 h8 e9 => ?_)
      refine S_goto (pc' := 5) dX10_readTerm_26 (by decide) ?_
      exact ih a1 h8
def DX10_readTerm (f_X10_readAtom : Int → qH → Option (Int × qH)) (f_X10_readTerm : Int → qH → Option (Int × qH)) (f_X10_readSum : Int → qH → Option (Int × qH)) (f_X10_readUnit : Int → qH → Option (Int × qH)) (f_X10_readBoth : Int → qH → Option (Int × qH)) (f_X10_readTruth : Int → qH → Option (Int × qH)) (a1 : Int) (h : qH) : Option (Int × qH) := (qbd (f_X10_readAtom a1 h) fun r10 h11 => (DX10_readTerm_l5 f_X10_readAtom f_X10_readTerm f_X10_readSum f_X10_readUnit f_X10_readBoth f_X10_readTruth LF a1 h11))
set_option maxRecDepth 100000 in
theorem TX10_readTerm {L : Nat} {xs : Nat → Int32} {dd : Nat} (f_X10_readAtom : Int → qH → Option (Int × qH)) (f_X10_readTerm : Int → qH → Option (Int × qH)) (f_X10_readSum : Int → qH → Option (Int × qH)) (f_X10_readUnit : Int → qH → Option (Int × qH)) (f_X10_readBoth : Int → qH → Option (Int × qH)) (f_X10_readTruth : Int → qH → Option (Int × qH)) (hf_X10_readAtom : ∀ (a1 : Int) (h : qH), qMet L xs yX10_readAtom cX10_readAtom 2 (none) 0 dd [qr 212, qi a1] h (f_X10_readAtom a1 h)) (hf_X10_readTerm : ∀ (a1 : Int) (h : qH), qMet L xs yX10_readTerm cX10_readTerm 2 (none) 0 dd [qr 212, qi a1] h (f_X10_readTerm a1 h)) (hf_X10_readSum : ∀ (a1 : Int) (h : qH), qMet L xs yX10_readSum cX10_readSum 3 (none) 0 dd [qr 212, qi a1] h (f_X10_readSum a1 h)) (hf_X10_readUnit : ∀ (a1 : Int) (h : qH), qMet L xs yX10_readUnit cX10_readUnit 3 (none) 0 dd [qr 212, qi a1] h (f_X10_readUnit a1 h)) (hf_X10_readBoth : ∀ (a1 : Int) (h : qH), qMet L xs yX10_readBoth cX10_readBoth 2 (none) 0 dd [qr 212, qi a1] h (f_X10_readBoth a1 h)) (hf_X10_readTruth : ∀ (a1 : Int) (h : qH), qMet L xs yX10_readTruth cX10_readTruth 2 (none) 0 dd [qr 212, qi a1] h (f_X10_readTruth a1 h)) (hdd : 9 ≤ dd) (a1 : Int) (h : qH) : qMet L xs yX10_readTerm cX10_readTerm 2 (none) 0 (dd + 1) [qr 212, qi a1] h (DX10_readTerm f_X10_readAtom f_X10_readTerm f_X10_readSum f_X10_readUnit f_X10_readBoth f_X10_readTruth a1 h) := by
  refine qMet.of (by decide +kernel) (Or.inl ⟨rfl, rfl⟩) (Nat.le_of_ble_eq_true rfl) ?_
  show qS L xs cX10_readTerm "BottlePostModel" 2 (dd + 1) 0 0 [(0, qr 212), (1, qi a1)] [] h (DX10_readTerm f_X10_readAtom f_X10_readTerm f_X10_readSum f_X10_readUnit f_X10_readBoth f_X10_readTruth a1 h)
  unfold DX10_readTerm
  refine S_aload_n 0 dX10_readTerm_0 rfl rfl rfl ?_
  refine S_iload_n 1 dX10_readTerm_1 rfl rfl rfl ?_
  refine S_callV_0 (as := [qi a1]) (st := []) (fun _ => rfl) (hf_X10_readAtom a1 h) yv_X10_readAtom tw_1427 qC_10 qk_212 (Nat.le_refl _) rfl rfl (Nat.le_of_ble_eq_true rfl) dX10_readTerm_2 rfl (fun r10 h11 e12 => ?_)
  exact TX10_readTerm_l5 f_X10_readAtom f_X10_readTerm f_X10_readSum f_X10_readUnit f_X10_readBoth f_X10_readTruth hf_X10_readAtom hf_X10_readTerm hf_X10_readSum hf_X10_readUnit hf_X10_readBoth hf_X10_readTruth hdd LF a1 h11
def DX10_readSum_b41 (f_X10_readAtom : Int → qH → Option (Int × qH)) (f_X10_readTerm : Int → qH → Option (Int × qH)) (f_X10_readSum : Int → qH → Option (Int × qH)) (f_X10_readUnit : Int → qH → Option (Int × qH)) (f_X10_readBoth : Int → qH → Option (Int × qH)) (f_X10_readTruth : Int → qH → Option (Int × qH)) (k5 : Int → qH → Option (Int × qH)) (a1 : Int) (b0 : Int) (h : qH) : Option (Int × qH) := (qbd (DX10_next h) fun r1 h2 => (qbd (f_X10_readTerm a1 h2) fun r4 h5 => (qbd (DX10_codes b0 h5) fun r7 h8 => (k5 a1 h8))))
set_option maxRecDepth 100000 in
theorem TX10_readSum_b41 {L : Nat} {xs : Nat → Int32} {dd : Nat} (f_X10_readAtom : Int → qH → Option (Int × qH)) (f_X10_readTerm : Int → qH → Option (Int × qH)) (f_X10_readSum : Int → qH → Option (Int × qH)) (f_X10_readUnit : Int → qH → Option (Int × qH)) (f_X10_readBoth : Int → qH → Option (Int × qH)) (f_X10_readTruth : Int → qH → Option (Int × qH)) (hf_X10_readAtom : ∀ (a1 : Int) (h : qH), qMet L xs yX10_readAtom cX10_readAtom 2 (none) 0 dd [qr 212, qi a1] h (f_X10_readAtom a1 h)) (hf_X10_readTerm : ∀ (a1 : Int) (h : qH), qMet L xs yX10_readTerm cX10_readTerm 2 (none) 0 dd [qr 212, qi a1] h (f_X10_readTerm a1 h)) (hf_X10_readSum : ∀ (a1 : Int) (h : qH), qMet L xs yX10_readSum cX10_readSum 3 (none) 0 dd [qr 212, qi a1] h (f_X10_readSum a1 h)) (hf_X10_readUnit : ∀ (a1 : Int) (h : qH), qMet L xs yX10_readUnit cX10_readUnit 3 (none) 0 dd [qr 212, qi a1] h (f_X10_readUnit a1 h)) (hf_X10_readBoth : ∀ (a1 : Int) (h : qH), qMet L xs yX10_readBoth cX10_readBoth 2 (none) 0 dd [qr 212, qi a1] h (f_X10_readBoth a1 h)) (hf_X10_readTruth : ∀ (a1 : Int) (h : qH), qMet L xs yX10_readTruth cX10_readTruth 2 (none) 0 dd [qr 212, qi a1] h (f_X10_readTruth a1 h)) (hdd : 8 ≤ dd) (k5 : Int → qH → Option (Int × qH)) (hk5 : ∀ (a1 : Int) (h : qH), qS L xs cX10_readSum "BottlePostModel" 3 (dd + 1) 0 5 [(0, qr 212), (1, qi a1)] [] h (k5 a1 h)) (a1 : Int) (b0 : Int) (h : qH) : qS L xs cX10_readSum "BottlePostModel" 3 (dd + 1) 0 41 [(0, qr 212), (1, qi a1)] [qi b0] h (DX10_readSum_b41 f_X10_readAtom f_X10_readTerm f_X10_readSum f_X10_readUnit f_X10_readBoth f_X10_readTruth k5 a1 b0 h) := by
  unfold DX10_readSum_b41
  refine S_istore_n (lv' := [(2, qi b0), (0, qr 212), (1, qi a1)]) dX10_readSum_41 rfl (by decide) rfl rfl ?_
  refine S_aload_n 1 dX10_readSum_42 rfl rfl rfl ?_
  refine S_callV_0 (as := []) (st := []) (fun _ => rfl) (TX10_next h) yv_X10_next tw_1355 qC_10 qk_212 (by omega) rfl rfl (Nat.le_of_ble_eq_true rfl) dX10_readSum_43 rfl (fun r1 h2 e3 => ?_)
  refine S_aload_n 1 dX10_readSum_46 rfl rfl rfl ?_
  refine S_iload_n 2 dX10_readSum_47 rfl rfl rfl ?_
  refine S_callV_0 (as := [qi a1]) (st := []) (fun _ => rfl) (hf_X10_readTerm a1 h2) yv_X10_readTerm tw_1423 qC_10 qk_212 (Nat.le_refl _) rfl rfl (Nat.le_of_ble_eq_true rfl) dX10_readSum_48 rfl (fun r4 h5 e6 => ?_)
  refine S_aload_n 1 dX10_readSum_51 rfl rfl rfl ?_
  refine S_iload_n 0 dX10_readSum_52 rfl rfl rfl ?_
  refine S_callV_0 (as := [qi b0]) (st := []) (fun _ => rfl) (TX10_codes b0 h5) yv_X10_codes tw_1431 qC_10 qk_212 (by omega) rfl rfl (Nat.le_of_ble_eq_true rfl) dX10_readSum_53 rfl (fun r7 h8 e9 => ?_)
  refine S_goto (pc' := 5) dX10_readSum_56 (by decide) ?_
  refine S_sub [1, 2] rfl ?_
  exact hk5 a1 h8
def DX10_readSum_l5 (f_X10_readAtom : Int → qH → Option (Int × qH)) (f_X10_readTerm : Int → qH → Option (Int × qH)) (f_X10_readSum : Int → qH → Option (Int × qH)) (f_X10_readUnit : Int → qH → Option (Int × qH)) (f_X10_readBoth : Int → qH → Option (Int × qH)) (f_X10_readTruth : Int → qH → Option (Int × qH)) : Nat → Int → qH → Option (Int × qH)
  | 0, _, _ => none
  | n + 1, a1, h => (qbd (DX10_is 42 h) fun r10 h11 => (if ¬ r10 = 0 then (if ¬ h11.1 212 9 = 42 then (DX10_readSum_b41 f_X10_readAtom f_X10_readTerm f_X10_readSum f_X10_readUnit f_X10_readBoth f_X10_readTruth (DX10_readSum_l5 f_X10_readAtom f_X10_readTerm f_X10_readSum f_X10_readUnit f_X10_readBoth f_X10_readTruth n) a1 3001 h11) else (DX10_readSum_b41 f_X10_readAtom f_X10_readTerm f_X10_readSum f_X10_readUnit f_X10_readBoth f_X10_readTruth (DX10_readSum_l5 f_X10_readAtom f_X10_readTerm f_X10_readSum f_X10_readUnit f_X10_readBoth f_X10_readTruth n) a1 3000 h11)) else (qbd (DX10_is 43 h11) fun r13 h14 => (if r13 = 0 then some (0, h14) else (if ¬ h14.1 212 9 = 42 then (DX10_readSum_b41 f_X10_readAtom f_X10_readTerm f_X10_readSum f_X10_readUnit f_X10_readBoth f_X10_readTruth (DX10_readSum_l5 f_X10_readAtom f_X10_readTerm f_X10_readSum f_X10_readUnit f_X10_readBoth f_X10_readTruth n) a1 3001 h14) else (DX10_readSum_b41 f_X10_readAtom f_X10_readTerm f_X10_readSum f_X10_readUnit f_X10_readBoth f_X10_readTruth (DX10_readSum_l5 f_X10_readAtom f_X10_readTerm f_X10_readSum f_X10_readUnit f_X10_readBoth f_X10_readTruth n) a1 3000 h14))))))
set_option maxRecDepth 100000 in
theorem TX10_readSum_l5 {L : Nat} {xs : Nat → Int32} {dd : Nat} (f_X10_readAtom : Int → qH → Option (Int × qH)) (f_X10_readTerm : Int → qH → Option (Int × qH)) (f_X10_readSum : Int → qH → Option (Int × qH)) (f_X10_readUnit : Int → qH → Option (Int × qH)) (f_X10_readBoth : Int → qH → Option (Int × qH)) (f_X10_readTruth : Int → qH → Option (Int × qH)) (hf_X10_readAtom : ∀ (a1 : Int) (h : qH), qMet L xs yX10_readAtom cX10_readAtom 2 (none) 0 dd [qr 212, qi a1] h (f_X10_readAtom a1 h)) (hf_X10_readTerm : ∀ (a1 : Int) (h : qH), qMet L xs yX10_readTerm cX10_readTerm 2 (none) 0 dd [qr 212, qi a1] h (f_X10_readTerm a1 h)) (hf_X10_readSum : ∀ (a1 : Int) (h : qH), qMet L xs yX10_readSum cX10_readSum 3 (none) 0 dd [qr 212, qi a1] h (f_X10_readSum a1 h)) (hf_X10_readUnit : ∀ (a1 : Int) (h : qH), qMet L xs yX10_readUnit cX10_readUnit 3 (none) 0 dd [qr 212, qi a1] h (f_X10_readUnit a1 h)) (hf_X10_readBoth : ∀ (a1 : Int) (h : qH), qMet L xs yX10_readBoth cX10_readBoth 2 (none) 0 dd [qr 212, qi a1] h (f_X10_readBoth a1 h)) (hf_X10_readTruth : ∀ (a1 : Int) (h : qH), qMet L xs yX10_readTruth cX10_readTruth 2 (none) 0 dd [qr 212, qi a1] h (f_X10_readTruth a1 h)) (hdd : 8 ≤ dd) : ∀ (n : Nat) (a1 : Int) (h : qH), qS L xs cX10_readSum "BottlePostModel" 3 (dd + 1) 0 5 [(0, qr 212), (1, qi a1)] [] h (DX10_readSum_l5 f_X10_readAtom f_X10_readTerm f_X10_readSum f_X10_readUnit f_X10_readBoth f_X10_readTruth n a1 h) := by
  intro n
  induction n with
  | zero =>
    intro a1 h
    exact S_none
  | succ n ih =>
    intro a1 h
    rw [DX10_readSum_l5.eq_2]
    refine S_aload_n 0 dX10_readSum_5 rfl rfl rfl ?_
    refine S_bipush (a := 42) dX10_readSum_6 rfl (by decide) (by decide) ?_
    refine S_callV_i (as := [qi 42]) (st := []) (fun _ => rfl) (TX10_is 42 h) yv_X10_is tw_1381 qC_10 qk_212 (by omega) rfl rfl (Nat.le_of_ble_eq_true rfl) dX10_readSum_8 rfl (fun r10 h11 e12 => ?_)
    refine S_if_ne (tgt := 23) dX10_readSum_11 (by decide) rfl (fun _ => ?_) (fun _ => ?_)
    · refine S_aload_n 0 dX10_readSum_23 rfl rfl rfl ?_
      refine S_geti 9 qC_10 (by decide) (by decide) qk_212 tw_1235 dX10_readSum_24 rfl ?_
      refine S_bipush (a := 42) dX10_readSum_27 rfl (by decide) (by decide) ?_
      refine S_icmp_ne (tgt := 38) dX10_readSum_29 (by decide) rfl (fun _ => ?_) (fun _ => ?_)
      · refine S_sipush (a := 3001) dX10_readSum_38 rfl (by decide) (by decide) ?_
        exact TX10_readSum_b41 f_X10_readAtom f_X10_readTerm f_X10_readSum f_X10_readUnit f_X10_readBoth f_X10_readTruth hf_X10_readAtom hf_X10_readTerm hf_X10_readSum hf_X10_readUnit hf_X10_readBoth hf_X10_readTruth hdd (DX10_readSum_l5 f_X10_readAtom f_X10_readTerm f_X10_readSum f_X10_readUnit f_X10_readBoth f_X10_readTruth n) ih a1 3001 h11
      · refine S_sipush (a := 3000) dX10_readSum_32 rfl (by decide) (by decide) ?_
        refine S_goto (pc' := 41) dX10_readSum_35 (by decide) ?_
        exact TX10_readSum_b41 f_X10_readAtom f_X10_readTerm f_X10_readSum f_X10_readUnit f_X10_readBoth f_X10_readTruth hf_X10_readAtom hf_X10_readTerm hf_X10_readSum hf_X10_readUnit hf_X10_readBoth hf_X10_readTruth hdd (DX10_readSum_l5 f_X10_readAtom f_X10_readTerm f_X10_readSum f_X10_readUnit f_X10_readBoth f_X10_readTruth n) ih a1 3000 h11
    · refine S_aload_n 0 dX10_readSum_14 rfl rfl rfl ?_
      refine S_bipush (a := 43) dX10_readSum_15 rfl (by decide) (by decide) ?_
      refine S_callV_i (as := [qi 43]) (st := []) (fun _ => rfl) (TX10_is 43 h11) yv_X10_is tw_1381 qC_10 qk_212 (by omega) rfl rfl (Nat.le_of_ble_eq_true rfl) dX10_readSum_17 rfl (fun r13 h14 e15 => ?_)
      refine S_if_eq (tgt := 59) dX10_readSum_20 (by decide) rfl (fun _ => ?_) (fun _ => ?_)
      · exact S_vret dX10_readSum_59
      · refine S_aload_n 0 dX10_readSum_23 rfl rfl rfl ?_
        refine S_geti 9 qC_10 (by decide) (by decide) qk_212 tw_1235 dX10_readSum_24 rfl ?_
        refine S_bipush (a := 42) dX10_readSum_27 rfl (by decide) (by decide) ?_
        refine S_icmp_ne (tgt := 38) dX10_readSum_29 (by decide) rfl (fun _ => ?_) (fun _ => ?_)
        · refine S_sipush (a := 3001) dX10_readSum_38 rfl (by decide) (by decide) ?_
          exact TX10_readSum_b41 f_X10_readAtom f_X10_readTerm f_X10_readSum f_X10_readUnit f_X10_readBoth f_X10_readTruth hf_X10_readAtom hf_X10_readTerm hf_X10_readSum hf_X10_readUnit hf_X10_readBoth hf_X10_readTruth hdd (DX10_readSum_l5 f_X10_readAtom f_X10_readTerm f_X10_readSum f_X10_readUnit f_X10_readBoth f_X10_readTruth n) ih a1 3001 h14
        · refine S_sipush (a := 3000) dX10_readSum_32 rfl (by decide) (by decide) ?_
          refine S_goto (pc' := 41) dX10_readSum_35 (by decide) ?_
          exact TX10_readSum_b41 f_X10_readAtom f_X10_readTerm f_X10_readSum f_X10_readUnit f_X10_readBoth f_X10_readTruth hf_X10_readAtom hf_X10_readTerm hf_X10_readSum hf_X10_readUnit hf_X10_readBoth hf_X10_readTruth hdd (DX10_readSum_l5 f_X10_readAtom f_X10_readTerm f_X10_readSum f_X10_readUnit f_X10_readBoth f_X10_readTruth n) ih a1 3000 h14
def DX10_readSum (f_X10_readAtom : Int → qH → Option (Int × qH)) (f_X10_readTerm : Int → qH → Option (Int × qH)) (f_X10_readSum : Int → qH → Option (Int × qH)) (f_X10_readUnit : Int → qH → Option (Int × qH)) (f_X10_readBoth : Int → qH → Option (Int × qH)) (f_X10_readTruth : Int → qH → Option (Int × qH)) (a1 : Int) (h : qH) : Option (Int × qH) := (qbd (f_X10_readTerm a1 h) fun r16 h17 => (DX10_readSum_l5 f_X10_readAtom f_X10_readTerm f_X10_readSum f_X10_readUnit f_X10_readBoth f_X10_readTruth LF a1 h17))
set_option maxRecDepth 100000 in
theorem TX10_readSum {L : Nat} {xs : Nat → Int32} {dd : Nat} (f_X10_readAtom : Int → qH → Option (Int × qH)) (f_X10_readTerm : Int → qH → Option (Int × qH)) (f_X10_readSum : Int → qH → Option (Int × qH)) (f_X10_readUnit : Int → qH → Option (Int × qH)) (f_X10_readBoth : Int → qH → Option (Int × qH)) (f_X10_readTruth : Int → qH → Option (Int × qH)) (hf_X10_readAtom : ∀ (a1 : Int) (h : qH), qMet L xs yX10_readAtom cX10_readAtom 2 (none) 0 dd [qr 212, qi a1] h (f_X10_readAtom a1 h)) (hf_X10_readTerm : ∀ (a1 : Int) (h : qH), qMet L xs yX10_readTerm cX10_readTerm 2 (none) 0 dd [qr 212, qi a1] h (f_X10_readTerm a1 h)) (hf_X10_readSum : ∀ (a1 : Int) (h : qH), qMet L xs yX10_readSum cX10_readSum 3 (none) 0 dd [qr 212, qi a1] h (f_X10_readSum a1 h)) (hf_X10_readUnit : ∀ (a1 : Int) (h : qH), qMet L xs yX10_readUnit cX10_readUnit 3 (none) 0 dd [qr 212, qi a1] h (f_X10_readUnit a1 h)) (hf_X10_readBoth : ∀ (a1 : Int) (h : qH), qMet L xs yX10_readBoth cX10_readBoth 2 (none) 0 dd [qr 212, qi a1] h (f_X10_readBoth a1 h)) (hf_X10_readTruth : ∀ (a1 : Int) (h : qH), qMet L xs yX10_readTruth cX10_readTruth 2 (none) 0 dd [qr 212, qi a1] h (f_X10_readTruth a1 h)) (hdd : 8 ≤ dd) (a1 : Int) (h : qH) : qMet L xs yX10_readSum cX10_readSum 3 (none) 0 (dd + 1) [qr 212, qi a1] h (DX10_readSum f_X10_readAtom f_X10_readTerm f_X10_readSum f_X10_readUnit f_X10_readBoth f_X10_readTruth a1 h) := by
  refine qMet.of (by decide +kernel) (Or.inl ⟨rfl, rfl⟩) (Nat.le_of_ble_eq_true rfl) ?_
  show qS L xs cX10_readSum "BottlePostModel" 3 (dd + 1) 0 0 [(0, qr 212), (1, qi a1)] [] h (DX10_readSum f_X10_readAtom f_X10_readTerm f_X10_readSum f_X10_readUnit f_X10_readBoth f_X10_readTruth a1 h)
  unfold DX10_readSum
  refine S_aload_n 0 dX10_readSum_0 rfl rfl rfl ?_
  refine S_iload_n 1 dX10_readSum_1 rfl rfl rfl ?_
  refine S_callV_0 (as := [qi a1]) (st := []) (fun _ => rfl) (hf_X10_readTerm a1 h) yv_X10_readTerm tw_1423 qC_10 qk_212 (Nat.le_refl _) rfl rfl (Nat.le_of_ble_eq_true rfl) dX10_readSum_2 rfl (fun r16 h17 e18 => ?_)
  exact TX10_readSum_l5 f_X10_readAtom f_X10_readTerm f_X10_readSum f_X10_readUnit f_X10_readBoth f_X10_readTruth hf_X10_readAtom hf_X10_readTerm hf_X10_readSum hf_X10_readUnit hf_X10_readBoth hf_X10_readTruth hdd LF a1 h17
def DX10_wordOf (a1 : Int) (h : qH) : Option (Int × qH) := (if ¬ h.1 212 15 = 0 then (if ¬ a1 = 21 then (qbd (DX10_within a1 22 27 h) fun r1 h2 => (if r1 = 0 then some ((-1), h2) else some (qw (a1 - 22), h2))) else some (6, h)) else (if ¬ a1 = 19 then (if ¬ a1 = 20 then (if ¬ a1 = 21 then (if ¬ a1 = 9 then some ((-1), h) else some (3, h)) else some (2, h)) else some (1, h)) else some (0, h)))
set_option maxRecDepth 100000 in
theorem TX10_wordOf {L : Nat} {xs : Nat → Int32} (a1 : Int) (h : qH) : qMet L xs yX10_wordOf cX10_wordOf 2 (some .int) 1 2 [qr 212, qi a1] h (DX10_wordOf a1 h) := by
  refine qMet.of (by decide +kernel) (Or.inr (Or.inl ⟨rfl, rfl⟩)) (Nat.le_of_ble_eq_true rfl) ?_
  show qS L xs cX10_wordOf "BottlePostModel" 2 2 1 0 [(0, qr 212), (1, qi a1)] [] h (DX10_wordOf a1 h)
  unfold DX10_wordOf
  refine S_aload_n 0 dX10_wordOf_0 rfl rfl rfl ?_
  refine S_geti 15 qC_10 (by decide) (by decide) qk_212 tw_1241 dX10_wordOf_1 rfl ?_
  refine S_if_ne (tgt := 49) dX10_wordOf_4 (by decide) rfl (fun _ => ?_) (fun _ => ?_)
  · refine S_iload_n 1 dX10_wordOf_49 rfl rfl rfl ?_
    refine S_bipush (a := 21) dX10_wordOf_50 rfl (by decide) (by decide) ?_
    refine S_icmp_ne (tgt := 60) dX10_wordOf_52 (by decide) rfl (fun _ => ?_) (fun _ => ?_)
    · refine S_iload_n 1 dX10_wordOf_60 rfl rfl rfl ?_
      refine S_i2l dX10_wordOf_61 rfl ?_
      refine S_ldc2 (a := 22) dX10_wordOf_62 rfl (by rw [show Int64.ofInt 22 = (22 : Int64) from by decide]; exact tw_1439) (by decide) ?_
      refine S_ldc2 (a := 27) dX10_wordOf_65 rfl (by rw [show Int64.ofInt 27 = (27 : Int64) from by decide]; exact tw_1440) (by decide) ?_
      refine S_callS_i (as := [ql a1, ql 22, ql 27]) (st := []) (fun _ => rfl) (TX10_within a1 22 27 h) yv_X10_within tw_1352 (by decide) rfl rfl (Nat.le_of_ble_eq_true rfl) dX10_wordOf_68 rfl (fun r1 h2 e3 => ?_)
      refine S_if_eq (tgt := 81) dX10_wordOf_71 (by decide) rfl (fun _ => ?_) (fun _ => ?_)
      · refine S_iconst (a := (-1)) dX10_wordOf_81 rfl (by decide) ?_
        exact S_iret dX10_wordOf_82
      · refine S_iload_n 1 dX10_wordOf_74 rfl rfl rfl ?_
        refine S_bipush (a := 22) dX10_wordOf_75 rfl (by decide) (by decide) ?_
        refine S_isub dX10_wordOf_77 rfl ?_
        refine S_goto (pc' := 82) dX10_wordOf_78 (by decide) ?_
        exact S_iret dX10_wordOf_82
    · refine S_bipush (a := 6) dX10_wordOf_55 rfl (by decide) (by decide) ?_
      refine S_goto (pc' := 82) dX10_wordOf_57 (by decide) ?_
      exact S_iret dX10_wordOf_82
  · refine S_iload_n 1 dX10_wordOf_7 rfl rfl rfl ?_
    refine S_bipush (a := 19) dX10_wordOf_8 rfl (by decide) (by decide) ?_
    refine S_icmp_ne (tgt := 17) dX10_wordOf_10 (by decide) rfl (fun _ => ?_) (fun _ => ?_)
    · refine S_iload_n 1 dX10_wordOf_17 rfl rfl rfl ?_
      refine S_bipush (a := 20) dX10_wordOf_18 rfl (by decide) (by decide) ?_
      refine S_icmp_ne (tgt := 27) dX10_wordOf_20 (by decide) rfl (fun _ => ?_) (fun _ => ?_)
      · refine S_iload_n 1 dX10_wordOf_27 rfl rfl rfl ?_
        refine S_bipush (a := 21) dX10_wordOf_28 rfl (by decide) (by decide) ?_
        refine S_icmp_ne (tgt := 37) dX10_wordOf_30 (by decide) rfl (fun _ => ?_) (fun _ => ?_)
        · refine S_iload_n 1 dX10_wordOf_37 rfl rfl rfl ?_
          refine S_bipush (a := 9) dX10_wordOf_38 rfl (by decide) (by decide) ?_
          refine S_icmp_ne (tgt := 47) dX10_wordOf_40 (by decide) rfl (fun _ => ?_) (fun _ => ?_)
          · refine S_iconst (a := (-1)) dX10_wordOf_47 rfl (by decide) ?_
            exact S_iret dX10_wordOf_48
          · refine S_iconst (a := 3) dX10_wordOf_43 rfl (by decide) ?_
            refine S_goto (pc' := 48) dX10_wordOf_44 (by decide) ?_
            exact S_iret dX10_wordOf_48
        · refine S_iconst (a := 2) dX10_wordOf_33 rfl (by decide) ?_
          refine S_goto (pc' := 48) dX10_wordOf_34 (by decide) ?_
          exact S_iret dX10_wordOf_48
      · refine S_iconst (a := 1) dX10_wordOf_23 rfl (by decide) ?_
        refine S_goto (pc' := 48) dX10_wordOf_24 (by decide) ?_
        exact S_iret dX10_wordOf_48
    · refine S_iconst (a := 0) dX10_wordOf_13 rfl (by decide) ?_
      refine S_goto (pc' := 48) dX10_wordOf_14 (by decide) ?_
      exact S_iret dX10_wordOf_48
def DX10_readAtom_b66 (f_X10_readAtom : Int → qH → Option (Int × qH)) (f_X10_readTerm : Int → qH → Option (Int × qH)) (f_X10_readSum : Int → qH → Option (Int × qH)) (f_X10_readUnit : Int → qH → Option (Int × qH)) (f_X10_readBoth : Int → qH → Option (Int × qH)) (f_X10_readTruth : Int → qH → Option (Int × qH)) (a1 : Int) (h : qH) : Option (Int × qH) := (qbd (DX10_is 45 h) fun r1 h2 => (if r1 = 0 then (qbd (DX10_fails 2 h2) fun r4 h5 => some (0, h5)) else (qbd (DX10_goesIn a1 h2) fun r7 h8 => (if ¬ r7 = 0 then (qbd (f_X10_readSum (qw (a1 + 1)) h8) fun r10 h11 => (qbd (DX10_eats 46 h11) fun r13 h14 => (if ¬ r13 = 0 then some (0, h14) else (qbd (DX10_fails 2 h14) fun r16 h17 => some (0, h17))))) else some (0, h8)))))
set_option maxRecDepth 100000 in
theorem TX10_readAtom_b66 {L : Nat} {xs : Nat → Int32} {dd : Nat} (f_X10_readAtom : Int → qH → Option (Int × qH)) (f_X10_readTerm : Int → qH → Option (Int × qH)) (f_X10_readSum : Int → qH → Option (Int × qH)) (f_X10_readUnit : Int → qH → Option (Int × qH)) (f_X10_readBoth : Int → qH → Option (Int × qH)) (f_X10_readTruth : Int → qH → Option (Int × qH)) (hf_X10_readAtom : ∀ (a1 : Int) (h : qH), qMet L xs yX10_readAtom cX10_readAtom 2 (none) 0 dd [qr 212, qi a1] h (f_X10_readAtom a1 h)) (hf_X10_readTerm : ∀ (a1 : Int) (h : qH), qMet L xs yX10_readTerm cX10_readTerm 2 (none) 0 dd [qr 212, qi a1] h (f_X10_readTerm a1 h)) (hf_X10_readSum : ∀ (a1 : Int) (h : qH), qMet L xs yX10_readSum cX10_readSum 3 (none) 0 dd [qr 212, qi a1] h (f_X10_readSum a1 h)) (hf_X10_readUnit : ∀ (a1 : Int) (h : qH), qMet L xs yX10_readUnit cX10_readUnit 3 (none) 0 dd [qr 212, qi a1] h (f_X10_readUnit a1 h)) (hf_X10_readBoth : ∀ (a1 : Int) (h : qH), qMet L xs yX10_readBoth cX10_readBoth 2 (none) 0 dd [qr 212, qi a1] h (f_X10_readBoth a1 h)) (hf_X10_readTruth : ∀ (a1 : Int) (h : qH), qMet L xs yX10_readTruth cX10_readTruth 2 (none) 0 dd [qr 212, qi a1] h (f_X10_readTruth a1 h)) (hdd : 9 ≤ dd) (a1 : Int) (h : qH) : qS L xs cX10_readAtom "BottlePostModel" 2 (dd + 1) 0 66 [(0, qr 212), (1, qi a1)] [] h (DX10_readAtom_b66 f_X10_readAtom f_X10_readTerm f_X10_readSum f_X10_readUnit f_X10_readBoth f_X10_readTruth a1 h) := by
  unfold DX10_readAtom_b66
  refine S_aload_n 0 dX10_readAtom_66 rfl rfl rfl ?_
  refine S_bipush (a := 45) dX10_readAtom_67 rfl (by decide) (by decide) ?_
  refine S_callV_i (as := [qi 45]) (st := []) (fun _ => rfl) (TX10_is 45 h) yv_X10_is tw_1381 qC_10 qk_212 (by omega) rfl rfl (Nat.le_of_ble_eq_true rfl) dX10_readAtom_69 rfl (fun r1 h2 e3 => ?_)
  refine S_if_eq (tgt := 108) dX10_readAtom_72 (by decide) rfl (fun _ => ?_) (fun _ => ?_)
  · refine S_aload_n 0 dX10_readAtom_108 rfl rfl rfl ?_
    refine S_iconst (a := 2) dX10_readAtom_109 rfl (by decide) ?_
    refine S_callV_0 (as := [qi 2]) (st := []) (fun _ => rfl) (TX10_fails 2 h2) yv_X10_fails tw_1385 qC_10 qk_212 (by omega) rfl rfl (Nat.le_of_ble_eq_true rfl) dX10_readAtom_110 rfl (fun r4 h5 e6 => ?_)
    exact S_vret dX10_readAtom_113
  · refine S_aload_n 0 dX10_readAtom_75 rfl rfl rfl ?_
    refine S_iload_n 1 dX10_readAtom_76 rfl rfl rfl ?_
    refine S_callV_i (as := [qi a1]) (st := []) (fun _ => rfl) (TX10_goesIn a1 h2) yv_X10_goesIn tw_1441 qC_10 qk_212 (by omega) rfl rfl (Nat.le_of_ble_eq_true rfl) dX10_readAtom_77 rfl (fun r7 h8 e9 => ?_)
    refine S_if_ne (tgt := 84) dX10_readAtom_80 (by decide) rfl (fun _ => ?_) (fun _ => ?_)
    · refine S_aload_n 0 dX10_readAtom_84 rfl rfl rfl ?_
      refine S_iload_n 1 dX10_readAtom_85 rfl rfl rfl ?_
      refine S_iconst (a := 1) dX10_readAtom_86 rfl (by decide) ?_
      refine S_iadd dX10_readAtom_87 rfl ?_
      refine S_callV_0 (as := [qi (qw (a1 + 1))]) (st := []) (fun _ => rfl) (hf_X10_readSum (qw (a1 + 1)) h8) yv_X10_readSum tw_1419 qC_10 qk_212 (Nat.le_refl _) rfl rfl (Nat.le_of_ble_eq_true rfl) dX10_readAtom_88 rfl (fun r10 h11 e12 => ?_)
      refine S_aload_n 0 dX10_readAtom_91 rfl rfl rfl ?_
      refine S_bipush (a := 46) dX10_readAtom_92 rfl (by decide) (by decide) ?_
      refine S_callV_i (as := [qi 46]) (st := []) (fun _ => rfl) (TX10_eats 46 h11) yv_X10_eats tw_1377 qC_10 qk_212 (by omega) rfl rfl (Nat.le_of_ble_eq_true rfl) dX10_readAtom_94 rfl (fun r13 h14 e15 => ?_)
      refine S_if_ne (tgt := 113) dX10_readAtom_97 (by decide) rfl (fun _ => ?_) (fun _ => ?_)
      · exact S_vret dX10_readAtom_113
      · refine S_aload_n 0 dX10_readAtom_100 rfl rfl rfl ?_
        refine S_iconst (a := 2) dX10_readAtom_101 rfl (by decide) ?_
        refine S_callV_0 (as := [qi 2]) (st := []) (fun _ => rfl) (TX10_fails 2 h14) yv_X10_fails tw_1385 qC_10 qk_212 (by omega) rfl rfl (Nat.le_of_ble_eq_true rfl) dX10_readAtom_102 rfl (fun r16 h17 e18 => ?_)
        refine S_goto (pc' := 113) dX10_readAtom_105 (by decide) ?_
        exact S_vret dX10_readAtom_113
    · exact S_vret dX10_readAtom_83
def DX10_readAtom (f_X10_readAtom : Int → qH → Option (Int × qH)) (f_X10_readTerm : Int → qH → Option (Int × qH)) (f_X10_readSum : Int → qH → Option (Int × qH)) (f_X10_readUnit : Int → qH → Option (Int × qH)) (f_X10_readBoth : Int → qH → Option (Int × qH)) (f_X10_readTruth : Int → qH → Option (Int × qH)) (a1 : Int) (h : qH) : Option (Int × qH) := (qbd (DX10_is 31 h) fun r19 h20 => (if r19 = 0 then (if ¬ h20.1 212 11 = 0 then (DX10_readAtom_b66 f_X10_readAtom f_X10_readTerm f_X10_readSum f_X10_readUnit f_X10_readBoth f_X10_readTruth a1 h20) else (qbd (DX10_wordOf (h20.1 212 9) h20) fun r22 h23 => (if r22 = (-1) then (DX10_readAtom_b66 f_X10_readAtom f_X10_readTerm f_X10_readSum f_X10_readUnit f_X10_readBoth f_X10_readTruth a1 h23) else (qbd (DX10_wordOf (h23.1 212 9) h23) fun r25 h26 => (qbd (DX10_codes (qw (1000 + r25)) h26) fun r28 h29 => (qbd (DX10_next h29) fun r31 h32 => some (0, h32))))))) else (qbd (DX10_codes (h20.1 212 10) h20) fun r34 h35 => (qbd (DX10_next h35) fun r37 h38 => some (0, h38)))))
set_option maxRecDepth 100000 in
theorem TX10_readAtom {L : Nat} {xs : Nat → Int32} {dd : Nat} (f_X10_readAtom : Int → qH → Option (Int × qH)) (f_X10_readTerm : Int → qH → Option (Int × qH)) (f_X10_readSum : Int → qH → Option (Int × qH)) (f_X10_readUnit : Int → qH → Option (Int × qH)) (f_X10_readBoth : Int → qH → Option (Int × qH)) (f_X10_readTruth : Int → qH → Option (Int × qH)) (hf_X10_readAtom : ∀ (a1 : Int) (h : qH), qMet L xs yX10_readAtom cX10_readAtom 2 (none) 0 dd [qr 212, qi a1] h (f_X10_readAtom a1 h)) (hf_X10_readTerm : ∀ (a1 : Int) (h : qH), qMet L xs yX10_readTerm cX10_readTerm 2 (none) 0 dd [qr 212, qi a1] h (f_X10_readTerm a1 h)) (hf_X10_readSum : ∀ (a1 : Int) (h : qH), qMet L xs yX10_readSum cX10_readSum 3 (none) 0 dd [qr 212, qi a1] h (f_X10_readSum a1 h)) (hf_X10_readUnit : ∀ (a1 : Int) (h : qH), qMet L xs yX10_readUnit cX10_readUnit 3 (none) 0 dd [qr 212, qi a1] h (f_X10_readUnit a1 h)) (hf_X10_readBoth : ∀ (a1 : Int) (h : qH), qMet L xs yX10_readBoth cX10_readBoth 2 (none) 0 dd [qr 212, qi a1] h (f_X10_readBoth a1 h)) (hf_X10_readTruth : ∀ (a1 : Int) (h : qH), qMet L xs yX10_readTruth cX10_readTruth 2 (none) 0 dd [qr 212, qi a1] h (f_X10_readTruth a1 h)) (hdd : 9 ≤ dd) (a1 : Int) (h : qH) : qMet L xs yX10_readAtom cX10_readAtom 2 (none) 0 (dd + 1) [qr 212, qi a1] h (DX10_readAtom f_X10_readAtom f_X10_readTerm f_X10_readSum f_X10_readUnit f_X10_readBoth f_X10_readTruth a1 h) := by
  refine qMet.of (by decide +kernel) (Or.inl ⟨rfl, rfl⟩) (Nat.le_of_ble_eq_true rfl) ?_
  show qS L xs cX10_readAtom "BottlePostModel" 2 (dd + 1) 0 0 [(0, qr 212), (1, qi a1)] [] h (DX10_readAtom f_X10_readAtom f_X10_readTerm f_X10_readSum f_X10_readUnit f_X10_readBoth f_X10_readTruth a1 h)
  unfold DX10_readAtom
  refine S_aload_n 0 dX10_readAtom_0 rfl rfl rfl ?_
  refine S_bipush (a := 31) dX10_readAtom_1 rfl (by decide) (by decide) ?_
  refine S_callV_i (as := [qi 31]) (st := []) (fun _ => rfl) (TX10_is 31 h) yv_X10_is tw_1381 qC_10 qk_212 (by omega) rfl rfl (Nat.le_of_ble_eq_true rfl) dX10_readAtom_3 rfl (fun r19 h20 e21 => ?_)
  refine S_if_eq (tgt := 24) dX10_readAtom_6 (by decide) rfl (fun _ => ?_) (fun _ => ?_)
  · refine S_aload_n 0 dX10_readAtom_24 rfl rfl rfl ?_
    refine S_geti 11 qC_10 (by decide) (by decide) qk_212 tw_1237 dX10_readAtom_25 rfl ?_
    refine S_if_ne (tgt := 66) dX10_readAtom_28 (by decide) rfl (fun _ => ?_) (fun _ => ?_)
    · exact TX10_readAtom_b66 f_X10_readAtom f_X10_readTerm f_X10_readSum f_X10_readUnit f_X10_readBoth f_X10_readTruth hf_X10_readAtom hf_X10_readTerm hf_X10_readSum hf_X10_readUnit hf_X10_readBoth hf_X10_readTruth hdd a1 h20
    · refine S_aload_n 0 dX10_readAtom_31 rfl rfl rfl ?_
      refine S_aload_n 0 dX10_readAtom_32 rfl rfl rfl ?_
      refine S_geti 9 qC_10 (by decide) (by decide) qk_212 tw_1235 dX10_readAtom_33 rfl ?_
      refine S_callV_i (as := [qi (h20.1 212 9)]) (st := []) (fun _ => rfl) (TX10_wordOf (h20.1 212 9) h20) yv_X10_wordOf tw_1435 qC_10 qk_212 (by omega) rfl rfl (Nat.le_of_ble_eq_true rfl) dX10_readAtom_36 rfl (fun r22 h23 e24 => ?_)
      refine S_iconst (a := (-1)) dX10_readAtom_39 rfl (by decide) ?_
      refine S_icmp_eq (tgt := 66) dX10_readAtom_40 (by decide) rfl (fun _ => ?_) (fun _ => ?_)
      · exact TX10_readAtom_b66 f_X10_readAtom f_X10_readTerm f_X10_readSum f_X10_readUnit f_X10_readBoth f_X10_readTruth hf_X10_readAtom hf_X10_readTerm hf_X10_readSum hf_X10_readUnit hf_X10_readBoth hf_X10_readTruth hdd a1 h23
      · refine S_aload_n 0 dX10_readAtom_43 rfl rfl rfl ?_
        refine S_sipush (a := 1000) dX10_readAtom_44 rfl (by decide) (by decide) ?_
        refine S_aload_n 0 dX10_readAtom_47 rfl rfl rfl ?_
        refine S_aload_n 0 dX10_readAtom_48 rfl rfl rfl ?_
        refine S_geti 9 qC_10 (by decide) (by decide) qk_212 tw_1235 dX10_readAtom_49 rfl ?_
        refine S_callV_i (as := [qi (h23.1 212 9)]) (st := [qi 1000, qr 212]) (fun _ => rfl) (TX10_wordOf (h23.1 212 9) h23) yv_X10_wordOf tw_1435 qC_10 qk_212 (by omega) rfl rfl (Nat.le_of_ble_eq_true rfl) dX10_readAtom_52 rfl (fun r25 h26 e27 => ?_)
        refine S_iadd dX10_readAtom_55 rfl ?_
        refine S_callV_0 (as := [qi (qw (1000 + r25))]) (st := []) (fun _ => rfl) (TX10_codes (qw (1000 + r25)) h26) yv_X10_codes tw_1431 qC_10 qk_212 (by omega) rfl rfl (Nat.le_of_ble_eq_true rfl) dX10_readAtom_56 rfl (fun r28 h29 e30 => ?_)
        refine S_aload_n 0 dX10_readAtom_59 rfl rfl rfl ?_
        refine S_callV_0 (as := []) (st := []) (fun _ => rfl) (TX10_next h29) yv_X10_next tw_1355 qC_10 qk_212 (by omega) rfl rfl (Nat.le_of_ble_eq_true rfl) dX10_readAtom_60 rfl (fun r31 h32 e33 => ?_)
        refine S_goto (pc' := 113) dX10_readAtom_63 (by decide) ?_
        exact S_vret dX10_readAtom_113
  · refine S_aload_n 0 dX10_readAtom_9 rfl rfl rfl ?_
    refine S_aload_n 0 dX10_readAtom_10 rfl rfl rfl ?_
    refine S_geti 10 qC_10 (by decide) (by decide) qk_212 tw_1236 dX10_readAtom_11 rfl ?_
    refine S_callV_0 (as := [qi (h20.1 212 10)]) (st := []) (fun _ => rfl) (TX10_codes (h20.1 212 10) h20) yv_X10_codes tw_1431 qC_10 qk_212 (by omega) rfl rfl (Nat.le_of_ble_eq_true rfl) dX10_readAtom_14 rfl (fun r34 h35 e36 => ?_)
    refine S_aload_n 0 dX10_readAtom_17 rfl rfl rfl ?_
    refine S_callV_0 (as := []) (st := []) (fun _ => rfl) (TX10_next h35) yv_X10_next tw_1355 qC_10 qk_212 (by omega) rfl rfl (Nat.le_of_ble_eq_true rfl) dX10_readAtom_18 rfl (fun r37 h38 e39 => ?_)
    refine S_goto (pc' := 113) dX10_readAtom_21 (by decide) ?_
    exact S_vret dX10_readAtom_113
def DX10_readTruth_l5 (f_X10_readAtom : Int → qH → Option (Int × qH)) (f_X10_readTerm : Int → qH → Option (Int × qH)) (f_X10_readSum : Int → qH → Option (Int × qH)) (f_X10_readUnit : Int → qH → Option (Int × qH)) (f_X10_readBoth : Int → qH → Option (Int × qH)) (f_X10_readTruth : Int → qH → Option (Int × qH)) : Nat → Int → qH → Option (Int × qH)
  | 0, _, _ => none
  | n + 1, a1, h => (qbd (DX10_eats 16 h) fun r1 h2 => (if r1 = 0 then some (0, h2) else (qbd (f_X10_readBoth a1 h2) fun r4 h5 => (qbd (DX10_codes 3007 h5) fun r7 h8 => ((DX10_readTruth_l5 f_X10_readAtom f_X10_readTerm f_X10_readSum f_X10_readUnit f_X10_readBoth f_X10_readTruth n) a1 h8)))))
set_option maxRecDepth 100000 in
theorem TX10_readTruth_l5 {L : Nat} {xs : Nat → Int32} {dd : Nat} (f_X10_readAtom : Int → qH → Option (Int × qH)) (f_X10_readTerm : Int → qH → Option (Int × qH)) (f_X10_readSum : Int → qH → Option (Int × qH)) (f_X10_readUnit : Int → qH → Option (Int × qH)) (f_X10_readBoth : Int → qH → Option (Int × qH)) (f_X10_readTruth : Int → qH → Option (Int × qH)) (hf_X10_readAtom : ∀ (a1 : Int) (h : qH), qMet L xs yX10_readAtom cX10_readAtom 2 (none) 0 dd [qr 212, qi a1] h (f_X10_readAtom a1 h)) (hf_X10_readTerm : ∀ (a1 : Int) (h : qH), qMet L xs yX10_readTerm cX10_readTerm 2 (none) 0 dd [qr 212, qi a1] h (f_X10_readTerm a1 h)) (hf_X10_readSum : ∀ (a1 : Int) (h : qH), qMet L xs yX10_readSum cX10_readSum 3 (none) 0 dd [qr 212, qi a1] h (f_X10_readSum a1 h)) (hf_X10_readUnit : ∀ (a1 : Int) (h : qH), qMet L xs yX10_readUnit cX10_readUnit 3 (none) 0 dd [qr 212, qi a1] h (f_X10_readUnit a1 h)) (hf_X10_readBoth : ∀ (a1 : Int) (h : qH), qMet L xs yX10_readBoth cX10_readBoth 2 (none) 0 dd [qr 212, qi a1] h (f_X10_readBoth a1 h)) (hf_X10_readTruth : ∀ (a1 : Int) (h : qH), qMet L xs yX10_readTruth cX10_readTruth 2 (none) 0 dd [qr 212, qi a1] h (f_X10_readTruth a1 h)) (hdd : 9 ≤ dd) : ∀ (n : Nat) (a1 : Int) (h : qH), qS L xs cX10_readTruth "BottlePostModel" 2 (dd + 1) 0 5 [(0, qr 212), (1, qi a1)] [] h (DX10_readTruth_l5 f_X10_readAtom f_X10_readTerm f_X10_readSum f_X10_readUnit f_X10_readBoth f_X10_readTruth n a1 h) := by
  intro n
  induction n with
  | zero =>
    intro a1 h
    exact S_none
  | succ n ih =>
    intro a1 h
    rw [DX10_readTruth_l5.eq_2]
    refine S_aload_n 0 dX10_readTruth_5 rfl rfl rfl ?_
    refine S_bipush (a := 16) dX10_readTruth_6 rfl (by decide) (by decide) ?_
    refine S_callV_i (as := [qi 16]) (st := []) (fun _ => rfl) (TX10_eats 16 h) yv_X10_eats tw_1377 qC_10 qk_212 (by omega) rfl rfl (Nat.le_of_ble_eq_true rfl) dX10_readTruth_8 rfl (fun r1 h2 e3 => ?_)
    refine S_if_eq (tgt := 29) dX10_readTruth_11 (by decide) rfl (fun _ => ?_) (fun _ => ?_)
    · exact S_vret dX10_readTruth_29
    · refine S_aload_n 0 dX10_readTruth_14 rfl rfl rfl ?_
      refine S_iload_n 1 dX10_readTruth_15 rfl rfl rfl ?_
      refine S_callV_0 (as := [qi a1]) (st := []) (fun _ => rfl) (hf_X10_readBoth a1 h2) yv_X10_readBoth tw_1449 qC_10 qk_212 (Nat.le_refl _) rfl rfl (Nat.le_of_ble_eq_true rfl) dX10_readTruth_16 rfl (fun r4 h5 e6 => ?_)
      refine S_aload_n 0 dX10_readTruth_19 rfl rfl rfl ?_
      refine S_sipush (a := 3007) dX10_readTruth_20 rfl (by decide) (by decide) ?_
      refine S_callV_0 (as := [qi 3007]) (st := []) (fun _ => rfl) (TX10_codes 3007 h5) yv_X10_codes tw_1431 qC_10 qk_212 (by omega) rfl rfl (Nat.le_of_ble_eq_true rfl) dX10_readTruth_23 rfl (fun r7 h8 e9 => ?_)
      refine S_goto (pc' := 5) dX10_readTruth_26 (by decide) ?_
      exact ih a1 h8
def DX10_readTruth (f_X10_readAtom : Int → qH → Option (Int × qH)) (f_X10_readTerm : Int → qH → Option (Int × qH)) (f_X10_readSum : Int → qH → Option (Int × qH)) (f_X10_readUnit : Int → qH → Option (Int × qH)) (f_X10_readBoth : Int → qH → Option (Int × qH)) (f_X10_readTruth : Int → qH → Option (Int × qH)) (a1 : Int) (h : qH) : Option (Int × qH) := (qbd (f_X10_readBoth a1 h) fun r10 h11 => (DX10_readTruth_l5 f_X10_readAtom f_X10_readTerm f_X10_readSum f_X10_readUnit f_X10_readBoth f_X10_readTruth LF a1 h11))
set_option maxRecDepth 100000 in
theorem TX10_readTruth {L : Nat} {xs : Nat → Int32} {dd : Nat} (f_X10_readAtom : Int → qH → Option (Int × qH)) (f_X10_readTerm : Int → qH → Option (Int × qH)) (f_X10_readSum : Int → qH → Option (Int × qH)) (f_X10_readUnit : Int → qH → Option (Int × qH)) (f_X10_readBoth : Int → qH → Option (Int × qH)) (f_X10_readTruth : Int → qH → Option (Int × qH)) (hf_X10_readAtom : ∀ (a1 : Int) (h : qH), qMet L xs yX10_readAtom cX10_readAtom 2 (none) 0 dd [qr 212, qi a1] h (f_X10_readAtom a1 h)) (hf_X10_readTerm : ∀ (a1 : Int) (h : qH), qMet L xs yX10_readTerm cX10_readTerm 2 (none) 0 dd [qr 212, qi a1] h (f_X10_readTerm a1 h)) (hf_X10_readSum : ∀ (a1 : Int) (h : qH), qMet L xs yX10_readSum cX10_readSum 3 (none) 0 dd [qr 212, qi a1] h (f_X10_readSum a1 h)) (hf_X10_readUnit : ∀ (a1 : Int) (h : qH), qMet L xs yX10_readUnit cX10_readUnit 3 (none) 0 dd [qr 212, qi a1] h (f_X10_readUnit a1 h)) (hf_X10_readBoth : ∀ (a1 : Int) (h : qH), qMet L xs yX10_readBoth cX10_readBoth 2 (none) 0 dd [qr 212, qi a1] h (f_X10_readBoth a1 h)) (hf_X10_readTruth : ∀ (a1 : Int) (h : qH), qMet L xs yX10_readTruth cX10_readTruth 2 (none) 0 dd [qr 212, qi a1] h (f_X10_readTruth a1 h)) (hdd : 9 ≤ dd) (a1 : Int) (h : qH) : qMet L xs yX10_readTruth cX10_readTruth 2 (none) 0 (dd + 1) [qr 212, qi a1] h (DX10_readTruth f_X10_readAtom f_X10_readTerm f_X10_readSum f_X10_readUnit f_X10_readBoth f_X10_readTruth a1 h) := by
  refine qMet.of (by decide +kernel) (Or.inl ⟨rfl, rfl⟩) (Nat.le_of_ble_eq_true rfl) ?_
  show qS L xs cX10_readTruth "BottlePostModel" 2 (dd + 1) 0 0 [(0, qr 212), (1, qi a1)] [] h (DX10_readTruth f_X10_readAtom f_X10_readTerm f_X10_readSum f_X10_readUnit f_X10_readBoth f_X10_readTruth a1 h)
  unfold DX10_readTruth
  refine S_aload_n 0 dX10_readTruth_0 rfl rfl rfl ?_
  refine S_iload_n 1 dX10_readTruth_1 rfl rfl rfl ?_
  refine S_callV_0 (as := [qi a1]) (st := []) (fun _ => rfl) (hf_X10_readBoth a1 h) yv_X10_readBoth tw_1449 qC_10 qk_212 (Nat.le_refl _) rfl rfl (Nat.le_of_ble_eq_true rfl) dX10_readTruth_2 rfl (fun r10 h11 e12 => ?_)
  exact TX10_readTruth_l5 f_X10_readAtom f_X10_readTerm f_X10_readSum f_X10_readUnit f_X10_readBoth f_X10_readTruth hf_X10_readAtom hf_X10_readTerm hf_X10_readSum hf_X10_readUnit hf_X10_readBoth hf_X10_readTruth hdd LF a1 h11
def DX10_readUnit_b151 (f_X10_readAtom : Int → qH → Option (Int × qH)) (f_X10_readTerm : Int → qH → Option (Int × qH)) (f_X10_readSum : Int → qH → Option (Int × qH)) (f_X10_readUnit : Int → qH → Option (Int × qH)) (f_X10_readBoth : Int → qH → Option (Int × qH)) (f_X10_readTruth : Int → qH → Option (Int × qH)) (a1 : Int) (a2 : Int) (h : qH) : Option (Int × qH) := (qbd (f_X10_readSum a1 h) fun r1 h2 => (qbd (DX10_codes a2 h2) fun r4 h5 => some (0, h5)))
set_option maxRecDepth 100000 in
theorem TX10_readUnit_b151 {L : Nat} {xs : Nat → Int32} {dd : Nat} (f_X10_readAtom : Int → qH → Option (Int × qH)) (f_X10_readTerm : Int → qH → Option (Int × qH)) (f_X10_readSum : Int → qH → Option (Int × qH)) (f_X10_readUnit : Int → qH → Option (Int × qH)) (f_X10_readBoth : Int → qH → Option (Int × qH)) (f_X10_readTruth : Int → qH → Option (Int × qH)) (hf_X10_readAtom : ∀ (a1 : Int) (h : qH), qMet L xs yX10_readAtom cX10_readAtom 2 (none) 0 dd [qr 212, qi a1] h (f_X10_readAtom a1 h)) (hf_X10_readTerm : ∀ (a1 : Int) (h : qH), qMet L xs yX10_readTerm cX10_readTerm 2 (none) 0 dd [qr 212, qi a1] h (f_X10_readTerm a1 h)) (hf_X10_readSum : ∀ (a1 : Int) (h : qH), qMet L xs yX10_readSum cX10_readSum 3 (none) 0 dd [qr 212, qi a1] h (f_X10_readSum a1 h)) (hf_X10_readUnit : ∀ (a1 : Int) (h : qH), qMet L xs yX10_readUnit cX10_readUnit 3 (none) 0 dd [qr 212, qi a1] h (f_X10_readUnit a1 h)) (hf_X10_readBoth : ∀ (a1 : Int) (h : qH), qMet L xs yX10_readBoth cX10_readBoth 2 (none) 0 dd [qr 212, qi a1] h (f_X10_readBoth a1 h)) (hf_X10_readTruth : ∀ (a1 : Int) (h : qH), qMet L xs yX10_readTruth cX10_readTruth 2 (none) 0 dd [qr 212, qi a1] h (f_X10_readTruth a1 h)) (hdd : 9 ≤ dd) (a1 : Int) (a2 : Int) (h : qH) : qS L xs cX10_readUnit "BottlePostModel" 3 (dd + 1) 0 151 [(0, qr 212), (1, qi a1), (2, qi a2)] [] h (DX10_readUnit_b151 f_X10_readAtom f_X10_readTerm f_X10_readSum f_X10_readUnit f_X10_readBoth f_X10_readTruth a1 a2 h) := by
  unfold DX10_readUnit_b151
  refine S_aload_n 0 dX10_readUnit_151 rfl rfl rfl ?_
  refine S_iload_n 1 dX10_readUnit_152 rfl rfl rfl ?_
  refine S_callV_0 (as := [qi a1]) (st := []) (fun _ => rfl) (hf_X10_readSum a1 h) yv_X10_readSum tw_1419 qC_10 qk_212 (Nat.le_refl _) rfl rfl (Nat.le_of_ble_eq_true rfl) dX10_readUnit_153 rfl (fun r1 h2 e3 => ?_)
  refine S_aload_n 0 dX10_readUnit_156 rfl rfl rfl ?_
  refine S_iload_n 2 dX10_readUnit_157 rfl rfl rfl ?_
  refine S_callV_0 (as := [qi a2]) (st := []) (fun _ => rfl) (TX10_codes a2 h2) yv_X10_codes tw_1431 qC_10 qk_212 (by omega) rfl rfl (Nat.le_of_ble_eq_true rfl) dX10_readUnit_158 rfl (fun r4 h5 e6 => ?_)
  exact S_vret dX10_readUnit_161
def DX10_readUnit_b111 (f_X10_readAtom : Int → qH → Option (Int × qH)) (f_X10_readTerm : Int → qH → Option (Int × qH)) (f_X10_readSum : Int → qH → Option (Int × qH)) (f_X10_readUnit : Int → qH → Option (Int × qH)) (f_X10_readBoth : Int → qH → Option (Int × qH)) (f_X10_readTruth : Int → qH → Option (Int × qH)) (a1 : Int) (b0 : Int) (h : qH) : Option (Int × qH) := (qbd (DX10_is 49 h) fun r7 h8 => (if ¬ r7 = 0 then (qbd (DX10_next h8) fun r10 h11 => (DX10_readUnit_b151 f_X10_readAtom f_X10_readTerm f_X10_readSum f_X10_readUnit f_X10_readBoth f_X10_readTruth a1 b0 h11)) else (qbd (DX10_is 50 h8) fun r13 h14 => (if ¬ r13 = 0 then (qbd (DX10_next h14) fun r16 h17 => (DX10_readUnit_b151 f_X10_readAtom f_X10_readTerm f_X10_readSum f_X10_readUnit f_X10_readBoth f_X10_readTruth a1 b0 h17)) else (qbd (DX10_is 51 h14) fun r19 h20 => (if r19 = 0 then (qbd (DX10_fails 2 h20) fun r22 h23 => (DX10_readUnit_b151 f_X10_readAtom f_X10_readTerm f_X10_readSum f_X10_readUnit f_X10_readBoth f_X10_readTruth a1 b0 h23)) else (qbd (DX10_next h20) fun r25 h26 => (DX10_readUnit_b151 f_X10_readAtom f_X10_readTerm f_X10_readSum f_X10_readUnit f_X10_readBoth f_X10_readTruth a1 b0 h26))))))))
set_option maxRecDepth 100000 in
theorem TX10_readUnit_b111 {L : Nat} {xs : Nat → Int32} {dd : Nat} (f_X10_readAtom : Int → qH → Option (Int × qH)) (f_X10_readTerm : Int → qH → Option (Int × qH)) (f_X10_readSum : Int → qH → Option (Int × qH)) (f_X10_readUnit : Int → qH → Option (Int × qH)) (f_X10_readBoth : Int → qH → Option (Int × qH)) (f_X10_readTruth : Int → qH → Option (Int × qH)) (hf_X10_readAtom : ∀ (a1 : Int) (h : qH), qMet L xs yX10_readAtom cX10_readAtom 2 (none) 0 dd [qr 212, qi a1] h (f_X10_readAtom a1 h)) (hf_X10_readTerm : ∀ (a1 : Int) (h : qH), qMet L xs yX10_readTerm cX10_readTerm 2 (none) 0 dd [qr 212, qi a1] h (f_X10_readTerm a1 h)) (hf_X10_readSum : ∀ (a1 : Int) (h : qH), qMet L xs yX10_readSum cX10_readSum 3 (none) 0 dd [qr 212, qi a1] h (f_X10_readSum a1 h)) (hf_X10_readUnit : ∀ (a1 : Int) (h : qH), qMet L xs yX10_readUnit cX10_readUnit 3 (none) 0 dd [qr 212, qi a1] h (f_X10_readUnit a1 h)) (hf_X10_readBoth : ∀ (a1 : Int) (h : qH), qMet L xs yX10_readBoth cX10_readBoth 2 (none) 0 dd [qr 212, qi a1] h (f_X10_readBoth a1 h)) (hf_X10_readTruth : ∀ (a1 : Int) (h : qH), qMet L xs yX10_readTruth cX10_readTruth 2 (none) 0 dd [qr 212, qi a1] h (f_X10_readTruth a1 h)) (hdd : 9 ≤ dd) (a1 : Int) (b0 : Int) (h : qH) : qS L xs cX10_readUnit "BottlePostModel" 3 (dd + 1) 0 111 [(0, qr 212), (1, qi a1)] [qi b0] h (DX10_readUnit_b111 f_X10_readAtom f_X10_readTerm f_X10_readSum f_X10_readUnit f_X10_readBoth f_X10_readTruth a1 b0 h) := by
  unfold DX10_readUnit_b111
  refine S_istore_n (lv' := [(2, qi b0), (0, qr 212), (1, qi a1)]) dX10_readUnit_111 rfl (by decide) rfl rfl ?_
  refine S_aload_n 1 dX10_readUnit_112 rfl rfl rfl ?_
  refine S_bipush (a := 49) dX10_readUnit_113 rfl (by decide) (by decide) ?_
  refine S_callV_i (as := [qi 49]) (st := []) (fun _ => rfl) (TX10_is 49 h) yv_X10_is tw_1381 qC_10 qk_212 (by omega) rfl rfl (Nat.le_of_ble_eq_true rfl) dX10_readUnit_115 rfl (fun r7 h8 e9 => ?_)
  refine S_if_ne (tgt := 139) dX10_readUnit_118 (by decide) rfl (fun _ => ?_) (fun _ => ?_)
  · refine S_aload_n 1 dX10_readUnit_139 rfl rfl rfl ?_
    refine S_callV_0 (as := []) (st := []) (fun _ => rfl) (TX10_next h8) yv_X10_next tw_1355 qC_10 qk_212 (by omega) rfl rfl (Nat.le_of_ble_eq_true rfl) dX10_readUnit_140 rfl (fun r10 h11 e12 => ?_)
    refine S_goto (pc' := 151) dX10_readUnit_143 (by decide) ?_
    refine S_sub [1, 2, 0] rfl ?_
    exact TX10_readUnit_b151 f_X10_readAtom f_X10_readTerm f_X10_readSum f_X10_readUnit f_X10_readBoth f_X10_readTruth hf_X10_readAtom hf_X10_readTerm hf_X10_readSum hf_X10_readUnit hf_X10_readBoth hf_X10_readTruth hdd a1 b0 h11
  · refine S_aload_n 1 dX10_readUnit_121 rfl rfl rfl ?_
    refine S_bipush (a := 50) dX10_readUnit_122 rfl (by decide) (by decide) ?_
    refine S_callV_i (as := [qi 50]) (st := []) (fun _ => rfl) (TX10_is 50 h8) yv_X10_is tw_1381 qC_10 qk_212 (by omega) rfl rfl (Nat.le_of_ble_eq_true rfl) dX10_readUnit_124 rfl (fun r13 h14 e15 => ?_)
    refine S_if_ne (tgt := 139) dX10_readUnit_127 (by decide) rfl (fun _ => ?_) (fun _ => ?_)
    · refine S_aload_n 1 dX10_readUnit_139 rfl rfl rfl ?_
      refine S_callV_0 (as := []) (st := []) (fun _ => rfl) (TX10_next h14) yv_X10_next tw_1355 qC_10 qk_212 (by omega) rfl rfl (Nat.le_of_ble_eq_true rfl) dX10_readUnit_140 rfl (fun r16 h17 e18 => ?_)
      refine S_goto (pc' := 151) dX10_readUnit_143 (by decide) ?_
      refine S_sub [1, 2, 0] rfl ?_
      exact TX10_readUnit_b151 f_X10_readAtom f_X10_readTerm f_X10_readSum f_X10_readUnit f_X10_readBoth f_X10_readTruth hf_X10_readAtom hf_X10_readTerm hf_X10_readSum hf_X10_readUnit hf_X10_readBoth hf_X10_readTruth hdd a1 b0 h17
    · refine S_aload_n 1 dX10_readUnit_130 rfl rfl rfl ?_
      refine S_bipush (a := 51) dX10_readUnit_131 rfl (by decide) (by decide) ?_
      refine S_callV_i (as := [qi 51]) (st := []) (fun _ => rfl) (TX10_is 51 h14) yv_X10_is tw_1381 qC_10 qk_212 (by omega) rfl rfl (Nat.le_of_ble_eq_true rfl) dX10_readUnit_133 rfl (fun r19 h20 e21 => ?_)
      refine S_if_eq (tgt := 146) dX10_readUnit_136 (by decide) rfl (fun _ => ?_) (fun _ => ?_)
      · refine S_aload_n 1 dX10_readUnit_146 rfl rfl rfl ?_
        refine S_iconst (a := 2) dX10_readUnit_147 rfl (by decide) ?_
        refine S_callV_0 (as := [qi 2]) (st := []) (fun _ => rfl) (TX10_fails 2 h20) yv_X10_fails tw_1385 qC_10 qk_212 (by omega) rfl rfl (Nat.le_of_ble_eq_true rfl) dX10_readUnit_148 rfl (fun r22 h23 e24 => ?_)
        refine S_sub [1, 2, 0] rfl ?_
        exact TX10_readUnit_b151 f_X10_readAtom f_X10_readTerm f_X10_readSum f_X10_readUnit f_X10_readBoth f_X10_readTruth hf_X10_readAtom hf_X10_readTerm hf_X10_readSum hf_X10_readUnit hf_X10_readBoth hf_X10_readTruth hdd a1 b0 h23
      · refine S_aload_n 1 dX10_readUnit_139 rfl rfl rfl ?_
        refine S_callV_0 (as := []) (st := []) (fun _ => rfl) (TX10_next h20) yv_X10_next tw_1355 qC_10 qk_212 (by omega) rfl rfl (Nat.le_of_ble_eq_true rfl) dX10_readUnit_140 rfl (fun r25 h26 e27 => ?_)
        refine S_goto (pc' := 151) dX10_readUnit_143 (by decide) ?_
        refine S_sub [1, 2, 0] rfl ?_
        exact TX10_readUnit_b151 f_X10_readAtom f_X10_readTerm f_X10_readSum f_X10_readUnit f_X10_readBoth f_X10_readTruth hf_X10_readAtom hf_X10_readTerm hf_X10_readSum hf_X10_readUnit hf_X10_readBoth hf_X10_readTruth hdd a1 b0 h26
def DX10_readUnit (f_X10_readAtom : Int → qH → Option (Int × qH)) (f_X10_readTerm : Int → qH → Option (Int × qH)) (f_X10_readSum : Int → qH → Option (Int × qH)) (f_X10_readUnit : Int → qH → Option (Int × qH)) (f_X10_readBoth : Int → qH → Option (Int × qH)) (f_X10_readTruth : Int → qH → Option (Int × qH)) (a1 : Int) (h : qH) : Option (Int × qH) := (qbd (DX10_is 18 h) fun r28 h29 => (if r28 = 0 then (qbd (DX10_is 47 h29) fun r31 h32 => (if r31 = 0 then (qbd (f_X10_readSum a1 h32) fun r34 h35 => (qbd (DX10_is 49 h35) fun r37 h38 => (if r37 = 0 then (qbd (DX10_is 50 h38) fun r40 h41 => (if r40 = 0 then (DX10_readUnit_b111 f_X10_readAtom f_X10_readTerm f_X10_readSum f_X10_readUnit f_X10_readBoth f_X10_readTruth a1 3005 h41) else (DX10_readUnit_b111 f_X10_readAtom f_X10_readTerm f_X10_readSum f_X10_readUnit f_X10_readBoth f_X10_readTruth a1 3004 h41))) else (DX10_readUnit_b111 f_X10_readAtom f_X10_readTerm f_X10_readSum f_X10_readUnit f_X10_readBoth f_X10_readTruth a1 3003 h38)))) else (qbd (DX10_goesIn a1 h32) fun r43 h44 => (if ¬ r43 = 0 then (qbd (f_X10_readTruth (qw (a1 + 1)) h44) fun r46 h47 => (qbd (DX10_eats 48 h47) fun r49 h50 => (if ¬ r49 = 0 then some (0, h50) else (qbd (DX10_fails 2 h50) fun r52 h53 => some (0, h53))))) else some (0, h44))))) else (qbd (DX10_goesIn a1 h29) fun r55 h56 => (if ¬ r55 = 0 then (qbd (f_X10_readUnit (qw (a1 + 1)) h56) fun r58 h59 => (qbd (DX10_codes 3008 h59) fun r61 h62 => some (0, h62))) else some (0, h56)))))
set_option maxRecDepth 100000 in
theorem TX10_readUnit {L : Nat} {xs : Nat → Int32} {dd : Nat} (f_X10_readAtom : Int → qH → Option (Int × qH)) (f_X10_readTerm : Int → qH → Option (Int × qH)) (f_X10_readSum : Int → qH → Option (Int × qH)) (f_X10_readUnit : Int → qH → Option (Int × qH)) (f_X10_readBoth : Int → qH → Option (Int × qH)) (f_X10_readTruth : Int → qH → Option (Int × qH)) (hf_X10_readAtom : ∀ (a1 : Int) (h : qH), qMet L xs yX10_readAtom cX10_readAtom 2 (none) 0 dd [qr 212, qi a1] h (f_X10_readAtom a1 h)) (hf_X10_readTerm : ∀ (a1 : Int) (h : qH), qMet L xs yX10_readTerm cX10_readTerm 2 (none) 0 dd [qr 212, qi a1] h (f_X10_readTerm a1 h)) (hf_X10_readSum : ∀ (a1 : Int) (h : qH), qMet L xs yX10_readSum cX10_readSum 3 (none) 0 dd [qr 212, qi a1] h (f_X10_readSum a1 h)) (hf_X10_readUnit : ∀ (a1 : Int) (h : qH), qMet L xs yX10_readUnit cX10_readUnit 3 (none) 0 dd [qr 212, qi a1] h (f_X10_readUnit a1 h)) (hf_X10_readBoth : ∀ (a1 : Int) (h : qH), qMet L xs yX10_readBoth cX10_readBoth 2 (none) 0 dd [qr 212, qi a1] h (f_X10_readBoth a1 h)) (hf_X10_readTruth : ∀ (a1 : Int) (h : qH), qMet L xs yX10_readTruth cX10_readTruth 2 (none) 0 dd [qr 212, qi a1] h (f_X10_readTruth a1 h)) (hdd : 9 ≤ dd) (a1 : Int) (h : qH) : qMet L xs yX10_readUnit cX10_readUnit 3 (none) 0 (dd + 1) [qr 212, qi a1] h (DX10_readUnit f_X10_readAtom f_X10_readTerm f_X10_readSum f_X10_readUnit f_X10_readBoth f_X10_readTruth a1 h) := by
  refine qMet.of (by decide +kernel) (Or.inl ⟨rfl, rfl⟩) (Nat.le_of_ble_eq_true rfl) ?_
  show qS L xs cX10_readUnit "BottlePostModel" 3 (dd + 1) 0 0 [(0, qr 212), (1, qi a1)] [] h (DX10_readUnit f_X10_readAtom f_X10_readTerm f_X10_readSum f_X10_readUnit f_X10_readBoth f_X10_readTruth a1 h)
  unfold DX10_readUnit
  refine S_aload_n 0 dX10_readUnit_0 rfl rfl rfl ?_
  refine S_bipush (a := 18) dX10_readUnit_1 rfl (by decide) (by decide) ?_
  refine S_callV_i (as := [qi 18]) (st := []) (fun _ => rfl) (TX10_is 18 h) yv_X10_is tw_1381 qC_10 qk_212 (by omega) rfl rfl (Nat.le_of_ble_eq_true rfl) dX10_readUnit_3 rfl (fun r28 h29 e30 => ?_)
  refine S_if_eq (tgt := 33) dX10_readUnit_6 (by decide) rfl (fun _ => ?_) (fun _ => ?_)
  · refine S_aload_n 0 dX10_readUnit_33 rfl rfl rfl ?_
    refine S_bipush (a := 47) dX10_readUnit_34 rfl (by decide) (by decide) ?_
    refine S_callV_i (as := [qi 47]) (st := []) (fun _ => rfl) (TX10_is 47 h29) yv_X10_is tw_1381 qC_10 qk_212 (by omega) rfl rfl (Nat.le_of_ble_eq_true rfl) dX10_readUnit_36 rfl (fun r31 h32 e33 => ?_)
    refine S_if_eq (tgt := 73) dX10_readUnit_39 (by decide) rfl (fun _ => ?_) (fun _ => ?_)
    · refine S_aload_n 0 dX10_readUnit_73 rfl rfl rfl ?_
      refine S_iload_n 1 dX10_readUnit_74 rfl rfl rfl ?_
      refine S_callV_0 (as := [qi a1]) (st := []) (fun _ => rfl) (hf_X10_readSum a1 h32) yv_X10_readSum tw_1419 qC_10 qk_212 (Nat.le_refl _) rfl rfl (Nat.le_of_ble_eq_true rfl) dX10_readUnit_75 rfl (fun r34 h35 e36 => ?_)
      refine S_aload_n 0 dX10_readUnit_78 rfl rfl rfl ?_
      refine S_bipush (a := 49) dX10_readUnit_79 rfl (by decide) (by decide) ?_
      refine S_callV_i (as := [qi 49]) (st := []) (fun _ => rfl) (TX10_is 49 h35) yv_X10_is tw_1381 qC_10 qk_212 (by omega) rfl rfl (Nat.le_of_ble_eq_true rfl) dX10_readUnit_81 rfl (fun r37 h38 e39 => ?_)
      refine S_if_eq (tgt := 93) dX10_readUnit_84 (by decide) rfl (fun _ => ?_) (fun _ => ?_)
      · refine S_aload_n 0 dX10_readUnit_93 rfl rfl rfl ?_
        refine S_bipush (a := 50) dX10_readUnit_94 rfl (by decide) (by decide) ?_
        refine S_callV_i (as := [qi 50]) (st := []) (fun _ => rfl) (TX10_is 50 h38) yv_X10_is tw_1381 qC_10 qk_212 (by omega) rfl rfl (Nat.le_of_ble_eq_true rfl) dX10_readUnit_96 rfl (fun r40 h41 e42 => ?_)
        refine S_if_eq (tgt := 108) dX10_readUnit_99 (by decide) rfl (fun _ => ?_) (fun _ => ?_)
        · refine S_sipush (a := 3005) dX10_readUnit_108 rfl (by decide) (by decide) ?_
          exact TX10_readUnit_b111 f_X10_readAtom f_X10_readTerm f_X10_readSum f_X10_readUnit f_X10_readBoth f_X10_readTruth hf_X10_readAtom hf_X10_readTerm hf_X10_readSum hf_X10_readUnit hf_X10_readBoth hf_X10_readTruth hdd a1 3005 h41
        · refine S_sipush (a := 3004) dX10_readUnit_102 rfl (by decide) (by decide) ?_
          refine S_goto (pc' := 111) dX10_readUnit_105 (by decide) ?_
          exact TX10_readUnit_b111 f_X10_readAtom f_X10_readTerm f_X10_readSum f_X10_readUnit f_X10_readBoth f_X10_readTruth hf_X10_readAtom hf_X10_readTerm hf_X10_readSum hf_X10_readUnit hf_X10_readBoth hf_X10_readTruth hdd a1 3004 h41
      · refine S_sipush (a := 3003) dX10_readUnit_87 rfl (by decide) (by decide) ?_
        refine S_goto (pc' := 111) dX10_readUnit_90 (by decide) ?_
        exact TX10_readUnit_b111 f_X10_readAtom f_X10_readTerm f_X10_readSum f_X10_readUnit f_X10_readBoth f_X10_readTruth hf_X10_readAtom hf_X10_readTerm hf_X10_readSum hf_X10_readUnit hf_X10_readBoth hf_X10_readTruth hdd a1 3003 h38
    · refine S_aload_n 0 dX10_readUnit_42 rfl rfl rfl ?_
      refine S_iload_n 1 dX10_readUnit_43 rfl rfl rfl ?_
      refine S_callV_i (as := [qi a1]) (st := []) (fun _ => rfl) (TX10_goesIn a1 h32) yv_X10_goesIn tw_1441 qC_10 qk_212 (by omega) rfl rfl (Nat.le_of_ble_eq_true rfl) dX10_readUnit_44 rfl (fun r43 h44 e45 => ?_)
      refine S_if_ne (tgt := 51) dX10_readUnit_47 (by decide) rfl (fun _ => ?_) (fun _ => ?_)
      · refine S_aload_n 0 dX10_readUnit_51 rfl rfl rfl ?_
        refine S_iload_n 1 dX10_readUnit_52 rfl rfl rfl ?_
        refine S_iconst (a := 1) dX10_readUnit_53 rfl (by decide) ?_
        refine S_iadd dX10_readUnit_54 rfl ?_
        refine S_callV_0 (as := [qi (qw (a1 + 1))]) (st := []) (fun _ => rfl) (hf_X10_readTruth (qw (a1 + 1)) h44) yv_X10_readTruth tw_1445 qC_10 qk_212 (Nat.le_refl _) rfl rfl (Nat.le_of_ble_eq_true rfl) dX10_readUnit_55 rfl (fun r46 h47 e48 => ?_)
        refine S_aload_n 0 dX10_readUnit_58 rfl rfl rfl ?_
        refine S_bipush (a := 48) dX10_readUnit_59 rfl (by decide) (by decide) ?_
        refine S_callV_i (as := [qi 48]) (st := []) (fun _ => rfl) (TX10_eats 48 h47) yv_X10_eats tw_1377 qC_10 qk_212 (by omega) rfl rfl (Nat.le_of_ble_eq_true rfl) dX10_readUnit_61 rfl (fun r49 h50 e51 => ?_)
        refine S_if_ne (tgt := 72) dX10_readUnit_64 (by decide) rfl (fun _ => ?_) (fun _ => ?_)
        · exact S_vret dX10_readUnit_72
        · refine S_aload_n 0 dX10_readUnit_67 rfl rfl rfl ?_
          refine S_iconst (a := 2) dX10_readUnit_68 rfl (by decide) ?_
          refine S_callV_0 (as := [qi 2]) (st := []) (fun _ => rfl) (TX10_fails 2 h50) yv_X10_fails tw_1385 qC_10 qk_212 (by omega) rfl rfl (Nat.le_of_ble_eq_true rfl) dX10_readUnit_69 rfl (fun r52 h53 e54 => ?_)
          exact S_vret dX10_readUnit_72
      · exact S_vret dX10_readUnit_50
  · refine S_aload_n 0 dX10_readUnit_9 rfl rfl rfl ?_
    refine S_iload_n 1 dX10_readUnit_10 rfl rfl rfl ?_
    refine S_callV_i (as := [qi a1]) (st := []) (fun _ => rfl) (TX10_goesIn a1 h29) yv_X10_goesIn tw_1441 qC_10 qk_212 (by omega) rfl rfl (Nat.le_of_ble_eq_true rfl) dX10_readUnit_11 rfl (fun r55 h56 e57 => ?_)
    refine S_if_ne (tgt := 18) dX10_readUnit_14 (by decide) rfl (fun _ => ?_) (fun _ => ?_)
    · refine S_aload_n 0 dX10_readUnit_18 rfl rfl rfl ?_
      refine S_iload_n 1 dX10_readUnit_19 rfl rfl rfl ?_
      refine S_iconst (a := 1) dX10_readUnit_20 rfl (by decide) ?_
      refine S_iadd dX10_readUnit_21 rfl ?_
      refine S_callV_0 (as := [qi (qw (a1 + 1))]) (st := []) (fun _ => rfl) (hf_X10_readUnit (qw (a1 + 1)) h56) yv_X10_readUnit tw_1453 qC_10 qk_212 (Nat.le_refl _) rfl rfl (Nat.le_of_ble_eq_true rfl) dX10_readUnit_22 rfl (fun r58 h59 e60 => ?_)
      refine S_aload_n 0 dX10_readUnit_25 rfl rfl rfl ?_
      refine S_sipush (a := 3008) dX10_readUnit_26 rfl (by decide) (by decide) ?_
      refine S_callV_0 (as := [qi 3008]) (st := []) (fun _ => rfl) (TX10_codes 3008 h59) yv_X10_codes tw_1431 qC_10 qk_212 (by omega) rfl rfl (Nat.le_of_ble_eq_true rfl) dX10_readUnit_29 rfl (fun r61 h62 e63 => ?_)
      exact S_vret dX10_readUnit_32
    · exact S_vret dX10_readUnit_17
def DX10_readBoth_l5 (f_X10_readAtom : Int → qH → Option (Int × qH)) (f_X10_readTerm : Int → qH → Option (Int × qH)) (f_X10_readSum : Int → qH → Option (Int × qH)) (f_X10_readUnit : Int → qH → Option (Int × qH)) (f_X10_readBoth : Int → qH → Option (Int × qH)) (f_X10_readTruth : Int → qH → Option (Int × qH)) : Nat → Int → qH → Option (Int × qH)
  | 0, _, _ => none
  | n + 1, a1, h => (qbd (DX10_eats 17 h) fun r1 h2 => (if r1 = 0 then some (0, h2) else (qbd (f_X10_readUnit a1 h2) fun r4 h5 => (qbd (DX10_codes 3006 h5) fun r7 h8 => ((DX10_readBoth_l5 f_X10_readAtom f_X10_readTerm f_X10_readSum f_X10_readUnit f_X10_readBoth f_X10_readTruth n) a1 h8)))))
set_option maxRecDepth 100000 in
theorem TX10_readBoth_l5 {L : Nat} {xs : Nat → Int32} {dd : Nat} (f_X10_readAtom : Int → qH → Option (Int × qH)) (f_X10_readTerm : Int → qH → Option (Int × qH)) (f_X10_readSum : Int → qH → Option (Int × qH)) (f_X10_readUnit : Int → qH → Option (Int × qH)) (f_X10_readBoth : Int → qH → Option (Int × qH)) (f_X10_readTruth : Int → qH → Option (Int × qH)) (hf_X10_readAtom : ∀ (a1 : Int) (h : qH), qMet L xs yX10_readAtom cX10_readAtom 2 (none) 0 dd [qr 212, qi a1] h (f_X10_readAtom a1 h)) (hf_X10_readTerm : ∀ (a1 : Int) (h : qH), qMet L xs yX10_readTerm cX10_readTerm 2 (none) 0 dd [qr 212, qi a1] h (f_X10_readTerm a1 h)) (hf_X10_readSum : ∀ (a1 : Int) (h : qH), qMet L xs yX10_readSum cX10_readSum 3 (none) 0 dd [qr 212, qi a1] h (f_X10_readSum a1 h)) (hf_X10_readUnit : ∀ (a1 : Int) (h : qH), qMet L xs yX10_readUnit cX10_readUnit 3 (none) 0 dd [qr 212, qi a1] h (f_X10_readUnit a1 h)) (hf_X10_readBoth : ∀ (a1 : Int) (h : qH), qMet L xs yX10_readBoth cX10_readBoth 2 (none) 0 dd [qr 212, qi a1] h (f_X10_readBoth a1 h)) (hf_X10_readTruth : ∀ (a1 : Int) (h : qH), qMet L xs yX10_readTruth cX10_readTruth 2 (none) 0 dd [qr 212, qi a1] h (f_X10_readTruth a1 h)) (hdd : 9 ≤ dd) : ∀ (n : Nat) (a1 : Int) (h : qH), qS L xs cX10_readBoth "BottlePostModel" 2 (dd + 1) 0 5 [(0, qr 212), (1, qi a1)] [] h (DX10_readBoth_l5 f_X10_readAtom f_X10_readTerm f_X10_readSum f_X10_readUnit f_X10_readBoth f_X10_readTruth n a1 h) := by
  intro n
  induction n with
  | zero =>
    intro a1 h
    exact S_none
  | succ n ih =>
    intro a1 h
    rw [DX10_readBoth_l5.eq_2]
    refine S_aload_n 0 dX10_readBoth_5 rfl rfl rfl ?_
    refine S_bipush (a := 17) dX10_readBoth_6 rfl (by decide) (by decide) ?_
    refine S_callV_i (as := [qi 17]) (st := []) (fun _ => rfl) (TX10_eats 17 h) yv_X10_eats tw_1377 qC_10 qk_212 (by omega) rfl rfl (Nat.le_of_ble_eq_true rfl) dX10_readBoth_8 rfl (fun r1 h2 e3 => ?_)
    refine S_if_eq (tgt := 29) dX10_readBoth_11 (by decide) rfl (fun _ => ?_) (fun _ => ?_)
    · exact S_vret dX10_readBoth_29
    · refine S_aload_n 0 dX10_readBoth_14 rfl rfl rfl ?_
      refine S_iload_n 1 dX10_readBoth_15 rfl rfl rfl ?_
      refine S_callV_0 (as := [qi a1]) (st := []) (fun _ => rfl) (hf_X10_readUnit a1 h2) yv_X10_readUnit tw_1453 qC_10 qk_212 (Nat.le_refl _) rfl rfl (Nat.le_of_ble_eq_true rfl) dX10_readBoth_16 rfl (fun r4 h5 e6 => ?_)
      refine S_aload_n 0 dX10_readBoth_19 rfl rfl rfl ?_
      refine S_sipush (a := 3006) dX10_readBoth_20 rfl (by decide) (by decide) ?_
      refine S_callV_0 (as := [qi 3006]) (st := []) (fun _ => rfl) (TX10_codes 3006 h5) yv_X10_codes tw_1431 qC_10 qk_212 (by omega) rfl rfl (Nat.le_of_ble_eq_true rfl) dX10_readBoth_23 rfl (fun r7 h8 e9 => ?_)
      refine S_goto (pc' := 5) dX10_readBoth_26 (by decide) ?_
      exact ih a1 h8
def DX10_readBoth (f_X10_readAtom : Int → qH → Option (Int × qH)) (f_X10_readTerm : Int → qH → Option (Int × qH)) (f_X10_readSum : Int → qH → Option (Int × qH)) (f_X10_readUnit : Int → qH → Option (Int × qH)) (f_X10_readBoth : Int → qH → Option (Int × qH)) (f_X10_readTruth : Int → qH → Option (Int × qH)) (a1 : Int) (h : qH) : Option (Int × qH) := (qbd (f_X10_readUnit a1 h) fun r10 h11 => (DX10_readBoth_l5 f_X10_readAtom f_X10_readTerm f_X10_readSum f_X10_readUnit f_X10_readBoth f_X10_readTruth LF a1 h11))
set_option maxRecDepth 100000 in
theorem TX10_readBoth {L : Nat} {xs : Nat → Int32} {dd : Nat} (f_X10_readAtom : Int → qH → Option (Int × qH)) (f_X10_readTerm : Int → qH → Option (Int × qH)) (f_X10_readSum : Int → qH → Option (Int × qH)) (f_X10_readUnit : Int → qH → Option (Int × qH)) (f_X10_readBoth : Int → qH → Option (Int × qH)) (f_X10_readTruth : Int → qH → Option (Int × qH)) (hf_X10_readAtom : ∀ (a1 : Int) (h : qH), qMet L xs yX10_readAtom cX10_readAtom 2 (none) 0 dd [qr 212, qi a1] h (f_X10_readAtom a1 h)) (hf_X10_readTerm : ∀ (a1 : Int) (h : qH), qMet L xs yX10_readTerm cX10_readTerm 2 (none) 0 dd [qr 212, qi a1] h (f_X10_readTerm a1 h)) (hf_X10_readSum : ∀ (a1 : Int) (h : qH), qMet L xs yX10_readSum cX10_readSum 3 (none) 0 dd [qr 212, qi a1] h (f_X10_readSum a1 h)) (hf_X10_readUnit : ∀ (a1 : Int) (h : qH), qMet L xs yX10_readUnit cX10_readUnit 3 (none) 0 dd [qr 212, qi a1] h (f_X10_readUnit a1 h)) (hf_X10_readBoth : ∀ (a1 : Int) (h : qH), qMet L xs yX10_readBoth cX10_readBoth 2 (none) 0 dd [qr 212, qi a1] h (f_X10_readBoth a1 h)) (hf_X10_readTruth : ∀ (a1 : Int) (h : qH), qMet L xs yX10_readTruth cX10_readTruth 2 (none) 0 dd [qr 212, qi a1] h (f_X10_readTruth a1 h)) (hdd : 9 ≤ dd) (a1 : Int) (h : qH) : qMet L xs yX10_readBoth cX10_readBoth 2 (none) 0 (dd + 1) [qr 212, qi a1] h (DX10_readBoth f_X10_readAtom f_X10_readTerm f_X10_readSum f_X10_readUnit f_X10_readBoth f_X10_readTruth a1 h) := by
  refine qMet.of (by decide +kernel) (Or.inl ⟨rfl, rfl⟩) (Nat.le_of_ble_eq_true rfl) ?_
  show qS L xs cX10_readBoth "BottlePostModel" 2 (dd + 1) 0 0 [(0, qr 212), (1, qi a1)] [] h (DX10_readBoth f_X10_readAtom f_X10_readTerm f_X10_readSum f_X10_readUnit f_X10_readBoth f_X10_readTruth a1 h)
  unfold DX10_readBoth
  refine S_aload_n 0 dX10_readBoth_0 rfl rfl rfl ?_
  refine S_iload_n 1 dX10_readBoth_1 rfl rfl rfl ?_
  refine S_callV_0 (as := [qi a1]) (st := []) (fun _ => rfl) (hf_X10_readUnit a1 h) yv_X10_readUnit tw_1453 qC_10 qk_212 (Nat.le_refl _) rfl rfl (Nat.le_of_ble_eq_true rfl) dX10_readBoth_2 rfl (fun r10 h11 e12 => ?_)
  exact TX10_readBoth_l5 f_X10_readAtom f_X10_readTerm f_X10_readSum f_X10_readUnit f_X10_readBoth f_X10_readTruth hf_X10_readAtom hf_X10_readTerm hf_X10_readSum hf_X10_readUnit hf_X10_readBoth hf_X10_readTruth hdd LF a1 h11
def RX10g : Nat → Nat → Int → qH → Option (Int × qH)
  | 0, _, _, _ => none
  | n + 1, k, a, h => if k = 0 then DX10_readAtom (fun a h => RX10g n 0 a h) (fun a h => RX10g n 1 a h) (fun a h => RX10g n 2 a h) (fun a h => RX10g n 3 a h) (fun a h => RX10g n 4 a h) (fun a h => RX10g n 5 a h) a h else if k = 1 then DX10_readTerm (fun a h => RX10g n 0 a h) (fun a h => RX10g n 1 a h) (fun a h => RX10g n 2 a h) (fun a h => RX10g n 3 a h) (fun a h => RX10g n 4 a h) (fun a h => RX10g n 5 a h) a h else if k = 2 then DX10_readSum (fun a h => RX10g n 0 a h) (fun a h => RX10g n 1 a h) (fun a h => RX10g n 2 a h) (fun a h => RX10g n 3 a h) (fun a h => RX10g n 4 a h) (fun a h => RX10g n 5 a h) a h else if k = 3 then DX10_readUnit (fun a h => RX10g n 0 a h) (fun a h => RX10g n 1 a h) (fun a h => RX10g n 2 a h) (fun a h => RX10g n 3 a h) (fun a h => RX10g n 4 a h) (fun a h => RX10g n 5 a h) a h else if k = 4 then DX10_readBoth (fun a h => RX10g n 0 a h) (fun a h => RX10g n 1 a h) (fun a h => RX10g n 2 a h) (fun a h => RX10g n 3 a h) (fun a h => RX10g n 4 a h) (fun a h => RX10g n 5 a h) a h else DX10_readTruth (fun a h => RX10g n 0 a h) (fun a h => RX10g n 1 a h) (fun a h => RX10g n 2 a h) (fun a h => RX10g n 3 a h) (fun a h => RX10g n 4 a h) (fun a h => RX10g n 5 a h) a h
set_option maxRecDepth 100000 in
theorem TRX10g {L : Nat} {xs : Nat → Int32} : ∀ n : Nat, (∀ (a : Int) (h : qH), qMet L xs yX10_readAtom cX10_readAtom 2 (none) 0 (9 + n) [qr 212, qi a] h (RX10g n 0 a h)) ∧ (∀ (a : Int) (h : qH), qMet L xs yX10_readTerm cX10_readTerm 2 (none) 0 (9 + n) [qr 212, qi a] h (RX10g n 1 a h)) ∧ (∀ (a : Int) (h : qH), qMet L xs yX10_readSum cX10_readSum 3 (none) 0 (9 + n) [qr 212, qi a] h (RX10g n 2 a h)) ∧ (∀ (a : Int) (h : qH), qMet L xs yX10_readUnit cX10_readUnit 3 (none) 0 (9 + n) [qr 212, qi a] h (RX10g n 3 a h)) ∧ (∀ (a : Int) (h : qH), qMet L xs yX10_readBoth cX10_readBoth 2 (none) 0 (9 + n) [qr 212, qi a] h (RX10g n 4 a h)) ∧ (∀ (a : Int) (h : qH), qMet L xs yX10_readTruth cX10_readTruth 2 (none) 0 (9 + n) [qr 212, qi a] h (RX10g n 5 a h)) := by
  intro n
  induction n with
  | zero => exact ⟨fun _ h => fun _ _ hx => (by cases hx), fun _ h => fun _ _ hx => (by cases hx), fun _ h => fun _ _ hx => (by cases hx), fun _ h => fun _ _ hx => (by cases hx), fun _ h => fun _ _ hx => (by cases hx), fun _ h => fun _ _ hx => (by cases hx)⟩
  | succ n ih =>
    obtain ⟨i0, i1, i2, i3, i4, i5⟩ := ih
    exact ⟨fun a h => TX10_readAtom (dd := 9 + n) (fun a h => RX10g n 0 a h) (fun a h => RX10g n 1 a h) (fun a h => RX10g n 2 a h) (fun a h => RX10g n 3 a h) (fun a h => RX10g n 4 a h) (fun a h => RX10g n 5 a h) i0 i1 i2 i3 i4 i5 (by have := n; omega) a h, fun a h => TX10_readTerm (dd := 9 + n) (fun a h => RX10g n 0 a h) (fun a h => RX10g n 1 a h) (fun a h => RX10g n 2 a h) (fun a h => RX10g n 3 a h) (fun a h => RX10g n 4 a h) (fun a h => RX10g n 5 a h) i0 i1 i2 i3 i4 i5 (by have := n; omega) a h, fun a h => TX10_readSum (dd := 9 + n) (fun a h => RX10g n 0 a h) (fun a h => RX10g n 1 a h) (fun a h => RX10g n 2 a h) (fun a h => RX10g n 3 a h) (fun a h => RX10g n 4 a h) (fun a h => RX10g n 5 a h) i0 i1 i2 i3 i4 i5 (by have := n; omega) a h, fun a h => TX10_readUnit (dd := 9 + n) (fun a h => RX10g n 0 a h) (fun a h => RX10g n 1 a h) (fun a h => RX10g n 2 a h) (fun a h => RX10g n 3 a h) (fun a h => RX10g n 4 a h) (fun a h => RX10g n 5 a h) i0 i1 i2 i3 i4 i5 (by have := n; omega) a h, fun a h => TX10_readBoth (dd := 9 + n) (fun a h => RX10g n 0 a h) (fun a h => RX10g n 1 a h) (fun a h => RX10g n 2 a h) (fun a h => RX10g n 3 a h) (fun a h => RX10g n 4 a h) (fun a h => RX10g n 5 a h) i0 i1 i2 i3 i4 i5 (by have := n; omega) a h, fun a h => TX10_readTruth (dd := 9 + n) (fun a h => RX10g n 0 a h) (fun a h => RX10g n 1 a h) (fun a h => RX10g n 2 a h) (fun a h => RX10g n 3 a h) (fun a h => RX10g n 4 a h) (fun a h => RX10g n 5 a h) i0 i1 i2 i3 i4 i5 (by have := n; omega) a h⟩
def RX10_readAtom (a1 : Int) (h : qH) : Option (Int × qH) := RX10g 100 0 a1 h
theorem TRX10_readAtom {L : Nat} {xs : Nat → Int32} (a1 : Int) (h : qH) : qMet L xs yX10_readAtom cX10_readAtom 2 (none) 0 109 [qr 212, qi a1] h (RX10_readAtom a1 h) := (TRX10g 100).1 a1 h
def RX10_readTerm (a1 : Int) (h : qH) : Option (Int × qH) := RX10g 100 1 a1 h
theorem TRX10_readTerm {L : Nat} {xs : Nat → Int32} (a1 : Int) (h : qH) : qMet L xs yX10_readTerm cX10_readTerm 2 (none) 0 109 [qr 212, qi a1] h (RX10_readTerm a1 h) := (TRX10g 100).2.1 a1 h
def RX10_readSum (a1 : Int) (h : qH) : Option (Int × qH) := RX10g 100 2 a1 h
theorem TRX10_readSum {L : Nat} {xs : Nat → Int32} (a1 : Int) (h : qH) : qMet L xs yX10_readSum cX10_readSum 3 (none) 0 109 [qr 212, qi a1] h (RX10_readSum a1 h) := (TRX10g 100).2.2.1 a1 h
def RX10_readUnit (a1 : Int) (h : qH) : Option (Int × qH) := RX10g 100 3 a1 h
theorem TRX10_readUnit {L : Nat} {xs : Nat → Int32} (a1 : Int) (h : qH) : qMet L xs yX10_readUnit cX10_readUnit 3 (none) 0 109 [qr 212, qi a1] h (RX10_readUnit a1 h) := (TRX10g 100).2.2.2.1 a1 h
def RX10_readBoth (a1 : Int) (h : qH) : Option (Int × qH) := RX10g 100 4 a1 h
theorem TRX10_readBoth {L : Nat} {xs : Nat → Int32} (a1 : Int) (h : qH) : qMet L xs yX10_readBoth cX10_readBoth 2 (none) 0 109 [qr 212, qi a1] h (RX10_readBoth a1 h) := (TRX10g 100).2.2.2.2.1 a1 h
def RX10_readTruth (a1 : Int) (h : qH) : Option (Int × qH) := RX10g 100 5 a1 h
theorem TRX10_readTruth {L : Nat} {xs : Nat → Int32} (a1 : Int) (h : qH) : qMet L xs yX10_readTruth cX10_readTruth 2 (none) 0 109 [qr 212, qi a1] h (RX10_readTruth a1 h) := (TRX10g 100).2.2.2.2.2 a1 h
