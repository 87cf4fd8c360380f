def DX10_cut (a0 : Int) (a2 : Int) (h : qH) : Option (Int × qH) := (if ¬ a2 = 0 then (if ¬ a2 = 1 then (if ¬ a2 = 2 then some (a0, h) else some (qw a0, h)) else some (qs16 (qw a0), h)) else some (qb8 (qw a0), h))
set_option maxRecDepth 100000 in
theorem TX10_cut {L : Nat} {xs : Nat → Int32} (a0 : Int) (a2 : Int) (h : qH) : qMet L xs yX10_cut cX10_cut 3 (some .long) 2 1 [ql a0, qi a2] h (DX10_cut a0 a2 h) := by
  refine qMet.of (by decide +kernel) (Or.inr (Or.inr (Or.inl ⟨rfl, rfl⟩))) (Nat.le_of_ble_eq_true rfl) ?_
  show qS L xs cX10_cut "BottlePostModel" 3 1 2 0 [(0, ql a0), (2, qi a2)] [] h (DX10_cut a0 a2 h)
  unfold DX10_cut
  refine S_iload_n 1 dX10_cut_0 rfl rfl rfl ?_
  refine S_if_ne (tgt := 11) dX10_cut_1 (by decide) rfl (fun _ => ?_) (fun _ => ?_)
  · refine S_iload_n 1 dX10_cut_11 rfl rfl rfl ?_
    refine S_iconst (a := 1) dX10_cut_12 rfl (by decide) ?_
    refine S_icmp_ne (tgt := 23) dX10_cut_13 (by decide) rfl (fun _ => ?_) (fun _ => ?_)
    · refine S_iload_n 1 dX10_cut_23 rfl rfl rfl ?_
      refine S_iconst (a := 2) dX10_cut_24 rfl (by decide) ?_
      refine S_icmp_ne (tgt := 34) dX10_cut_25 (by decide) rfl (fun _ => ?_) (fun _ => ?_)
      · refine S_lload_n 0 dX10_cut_34 rfl rfl rfl ?_
        exact S_lret dX10_cut_35
      · refine S_lload_n 0 dX10_cut_28 rfl rfl rfl ?_
        refine S_l2i dX10_cut_29 rfl ?_
        refine S_i2l dX10_cut_30 rfl ?_
        refine S_goto (pc' := 35) dX10_cut_31 (by decide) ?_
        exact S_lret dX10_cut_35
    · refine S_lload_n 0 dX10_cut_16 rfl rfl rfl ?_
      refine S_l2i dX10_cut_17 rfl ?_
      refine S_i2s dX10_cut_18 rfl ?_
      refine S_i2l dX10_cut_19 rfl ?_
      refine S_goto (pc' := 35) dX10_cut_20 (by decide) ?_
      exact S_lret dX10_cut_35
  · refine S_lload_n 0 dX10_cut_4 rfl rfl rfl ?_
    refine S_l2i dX10_cut_5 rfl ?_
    refine S_i2b dX10_cut_6 rfl ?_
    refine S_i2l dX10_cut_7 rfl ?_
    refine S_goto (pc' := 35) dX10_cut_8 (by decide) ?_
    exact S_lret dX10_cut_35
def DX10_deadly_l10 : Nat → Int → Int → Int → qH → Option (Int × qH)
  | 0, _, _, _, _ => none
  | n + 1, a1, a2, a4, h => (qbd (DX10_cells h) fun r1 h2 => (if r1 ≤ a4 then some (a2, h2) else (qbd (DX10_isOpen a4 h2) fun r4 h5 => (if ¬ r4 = 0 then (qbd (DX10_isThrown (-1) (-1) a1 a4 h5) fun r7 h8 => (qbd (DX10_endsIn (h8.1 213 349) 200 h8) fun r12 h13 => (if ¬ h13.1 217 0 = 3 then ((DX10_deadly_l10 n) a1 a2 (qw (a4 + 1)) h13) else (qlt (qorl a2 (qshll 1 a4)) fun v17 => ((DX10_deadly_l10 n) a1 v17 (qw (a4 + 1)) h13))))) else ((DX10_deadly_l10 n) a1 a2 (qw (a4 + 1)) h5)))))
set_option maxRecDepth 100000 in
theorem TX10_deadly_l10 {L : Nat} {xs : Nat → Int32} : ∀ (n : Nat) (a1 : Int) (a2 : Int) (a4 : Int) (h : qH), qS L xs cX10_deadly "BottlePostModel" 5 8 2 10 [(0, qr 212), (1, qi a1), (2, ql a2), (4, qi a4)] [] h (DX10_deadly_l10 n a1 a2 a4 h) := by
  intro n
  induction n with
  | zero =>
    intro a1 a2 a4 h
    exact S_none
  | succ n ih =>
    intro a1 a2 a4 h
    rw [DX10_deadly_l10.eq_2]
    refine S_iload 3 dX10_deadly_10 rfl rfl ?_
    refine S_aload_n 0 dX10_deadly_12 rfl rfl rfl ?_
    refine S_callV_i (as := []) (st := [qi a4]) (fun _ => rfl) (TX10_cells h) yv_X10_cells tw_1473 qC_10 qk_212 (by decide) rfl rfl (Nat.le_of_ble_eq_true rfl) dX10_deadly_13 rfl (fun r1 h2 e3 => ?_)
    refine S_icmp_ge (tgt := 79) dX10_deadly_16 (by decide) rfl (fun _ => ?_) (fun _ => ?_)
    · refine S_lload_n 2 dX10_deadly_79 rfl rfl rfl ?_
      exact S_lret dX10_deadly_80
    · refine S_aload_n 0 dX10_deadly_19 rfl rfl rfl ?_
      refine S_iload 3 dX10_deadly_20 rfl rfl ?_
      refine S_callV_i (as := [qi a4]) (st := []) (fun _ => rfl) (TX10_isOpen a4 h2) yv_X10_isOpen tw_1493 qC_10 qk_212 (by decide) rfl rfl (Nat.le_of_ble_eq_true rfl) dX10_deadly_22 rfl (fun r4 h5 e6 => ?_)
      refine S_if_ne (tgt := 31) dX10_deadly_25 (by decide) rfl (fun _ => ?_) (fun _ => ?_)
      · refine S_aload_n 0 dX10_deadly_31 rfl rfl rfl ?_
        refine S_iconst (a := (-1)) dX10_deadly_32 rfl (by decide) ?_
        refine S_iconst (a := (-1)) dX10_deadly_33 rfl (by decide) ?_
        refine S_iload_n 1 dX10_deadly_34 rfl rfl rfl ?_
        refine S_iload 3 dX10_deadly_35 rfl rfl ?_
        refine S_callV_0 (as := [qi (-1), qi (-1), qi a1, qi a4]) (st := []) (fun _ => rfl) (TX10_isThrown (-1) (-1) a1 a4 h5) yv_X10_isThrown tw_1565 qC_10 qk_212 (by decide) rfl rfl (Nat.le_of_ble_eq_true rfl) dX10_deadly_37 rfl (fun r7 h8 e9 => ?_)
        refine S_aload_n 0 dX10_deadly_40 rfl rfl rfl ?_
        refine S_aload_n 0 dX10_deadly_41 rfl rfl rfl ?_
        refine S_getr (j := 213) (o := 1) 1 qC_10 (by decide) (by decide) qk_212 rfl rfl (by decide) tw_1227 dX10_deadly_42 rfl ?_
        refine S_sipush (a := 349) dX10_deadly_45 rfl (by decide) (by decide) ?_
        refine S_pick_t ((0 : Int) ≤ 349 ∧ (349 : Int) < 5736) (by decide) ?_
        refine S_iald (N := 5736) qk_213 rfl dX10_deadly_48 rfl (fun g10 g11 => ?_)
        refine S_sipush (a := 200) dX10_deadly_49 rfl (by decide) (by decide) ?_
        refine S_callV_i (as := [qi (h8.1 213 349), qi 200]) (st := []) (fun _ => rfl) (TX10_endsIn (h8.1 213 349) 200 h8) yv_X10_endsIn tw_1691 qC_10 qk_212 (by decide) rfl rfl (Nat.le_of_ble_eq_true rfl) dX10_deadly_52 rfl (fun r12 h13 e14 => ?_)
        refine S_pop dX10_deadly_55 rfl rfl ?_
        refine S_aload_n 0 dX10_deadly_56 rfl rfl rfl ?_
        refine S_getr (j := 217) (o := 5) 16 qC_10 (by decide) (by decide) qk_212 rfl rfl (by decide) tw_1242 dX10_deadly_57 rfl ?_
        refine S_iconst (a := 0) dX10_deadly_60 rfl (by decide) ?_
        refine S_pick_t ((0 : Int) ≤ 0 ∧ (0 : Int) < 8) (by decide) ?_
        refine S_iald (N := 8) qk_217 rfl dX10_deadly_61 rfl (fun g15 g16 => ?_)
        refine S_iconst (a := 3) dX10_deadly_62 rfl (by decide) ?_
        refine S_icmp_ne (tgt := 73) dX10_deadly_63 (by decide) rfl (fun _ => ?_) (fun _ => ?_)
        · refine S_iinc (lv' := [(4, qi (qw (a4 + 1))), (0, qr 212), (1, qi a1), (2, ql a2)]) 3 dX10_deadly_73 rfl (by decide) rfl rfl ?_
          refine S_goto (pc' := 10) dX10_deadly_76 (by decide) ?_
          refine S_sub [1, 2, 3, 0] rfl ?_
          exact ih a1 a2 (qw (a4 + 1)) h13
        · refine S_lload_n 2 dX10_deadly_66 rfl rfl rfl ?_
          refine S_lconst (a := 1) dX10_deadly_67 rfl (by decide) (by decide) ?_
          refine S_iload 3 dX10_deadly_68 rfl rfl ?_
          refine S_lshl dX10_deadly_70 rfl ?_
          refine S_lor dX10_deadly_71 rfl ?_
          refine S_lstore_n (lv' := [(2, ql (qorl a2 (qshll 1 a4))), (0, qr 212), (1, qi a1), (4, qi a4)]) dX10_deadly_72 rfl (by decide) rfl rfl ?_
          refine S_lj (fun v17 => ?_)
          refine S_iinc (lv' := [(4, qi (qw (a4 + 1))), (2, ql v17), (0, qr 212), (1, qi a1)]) 3 dX10_deadly_73 rfl (by decide) rfl rfl ?_
          refine S_goto (pc' := 10) dX10_deadly_76 (by decide) ?_
          refine S_sub [2, 3, 1, 0] rfl ?_
          exact ih a1 v17 (qw (a4 + 1)) h13
      · refine S_goto (pc' := 73) dX10_deadly_28 (by decide) ?_
        refine S_iinc (lv' := [(4, qi (qw (a4 + 1))), (0, qr 212), (1, qi a1), (2, ql a2)]) 3 dX10_deadly_73 rfl (by decide) rfl rfl ?_
        refine S_goto (pc' := 10) dX10_deadly_76 (by decide) ?_
        refine S_sub [1, 2, 3, 0] rfl ?_
        exact ih a1 a2 (qw (a4 + 1)) h5
def DX10_deadly (a1 : Int) (h : qH) : Option (Int × qH) := (qlt (qu h 212 0 0) fun h18 => (DX10_deadly_l10 LF a1 0 0 h18))
set_option maxRecDepth 100000 in
theorem TX10_deadly {L : Nat} {xs : Nat → Int32} (a1 : Int) (h : qH) : qMet L xs yX10_deadly cX10_deadly 5 (some .long) 2 8 [qr 212, qi a1] h (DX10_deadly a1 h) := by
  refine qMet.of (by decide +kernel) (Or.inr (Or.inr (Or.inl ⟨rfl, rfl⟩))) (Nat.le_of_ble_eq_true rfl) ?_
  show qS L xs cX10_deadly "BottlePostModel" 5 8 2 0 [(0, qr 212), (1, qi a1)] [] h (DX10_deadly a1 h)
  unfold DX10_deadly
  refine S_aload_n 0 dX10_deadly_0 rfl rfl rfl ?_
  refine S_iconst (a := 0) dX10_deadly_1 rfl (by decide) ?_
  refine S_puti 0 qC_10 (by decide) (by decide) rfl rfl qk_212 (by decide) tw_1226 dX10_deadly_2 rfl ?_
  refine S_lh (fun h18 => ?_)
  refine S_lconst (a := 0) dX10_deadly_5 rfl (by decide) (by decide) ?_
  refine S_lstore_n (lv' := [(2, ql 0), (0, qr 212), (1, qi a1)]) dX10_deadly_6 rfl (by decide) rfl rfl ?_
  refine S_iconst (a := 0) dX10_deadly_7 rfl (by decide) ?_
  refine S_istore (lv' := [(4, qi 0), (2, ql 0), (0, qr 212), (1, qi a1)]) dX10_deadly_8 (by decide) rfl rfl ?_
  refine S_sub [2, 3, 1, 0] rfl ?_
  exact TX10_deadly_l10 LF a1 0 0 h18
def DX10_stores_l2 : Nat → Int → Int → qH → Option (Int × qH)
  | 0, _, _, _ => none
  | n + 1, a1, a2, h => (if 8 ≤ a2 then some (0, h) else (if 0 ≤ a2 ∧ a2 < 8 then (if 0 ≤ qw (qw (284 + qw (8 * a1)) + a2) ∧ qw (qw (284 + qw (8 * a1)) + a2) < 5736 then qlt (qu h 213 (qw (qw (284 + qw (8 * a1)) + a2)).toNat (h.1 217 a2.toNat)) fun h3 => ((DX10_stores_l2 n) a1 (qw (a2 + 1)) h3) else none) else none))
set_option maxRecDepth 100000 in
theorem TX10_stores_l2 {L : Nat} {xs : Nat → Int32} : ∀ (n : Nat) (a1 : Int) (a2 : Int) (h : qH), qS L xs cX10_stores "BottlePostModel" 3 1 0 2 [(0, qr 212), (1, qi a1), (2, qi a2)] [] h (DX10_stores_l2 n a1 a2 h) := by
  intro n
  induction n with
  | zero =>
    intro a1 a2 h
    exact S_none
  | succ n ih =>
    intro a1 a2 h
    rw [DX10_stores_l2.eq_2]
    refine S_iload_n 2 dX10_stores_2 rfl rfl rfl ?_
    refine S_bipush (a := 8) dX10_stores_3 rfl (by decide) (by decide) ?_
    refine S_icmp_ge (tgt := 35) dX10_stores_5 (by decide) rfl (fun _ => ?_) (fun _ => ?_)
    · exact S_vret dX10_stores_35
    · refine S_aload_n 0 dX10_stores_8 rfl rfl rfl ?_
      refine S_getr (j := 213) (o := 1) 1 qC_10 (by decide) (by decide) qk_212 rfl rfl (by decide) tw_1227 dX10_stores_9 rfl ?_
      refine S_sipush (a := 284) dX10_stores_12 rfl (by decide) (by decide) ?_
      refine S_bipush (a := 8) dX10_stores_15 rfl (by decide) (by decide) ?_
      refine S_iload_n 1 dX10_stores_17 rfl rfl rfl ?_
      refine S_imul dX10_stores_18 rfl ?_
      refine S_iadd dX10_stores_19 rfl ?_
      refine S_iload_n 2 dX10_stores_20 rfl rfl rfl ?_
      refine S_iadd dX10_stores_21 rfl ?_
      refine S_aload_n 0 dX10_stores_22 rfl rfl rfl ?_
      refine S_getr (j := 217) (o := 5) 16 qC_10 (by decide) (by decide) qk_212 rfl rfl (by decide) tw_1242 dX10_stores_23 rfl ?_
      refine S_iload_n 2 dX10_stores_26 rfl rfl rfl ?_
      refine S_iald (N := 8) qk_217 rfl dX10_stores_27 rfl (fun g1 g2 => ?_)
      refine S_iast (N := 5736) qk_213 rfl dX10_stores_28 rfl (fun _ _ => ?_)
      refine S_lh (fun h3 => ?_)
      refine S_iinc (lv' := [(2, qi (qw (a2 + 1))), (0, qr 212), (1, qi a1)]) 2 dX10_stores_29 rfl (by decide) rfl rfl ?_
      refine S_goto (pc' := 2) dX10_stores_32 (by decide) ?_
      refine S_sub [1, 2, 0] rfl ?_
      exact ih a1 (qw (a2 + 1)) h3
def DX10_stores (a1 : Int) (h : qH) : Option (Int × qH) := (DX10_stores_l2 LF a1 0 h)
set_option maxRecDepth 100000 in
theorem TX10_stores {L : Nat} {xs : Nat → Int32} (a1 : Int) (h : qH) : qMet L xs yX10_stores cX10_stores 3 (none) 0 1 [qr 212, qi a1] h (DX10_stores a1 h) := by
  refine qMet.of (by decide +kernel) (Or.inl ⟨rfl, rfl⟩) (Nat.le_of_ble_eq_true rfl) ?_
  show qS L xs cX10_stores "BottlePostModel" 3 1 0 0 [(0, qr 212), (1, qi a1)] [] h (DX10_stores a1 h)
  unfold DX10_stores
  refine S_iconst (a := 0) dX10_stores_0 rfl (by decide) ?_
  refine S_istore_n (lv' := [(2, qi 0), (0, qr 212), (1, qi a1)]) dX10_stores_1 rfl (by decide) rfl rfl ?_
  refine S_sub [1, 2, 0] rfl ?_
  exact TX10_stores_l2 LF a1 0 h
def DX10_throwsOne (a1 : Int) (a2 : Int) (a3 : Int) (h : qH) : Option (Int × qH) := (qbd (DX10_throwsTo a1 h) fun r1 h2 => (qbd (DX10_isThrown a1 a2 a3 r1 h2) fun r4 h5 => (qbd (DX10_stores (h5.1 213 348) h5) fun r9 h10 => (qlt (qu h10 213 348 (qw (h10.1 213 348 + 1))) fun h14 => some (0, h14)))))
set_option maxRecDepth 100000 in
theorem TX10_throwsOne {L : Nat} {xs : Nat → Int32} (a1 : Int) (a2 : Int) (a3 : Int) (h : qH) : qMet L xs yX10_throwsOne cX10_throwsOne 4 (none) 0 4 [qr 212, qi a1, qi a2, qi a3] h (DX10_throwsOne a1 a2 a3 h) := by
  refine qMet.of (by decide +kernel) (Or.inl ⟨rfl, rfl⟩) (Nat.le_of_ble_eq_true rfl) ?_
  show qS L xs cX10_throwsOne "BottlePostModel" 4 4 0 0 [(0, qr 212), (1, qi a1), (2, qi a2), (3, qi a3)] [] h (DX10_throwsOne a1 a2 a3 h)
  unfold DX10_throwsOne
  refine S_aload_n 0 dX10_throwsOne_0 rfl rfl rfl ?_
  refine S_iload_n 1 dX10_throwsOne_1 rfl rfl rfl ?_
  refine S_iload_n 2 dX10_throwsOne_2 rfl rfl rfl ?_
  refine S_iload_n 3 dX10_throwsOne_3 rfl rfl rfl ?_
  refine S_aload_n 0 dX10_throwsOne_4 rfl rfl rfl ?_
  refine S_iload_n 1 dX10_throwsOne_5 rfl rfl rfl ?_
  refine S_callV_i (as := [qi a1]) (st := [qi a3, qi a2, qi a1, qr 212]) (fun _ => rfl) (TX10_throwsTo a1 h) yv_X10_throwsTo tw_1485 qC_10 qk_212 (by decide) rfl rfl (Nat.le_of_ble_eq_true rfl) dX10_throwsOne_6 rfl (fun r1 h2 e3 => ?_)
  refine S_callV_0 (as := [qi a1, qi a2, qi a3, qi r1]) (st := []) (fun _ => rfl) (TX10_isThrown a1 a2 a3 r1 h2) yv_X10_isThrown tw_1565 qC_10 qk_212 (by decide) rfl rfl (Nat.le_of_ble_eq_true rfl) dX10_throwsOne_9 rfl (fun r4 h5 e6 => ?_)
  refine S_aload_n 0 dX10_throwsOne_12 rfl rfl rfl ?_
  refine S_aload_n 0 dX10_throwsOne_13 rfl rfl rfl ?_
  refine S_getr (j := 213) (o := 1) 1 qC_10 (by decide) (by decide) qk_212 rfl rfl (by decide) tw_1227 dX10_throwsOne_14 rfl ?_
  refine S_sipush (a := 348) dX10_throwsOne_17 rfl (by decide) (by decide) ?_
  refine S_pick_t ((0 : Int) ≤ 348 ∧ (348 : Int) < 5736) (by decide) ?_
  refine S_iald (N := 5736) qk_213 rfl dX10_throwsOne_20 rfl (fun g7 g8 => ?_)
  refine S_callV_0 (as := [qi (h5.1 213 348)]) (st := []) (fun _ => rfl) (TX10_stores (h5.1 213 348) h5) yv_X10_stores tw_1569 qC_10 qk_212 (by decide) rfl rfl (Nat.le_of_ble_eq_true rfl) dX10_throwsOne_21 rfl (fun r9 h10 e11 => ?_)
  refine S_aload_n 0 dX10_throwsOne_24 rfl rfl rfl ?_
  refine S_getr (j := 213) (o := 1) 1 qC_10 (by decide) (by decide) qk_212 rfl rfl (by decide) tw_1227 dX10_throwsOne_25 rfl ?_
  refine S_sipush (a := 348) dX10_throwsOne_28 rfl (by decide) (by decide) ?_
  refine S_dup2 dX10_throwsOne_31 rfl rfl rfl ?_
  refine S_pick_t ((0 : Int) ≤ 348 ∧ (348 : Int) < 5736) (by decide) ?_
  refine S_iald (N := 5736) qk_213 rfl dX10_throwsOne_32 rfl (fun g12 g13 => ?_)
  refine S_iconst (a := 1) dX10_throwsOne_33 rfl (by decide) ?_
  refine S_iadd dX10_throwsOne_34 rfl ?_
  refine S_pick_t ((0 : Int) ≤ 348 ∧ (348 : Int) < 5736) (by decide) ?_
  refine S_iast (N := 5736) qk_213 rfl dX10_throwsOne_35 rfl (fun _ _ => ?_)
  refine S_lh (fun h14 => ?_)
  exact S_vret dX10_throwsOne_36
def DX10_tide_b59 (k4 : Int → Int → qH → Option (Int × qH)) (a2 : Int) (b0 : Int) (b1 : Int) (h : qH) : Option (Int × qH) := (qlt (qw (b1 + b0)) fun v1 => (qbd (DX10_stores a2 h) fun r2 h3 => (k4 v1 (qw (a2 + 1)) h3)))
set_option maxRecDepth 100000 in
theorem TX10_tide_b59 {L : Nat} {xs : Nat → Int32} (k4 : Int → Int → qH → Option (Int × qH)) (hk4 : ∀ (a1 : Int) (a2 : Int) (h : qH), qS L xs cX10_tide "BottlePostModel" 4 7 1 4 [(0, qr 212), (1, qi a1), (2, qi a2)] [] h (k4 a1 a2 h)) (a2 : Int) (b0 : Int) (b1 : Int) (h : qH) : qS L xs cX10_tide "BottlePostModel" 4 7 1 59 [(0, qr 212), (2, qi a2)] [qi b0, qi b1] h (DX10_tide_b59 k4 a2 b0 b1 h) := by
  unfold DX10_tide_b59
  refine S_iadd dX10_tide_59 rfl ?_
  refine S_istore_n (lv' := [(1, qi (qw (b1 + b0))), (0, qr 212), (2, qi a2)]) dX10_tide_60 rfl (by decide) rfl rfl ?_
  refine S_li (fun v1 => ?_)
  refine S_aload_n 1 dX10_tide_61 rfl rfl rfl ?_
  refine S_iload_n 2 dX10_tide_62 rfl rfl rfl ?_
  refine S_callV_0 (as := [qi a2]) (st := []) (fun _ => rfl) (TX10_stores a2 h) yv_X10_stores tw_1569 qC_10 qk_212 (by decide) rfl rfl (Nat.le_of_ble_eq_true rfl) dX10_tide_63 rfl (fun r2 h3 e4 => ?_)
  refine S_iinc (lv' := [(2, qi (qw (a2 + 1))), (1, qi v1), (0, qr 212)]) 2 dX10_tide_66 rfl (by decide) rfl rfl ?_
  refine S_goto (pc' := 4) dX10_tide_69 (by decide) ?_
  refine S_sub [2, 1, 0] rfl ?_
  exact hk4 v1 (qw (a2 + 1)) h3
def DX10_tide_l4 : Nat → Int → Int → qH → Option (Int × qH)
  | 0, _, _, _ => none
  | n + 1, a1, a2, h => (if h.1 213 348 ≤ a2 then (qlt (qu h 213 349 (qw (h.1 213 349 + 1))) fun h9 => some (a1, h9)) else (qbd (DX10_loads a2 h) fun r10 h11 => (qbd (DX10_isOn h11) fun r13 h14 => (qbd (DX10_goesTide (h14.1 213 349) 0 h14) fun r18 h19 => (if r13 = 0 then (DX10_tide_b59 (DX10_tide_l4 n) a2 0 a1 h19) else (if ¬ h19.1 217 0 = 2 then (DX10_tide_b59 (DX10_tide_l4 n) a2 0 a1 h19) else (DX10_tide_b59 (DX10_tide_l4 n) a2 1 a1 h19)))))))
set_option maxRecDepth 100000 in
theorem TX10_tide_l4 {L : Nat} {xs : Nat → Int32} : ∀ (n : Nat) (a1 : Int) (a2 : Int) (h : qH), qS L xs cX10_tide "BottlePostModel" 4 7 1 4 [(0, qr 212), (1, qi a1), (2, qi a2)] [] h (DX10_tide_l4 n a1 a2 h) := by
  intro n
  induction n with
  | zero =>
    intro a1 a2 h
    exact S_none
  | succ n ih =>
    intro a1 a2 h
    rw [DX10_tide_l4.eq_2]
    refine S_iload_n 2 dX10_tide_4 rfl rfl rfl ?_
    refine S_aload_n 0 dX10_tide_5 rfl rfl rfl ?_
    refine S_getr (j := 213) (o := 1) 1 qC_10 (by decide) (by decide) qk_212 rfl rfl (by decide) tw_1227 dX10_tide_6 rfl ?_
    refine S_sipush (a := 348) dX10_tide_9 rfl (by decide) (by decide) ?_
    refine S_pick_t ((0 : Int) ≤ 348 ∧ (348 : Int) < 5736) (by decide) ?_
    refine S_iald (N := 5736) qk_213 rfl dX10_tide_12 rfl (fun g5 g6 => ?_)
    refine S_icmp_ge (tgt := 72) dX10_tide_13 (by decide) rfl (fun _ => ?_) (fun _ => ?_)
    · refine S_aload_n 0 dX10_tide_72 rfl rfl rfl ?_
      refine S_getr (j := 213) (o := 1) 1 qC_10 (by decide) (by decide) qk_212 rfl rfl (by decide) tw_1227 dX10_tide_73 rfl ?_
      refine S_sipush (a := 349) dX10_tide_76 rfl (by decide) (by decide) ?_
      refine S_dup2 dX10_tide_79 rfl rfl rfl ?_
      refine S_pick_t ((0 : Int) ≤ 349 ∧ (349 : Int) < 5736) (by decide) ?_
      refine S_iald (N := 5736) qk_213 rfl dX10_tide_80 rfl (fun g7 g8 => ?_)
      refine S_iconst (a := 1) dX10_tide_81 rfl (by decide) ?_
      refine S_iadd dX10_tide_82 rfl ?_
      refine S_pick_t ((0 : Int) ≤ 349 ∧ (349 : Int) < 5736) (by decide) ?_
      refine S_iast (N := 5736) qk_213 rfl dX10_tide_83 rfl (fun _ _ => ?_)
      refine S_lh (fun h9 => ?_)
      refine S_iload_n 1 dX10_tide_84 rfl rfl rfl ?_
      exact S_iret dX10_tide_85
    · refine S_aload_n 0 dX10_tide_16 rfl rfl rfl ?_
      refine S_iload_n 2 dX10_tide_17 rfl rfl rfl ?_
      refine S_callV_0 (as := [qi a2]) (st := []) (fun _ => rfl) (TX10_loads a2 h) yv_X10_loads tw_1586 qC_10 qk_212 (by decide) rfl rfl (Nat.le_of_ble_eq_true rfl) dX10_tide_18 rfl (fun r10 h11 e12 => ?_)
      refine S_aload_n 0 dX10_tide_21 rfl rfl rfl ?_
      refine S_callV_i (as := []) (st := []) (fun _ => rfl) (TX10_isOn h11) yv_X10_isOn tw_1590 qC_10 qk_212 (by decide) rfl rfl (Nat.le_of_ble_eq_true rfl) dX10_tide_22 rfl (fun r13 h14 e15 => ?_)
      refine S_istore_n (lv' := [(3, qi r13), (0, qr 212), (1, qi a1), (2, qi a2)]) dX10_tide_25 rfl (by decide) rfl rfl ?_
      refine S_aload_n 1 dX10_tide_26 rfl rfl rfl ?_
      refine S_aload_n 1 dX10_tide_27 rfl rfl rfl ?_
      refine S_getr (j := 213) (o := 1) 1 qC_10 (by decide) (by decide) qk_212 rfl rfl (by decide) tw_1227 dX10_tide_28 rfl ?_
      refine S_sipush (a := 349) dX10_tide_31 rfl (by decide) (by decide) ?_
      refine S_pick_t ((0 : Int) ≤ 349 ∧ (349 : Int) < 5736) (by decide) ?_
      refine S_iald (N := 5736) qk_213 rfl dX10_tide_34 rfl (fun g16 g17 => ?_)
      refine S_iconst (a := 0) dX10_tide_35 rfl (by decide) ?_
      refine S_callV_0 (as := [qi (h14.1 213 349), qi 0]) (st := []) (fun _ => rfl) (TX10_goesTide (h14.1 213 349) 0 h14) yv_X10_goesTide tw_1594 qC_10 qk_212 (by decide) rfl rfl (Nat.le_of_ble_eq_true rfl) dX10_tide_36 rfl (fun r18 h19 e20 => ?_)
      refine S_iload_n 2 dX10_tide_39 rfl rfl rfl ?_
      refine S_iload_n 0 dX10_tide_40 rfl rfl rfl ?_
      refine S_if_eq (tgt := 58) dX10_tide_41 (by decide) rfl (fun _ => ?_) (fun _ => ?_)
      · refine S_iconst (a := 0) dX10_tide_58 rfl (by decide) ?_
        refine S_sub [1, 3] rfl ?_
        exact TX10_tide_b59 (DX10_tide_l4 n) ih a2 0 a1 h19
      · refine S_aload_n 1 dX10_tide_44 rfl rfl rfl ?_
        refine S_getr (j := 217) (o := 5) 16 qC_10 (by decide) (by decide) qk_212 rfl rfl (by decide) tw_1242 dX10_tide_45 rfl ?_
        refine S_iconst (a := 0) dX10_tide_48 rfl (by decide) ?_
        refine S_pick_t ((0 : Int) ≤ 0 ∧ (0 : Int) < 8) (by decide) ?_
        refine S_iald (N := 8) qk_217 rfl dX10_tide_49 rfl (fun g21 g22 => ?_)
        refine S_iconst (a := 2) dX10_tide_50 rfl (by decide) ?_
        refine S_icmp_ne (tgt := 58) dX10_tide_51 (by decide) rfl (fun _ => ?_) (fun _ => ?_)
        · refine S_iconst (a := 0) dX10_tide_58 rfl (by decide) ?_
          refine S_sub [1, 3] rfl ?_
          exact TX10_tide_b59 (DX10_tide_l4 n) ih a2 0 a1 h19
        · refine S_iconst (a := 1) dX10_tide_54 rfl (by decide) ?_
          refine S_goto (pc' := 59) dX10_tide_55 (by decide) ?_
          refine S_sub [1, 3] rfl ?_
          exact TX10_tide_b59 (DX10_tide_l4 n) ih a2 1 a1 h19
def DX10_tide (h : qH) : Option (Int × qH) := (DX10_tide_l4 LF 0 0 h)
set_option maxRecDepth 100000 in
theorem TX10_tide {L : Nat} {xs : Nat → Int32} (h : qH) : qMet L xs yX10_tide cX10_tide 4 (some .int) 1 7 [qr 212] h (DX10_tide h) := by
  refine qMet.of (by decide +kernel) (Or.inr (Or.inl ⟨rfl, rfl⟩)) (Nat.le_of_ble_eq_true rfl) ?_
  show qS L xs cX10_tide "BottlePostModel" 4 7 1 0 [(0, qr 212)] [] h (DX10_tide h)
  unfold DX10_tide
  refine S_iconst (a := 0) dX10_tide_0 rfl (by decide) ?_
  refine S_istore_n (lv' := [(1, qi 0), (0, qr 212)]) dX10_tide_1 rfl (by decide) rfl rfl ?_
  refine S_iconst (a := 0) dX10_tide_2 rfl (by decide) ?_
  refine S_istore_n (lv' := [(2, qi 0), (1, qi 0), (0, qr 212)]) dX10_tide_3 rfl (by decide) rfl rfl ?_
  refine S_sub [2, 1, 0] rfl ?_
  exact TX10_tide_l4 LF 0 0 h
def DX10_does_b69 (a1 : Int) (b0 : Int) (b1 : Int) (h : qH) : Option (Int × qH) := (if ¬ qrem a1 10 = 1 then (qbd (DX10_throwsOne b1 b0 0 h) fun r1 h2 => some (0, h2)) else (qbd (DX10_throwsOne b1 b0 1 h) fun r4 h5 => some (0, h5)))
set_option maxRecDepth 100000 in
theorem TX10_does_b69 {L : Nat} {xs : Nat → Int32} (a1 : Int) (b0 : Int) (b1 : Int) (h : qH) : qS L xs cX10_does "BottlePostModel" 2 8 0 69 [(1, qi a1)] [qi b0, qi b1, qr 212] h (DX10_does_b69 a1 b0 b1 h) := by
  unfold DX10_does_b69
  refine S_iload_n 0 dX10_does_69 rfl rfl rfl ?_
  refine S_bipush (a := 10) dX10_does_70 rfl (by decide) (by decide) ?_
  refine S_irem dX10_does_72 rfl (by decide) ?_
  refine S_iconst (a := 1) dX10_does_73 rfl (by decide) ?_
  refine S_icmp_ne (tgt := 81) dX10_does_74 (by decide) rfl (fun _ => ?_) (fun _ => ?_)
  · refine S_iconst (a := 0) dX10_does_81 rfl (by decide) ?_
    refine S_callV_0 (as := [qi b1, qi b0, qi 0]) (st := []) (fun _ => rfl) (TX10_throwsOne b1 b0 0 h) yv_X10_throwsOne tw_1561 qC_10 qk_212 (by decide) rfl rfl (Nat.le_of_ble_eq_true rfl) dX10_does_82 rfl (fun r1 h2 e3 => ?_)
    exact S_vret dX10_does_85
  · refine S_iconst (a := 1) dX10_does_77 rfl (by decide) ?_
    refine S_goto (pc' := 82) dX10_does_78 (by decide) ?_
    refine S_callV_0 (as := [qi b1, qi b0, qi 1]) (st := []) (fun _ => rfl) (TX10_throwsOne b1 b0 1 h) yv_X10_throwsOne tw_1561 qC_10 qk_212 (by decide) rfl rfl (Nat.le_of_ble_eq_true rfl) dX10_does_82 rfl (fun r4 h5 e6 => ?_)
    exact S_vret dX10_does_85
def DX10_does (a1 : Int) (h : qH) : Option (Int × qH) := (if ¬ a1 = (-1) then (if a1 < 1000 then (if ¬ qrem (qdiv a1 10) 10 = 9 then (DX10_does_b69 a1 (qrem (qdiv a1 10) 10) (qdiv a1 100) h) else (DX10_does_b69 a1 (-1) (qdiv a1 100) h)) else (if 0 ≤ qw (284 + qw (8 * qw (a1 - 1000))) ∧ qw (284 + qw (8 * qw (a1 - 1000))) < 5736 then qlt (qu h 213 (qw (284 + qw (8 * qw (a1 - 1000)))).toNat 5) fun h7 => some (0, h7) else none)) else (qbd (DX10_tide h) fun r8 h9 => some (0, h9)))
set_option maxRecDepth 100000 in
theorem TX10_does {L : Nat} {xs : Nat → Int32} (a1 : Int) (h : qH) : qMet L xs yX10_does cX10_does 2 (none) 0 8 [qr 212, qi a1] h (DX10_does a1 h) := by
  refine qMet.of (by decide +kernel) (Or.inl ⟨rfl, rfl⟩) (Nat.le_of_ble_eq_true rfl) ?_
  show qS L xs cX10_does "BottlePostModel" 2 8 0 0 [(0, qr 212), (1, qi a1)] [] h (DX10_does a1 h)
  unfold DX10_does
  refine S_iload_n 1 dX10_does_0 rfl rfl rfl ?_
  refine S_iconst (a := (-1)) dX10_does_1 rfl (by decide) ?_
  refine S_icmp_ne (tgt := 13) dX10_does_2 (by decide) rfl (fun _ => ?_) (fun _ => ?_)
  · refine S_iload_n 1 dX10_does_13 rfl rfl rfl ?_
    refine S_sipush (a := 1000) dX10_does_14 rfl (by decide) (by decide) ?_
    refine S_icmp_lt (tgt := 41) dX10_does_17 (by decide) rfl (fun _ => ?_) (fun _ => ?_)
    · refine S_aload_n 0 dX10_does_41 rfl rfl rfl ?_
      refine S_iload_n 1 dX10_does_42 rfl rfl rfl ?_
      refine S_bipush (a := 100) dX10_does_43 rfl (by decide) (by decide) ?_
      refine S_idiv dX10_does_45 rfl (by decide) ?_
      refine S_iload_n 1 dX10_does_46 rfl rfl rfl ?_
      refine S_bipush (a := 10) dX10_does_47 rfl (by decide) (by decide) ?_
      refine S_idiv dX10_does_49 rfl (by decide) ?_
      refine S_bipush (a := 10) dX10_does_50 rfl (by decide) (by decide) ?_
      refine S_irem dX10_does_52 rfl (by decide) ?_
      refine S_bipush (a := 9) dX10_does_53 rfl (by decide) (by decide) ?_
      refine S_icmp_ne (tgt := 62) dX10_does_55 (by decide) rfl (fun _ => ?_) (fun _ => ?_)
      · refine S_iload_n 1 dX10_does_62 rfl rfl rfl ?_
        refine S_bipush (a := 10) dX10_does_63 rfl (by decide) (by decide) ?_
        refine S_idiv dX10_does_65 rfl (by decide) ?_
        refine S_bipush (a := 10) dX10_does_66 rfl (by decide) (by decide) ?_
        refine S_irem dX10_does_68 rfl (by decide) ?_
        refine S_sub [1] rfl ?_
        exact TX10_does_b69 a1 (qrem (qdiv a1 10) 10) (qdiv a1 100) h
      · refine S_iconst (a := (-1)) dX10_does_58 rfl (by decide) ?_
        refine S_goto (pc' := 69) dX10_does_59 (by decide) ?_
        refine S_sub [1] rfl ?_
        exact TX10_does_b69 a1 (-1) (qdiv a1 100) h
    · refine S_aload_n 0 dX10_does_20 rfl rfl rfl ?_
      refine S_getr (j := 213) (o := 1) 1 qC_10 (by decide) (by decide) qk_212 rfl rfl (by decide) tw_1227 dX10_does_21 rfl ?_
      refine S_sipush (a := 284) dX10_does_24 rfl (by decide) (by decide) ?_
      refine S_bipush (a := 8) dX10_does_27 rfl (by decide) (by decide) ?_
      refine S_iload_n 1 dX10_does_29 rfl rfl rfl ?_
      refine S_sipush (a := 1000) dX10_does_30 rfl (by decide) (by decide) ?_
      refine S_isub dX10_does_33 rfl ?_
      refine S_imul dX10_does_34 rfl ?_
      refine S_iadd dX10_does_35 rfl ?_
      refine S_iconst (a := 5) dX10_does_36 rfl (by decide) ?_
      refine S_iast (N := 5736) qk_213 rfl dX10_does_37 rfl (fun _ _ => ?_)
      refine S_lh (fun h7 => ?_)
      refine S_goto (pc' := 85) dX10_does_38 (by decide) ?_
      exact S_vret dX10_does_85
  · refine S_aload_n 0 dX10_does_5 rfl rfl rfl ?_
    refine S_callV_i (as := []) (st := []) (fun _ => rfl) (TX10_tide h) yv_X10_tide tw_1582 qC_10 qk_212 (by decide) rfl rfl (Nat.le_of_ble_eq_true rfl) dX10_does_6 rfl (fun r8 h9 e10 => ?_)
    refine S_pop dX10_does_9 rfl rfl ?_
    refine S_goto (pc' := 85) dX10_does_10 (by decide) ?_
    exact S_vret dX10_does_85
def DX10_draw (a1 : Int) (h : qH) : Option (Int × qH) := (qlt (qu h 212 22 (qw (qw (1103515245 * h.1 212 22) + 12345))) fun h1 => (if a1 = 0 then none else some (qrem (qush (h1.1 212 22) 16) a1, h1)))
set_option maxRecDepth 100000 in
theorem TX10_draw {L : Nat} {xs : Nat → Int32} (a1 : Int) (h : qH) : qMet L xs yX10_draw cX10_draw 2 (some .int) 1 1 [qr 212, qi a1] h (DX10_draw a1 h) := by
  refine qMet.of (by decide +kernel) (Or.inr (Or.inl ⟨rfl, rfl⟩)) (Nat.le_of_ble_eq_true rfl) ?_
  show qS L xs cX10_draw "BottlePostModel" 2 1 1 0 [(0, qr 212), (1, qi a1)] [] h (DX10_draw a1 h)
  unfold DX10_draw
  refine S_aload_n 0 dX10_draw_0 rfl rfl rfl ?_
  refine S_ldcw (a := 1103515245) dX10_draw_1 rfl (by rw [show Int32.ofInt 1103515245 = (1103515245 : Int32) from by decide]; exact tw_1685) (by decide) ?_
  refine S_aload_n 0 dX10_draw_4 rfl rfl rfl ?_
  refine S_geti 22 qC_10 (by decide) (by decide) qk_212 tw_1248 dX10_draw_5 rfl ?_
  refine S_imul dX10_draw_8 rfl ?_
  refine S_sipush (a := 12345) dX10_draw_9 rfl (by decide) (by decide) ?_
  refine S_iadd dX10_draw_12 rfl ?_
  refine S_puti 22 qC_10 (by decide) (by decide) rfl rfl qk_212 (by decide) tw_1248 dX10_draw_13 rfl ?_
  refine S_lh (fun h1 => ?_)
  refine S_aload_n 0 dX10_draw_16 rfl rfl rfl ?_
  refine S_geti 22 qC_10 (by decide) (by decide) qk_212 tw_1248 dX10_draw_17 rfl ?_
  refine S_bipush (a := 16) dX10_draw_20 rfl (by decide) (by decide) ?_
  refine S_iushr dX10_draw_22 rfl ?_
  refine S_iload_n 1 dX10_draw_23 rfl rfl rfl ?_
  refine S_ite (fun _ => S_none) (fun gz => ?_)
  refine S_irem dX10_draw_24 rfl gz ?_
  exact S_iret dX10_draw_25
def DX10_drawn_b68 (b0 : Int) (b1 : Int) (b2 : Int) (h : qH) : Option (Int × qH) := (qbd (DX10_draw 2 h) fun r1 h2 => some (qw (qw (b2 + qw (b1 * b0)) + r1), h2))
set_option maxRecDepth 100000 in
theorem TX10_drawn_b68 {L : Nat} {xs : Nat → Int32} (b0 : Int) (b1 : Int) (b2 : Int) (h : qH) : qS L xs cX10_drawn "BottlePostModel" 4 2 1 68 [(0, qr 212)] [qi b0, qi b1, qi b2] h (DX10_drawn_b68 b0 b1 b2 h) := by
  unfold DX10_drawn_b68
  refine S_imul dX10_drawn_68 rfl ?_
  refine S_iadd dX10_drawn_69 rfl ?_
  refine S_aload_n 0 dX10_drawn_70 rfl rfl rfl ?_
  refine S_iconst (a := 2) dX10_drawn_71 rfl (by decide) ?_
  refine S_callV_i (as := [qi 2]) (st := [qi (qw (b2 + qw (b1 * b0)))]) (fun _ => rfl) (TX10_draw 2 h) yv_X10_draw tw_1681 qC_10 qk_212 (by decide) rfl rfl (Nat.le_of_ble_eq_true rfl) dX10_drawn_72 rfl (fun r1 h2 e3 => ?_)
  refine S_iadd dX10_drawn_75 rfl ?_
  exact S_iret dX10_drawn_76
def DX10_drawn (h : qH) : Option (Int × qH) := (qbd (DX10_draw 4 h) fun r4 h5 => (if 2 ≤ r4 then (if ¬ r4 = 3 then (qbd (DX10_draw (h5.1 213 4) h5) fun r9 h10 => (qbd (DX10_draw (h10.1 213 4) h10) fun r14 h15 => (if ¬ r14 = r9 then (DX10_drawn_b68 r14 10 (qw (100 * r9)) h15) else (DX10_drawn_b68 9 10 (qw (100 * r9)) h15)))) else (qbd (DX10_draw 8 h5) fun r17 h18 => some (qw (1000 + r17), h18))) else some ((-1), h5)))
set_option maxRecDepth 100000 in
theorem TX10_drawn {L : Nat} {xs : Nat → Int32} (h : qH) : qMet L xs yX10_drawn cX10_drawn 4 (some .int) 1 2 [qr 212] h (DX10_drawn h) := by
  refine qMet.of (by decide +kernel) (Or.inr (Or.inl ⟨rfl, rfl⟩)) (Nat.le_of_ble_eq_true rfl) ?_
  show qS L xs cX10_drawn "BottlePostModel" 4 2 1 0 [(0, qr 212)] [] h (DX10_drawn h)
  unfold DX10_drawn
  refine S_aload_n 0 dX10_drawn_0 rfl rfl rfl ?_
  refine S_iconst (a := 4) dX10_drawn_1 rfl (by decide) ?_
  refine S_callV_i (as := [qi 4]) (st := []) (fun _ => rfl) (TX10_draw 4 h) yv_X10_draw tw_1681 qC_10 qk_212 (by decide) rfl rfl (Nat.le_of_ble_eq_true rfl) dX10_drawn_2 rfl (fun r4 h5 e6 => ?_)
  refine S_istore_n (lv' := [(1, qi r4), (0, qr 212)]) dX10_drawn_5 rfl (by decide) rfl rfl ?_
  refine S_iload_n 0 dX10_drawn_6 rfl rfl rfl ?_
  refine S_iconst (a := 2) dX10_drawn_7 rfl (by decide) ?_
  refine S_icmp_ge (tgt := 13) dX10_drawn_8 (by decide) rfl (fun _ => ?_) (fun _ => ?_)
  · refine S_iload_n 0 dX10_drawn_13 rfl rfl rfl ?_
    refine S_iconst (a := 3) dX10_drawn_14 rfl (by decide) ?_
    refine S_icmp_ne (tgt := 29) dX10_drawn_15 (by decide) rfl (fun _ => ?_) (fun _ => ?_)
    · refine S_aload_n 1 dX10_drawn_29 rfl rfl rfl ?_
      refine S_aload_n 1 dX10_drawn_30 rfl rfl rfl ?_
      refine S_getr (j := 213) (o := 1) 1 qC_10 (by decide) (by decide) qk_212 rfl rfl (by decide) tw_1227 dX10_drawn_31 rfl ?_
      refine S_iconst (a := 4) dX10_drawn_34 rfl (by decide) ?_
      refine S_pick_t ((0 : Int) ≤ 4 ∧ (4 : Int) < 5736) (by decide) ?_
      refine S_iald (N := 5736) qk_213 rfl dX10_drawn_35 rfl (fun g7 g8 => ?_)
      refine S_callV_i (as := [qi (h5.1 213 4)]) (st := []) (fun _ => rfl) (TX10_draw (h5.1 213 4) h5) yv_X10_draw tw_1681 qC_10 qk_212 (by decide) rfl rfl (Nat.le_of_ble_eq_true rfl) dX10_drawn_36 rfl (fun r9 h10 e11 => ?_)
      refine S_istore_n (lv' := [(2, qi r9), (1, qi r4), (0, qr 212)]) dX10_drawn_39 rfl (by decide) rfl rfl ?_
      refine S_aload_n 2 dX10_drawn_40 rfl rfl rfl ?_
      refine S_aload_n 2 dX10_drawn_41 rfl rfl rfl ?_
      refine S_getr (j := 213) (o := 1) 1 qC_10 (by decide) (by decide) qk_212 rfl rfl (by decide) tw_1227 dX10_drawn_42 rfl ?_
      refine S_iconst (a := 4) dX10_drawn_45 rfl (by decide) ?_
      refine S_pick_t ((0 : Int) ≤ 4 ∧ (4 : Int) < 5736) (by decide) ?_
      refine S_iald (N := 5736) qk_213 rfl dX10_drawn_46 rfl (fun g12 g13 => ?_)
      refine S_callV_i (as := [qi (h10.1 213 4)]) (st := []) (fun _ => rfl) (TX10_draw (h10.1 213 4) h10) yv_X10_draw tw_1681 qC_10 qk_212 (by decide) rfl rfl (Nat.le_of_ble_eq_true rfl) dX10_drawn_47 rfl (fun r14 h15 e16 => ?_)
      refine S_istore_n (lv' := [(3, qi r14), (2, qi r9), (1, qi r4), (0, qr 212)]) dX10_drawn_50 rfl (by decide) rfl rfl ?_
      refine S_bipush (a := 100) dX10_drawn_51 rfl (by decide) (by decide) ?_
      refine S_iload_n 1 dX10_drawn_53 rfl rfl rfl ?_
      refine S_imul dX10_drawn_54 rfl ?_
      refine S_bipush (a := 10) dX10_drawn_55 rfl (by decide) (by decide) ?_
      refine S_iload_n 0 dX10_drawn_57 rfl rfl rfl ?_
      refine S_iload_n 1 dX10_drawn_58 rfl rfl rfl ?_
      refine S_icmp_ne (tgt := 67) dX10_drawn_59 (by decide) rfl (fun _ => ?_) (fun _ => ?_)
      · refine S_iload_n 0 dX10_drawn_67 rfl rfl rfl ?_
        refine S_sub [3] rfl ?_
        exact TX10_drawn_b68 r14 10 (qw (100 * r9)) h15
      · refine S_bipush (a := 9) dX10_drawn_62 rfl (by decide) (by decide) ?_
        refine S_goto (pc' := 68) dX10_drawn_64 (by decide) ?_
        refine S_sub [3] rfl ?_
        exact TX10_drawn_b68 9 10 (qw (100 * r9)) h15
    · refine S_sipush (a := 1000) dX10_drawn_18 rfl (by decide) (by decide) ?_
      refine S_aload_n 1 dX10_drawn_21 rfl rfl rfl ?_
      refine S_bipush (a := 8) dX10_drawn_22 rfl (by decide) (by decide) ?_
      refine S_callV_i (as := [qi 8]) (st := [qi 1000]) (fun _ => rfl) (TX10_draw 8 h5) yv_X10_draw tw_1681 qC_10 qk_212 (by decide) rfl rfl (Nat.le_of_ble_eq_true rfl) dX10_drawn_24 rfl (fun r17 h18 e19 => ?_)
      refine S_iadd dX10_drawn_27 rfl ?_
      exact S_iret dX10_drawn_28
  · refine S_iconst (a := (-1)) dX10_drawn_11 rfl (by decide) ?_
    exact S_iret dX10_drawn_12
def DX10_is (a1 : Int) (h : qH) : Option (Int × qH) := (if ¬ h.1 212 11 = 0 then some (0, h) else (if ¬ h.1 212 9 = a1 then some (0, h) else some (1, h)))
set_option maxRecDepth 100000 in
theorem TX10_is {L : Nat} {xs : Nat → Int32} (a1 : Int) (h : qH) : qMet L xs yX10_is cX10_is 2 (some .boolean) 4 1 [qr 212, qi a1] h (DX10_is a1 h) := by
  refine qMet.of (by decide +kernel) (Or.inr (Or.inr (Or.inr (Or.inr (Or.inl ⟨rfl, rfl⟩))))) (Nat.le_of_ble_eq_true rfl) ?_
  show qS L xs cX10_is "BottlePostModel" 2 1 4 0 [(0, qr 212), (1, qi a1)] [] h (DX10_is a1 h)
  unfold DX10_is
  refine S_aload_n 0 dX10_is_0 rfl rfl rfl ?_
  refine S_geti 11 qC_10 (by decide) (by decide) qk_212 tw_1237 dX10_is_1 rfl ?_
  refine S_if_ne (tgt := 19) dX10_is_4 (by decide) rfl (fun _ => ?_) (fun _ => ?_)
  · refine S_iconst (a := 0) dX10_is_19 rfl (by decide) ?_
    exact S_zretl (by decide) dX10_is_20
  · refine S_aload_n 0 dX10_is_7 rfl rfl rfl ?_
    refine S_geti 9 qC_10 (by decide) (by decide) qk_212 tw_1235 dX10_is_8 rfl ?_
    refine S_iload_n 1 dX10_is_11 rfl rfl rfl ?_
    refine S_icmp_ne (tgt := 19) dX10_is_12 (by decide) rfl (fun _ => ?_) (fun _ => ?_)
    · refine S_iconst (a := 0) dX10_is_19 rfl (by decide) ?_
      exact S_zretl (by decide) dX10_is_20
    · refine S_iconst (a := 1) dX10_is_15 rfl (by decide) ?_
      refine S_goto (pc' := 20) dX10_is_16 (by decide) ?_
      exact S_zretl (by decide) dX10_is_20
def DX10_isDigit (a0 : Int) (h : qH) : Option (Int × qH) := (if a0 < 48 then some (0, h) else (if 57 < a0 then some (0, h) else some (1, h)))
set_option maxRecDepth 100000 in
theorem TX10_isDigit {L : Nat} {xs : Nat → Int32} (a0 : Int) (h : qH) : qMet L xs yX10_isDigit cX10_isDigit 1 (some .boolean) 4 1 [qi a0] h (DX10_isDigit a0 h) := by
  refine qMet.of (by decide +kernel) (Or.inr (Or.inr (Or.inr (Or.inr (Or.inl ⟨rfl, rfl⟩))))) (Nat.le_of_ble_eq_true rfl) ?_
  show qS L xs cX10_isDigit "BottlePostModel" 1 1 4 0 [(0, qi a0)] [] h (DX10_isDigit a0 h)
  unfold DX10_isDigit
  refine S_iload_n 0 dX10_isDigit_0 rfl rfl rfl ?_
  refine S_bipush (a := 48) dX10_isDigit_1 rfl (by decide) (by decide) ?_
  refine S_icmp_lt (tgt := 16) dX10_isDigit_3 (by decide) rfl (fun _ => ?_) (fun _ => ?_)
  · refine S_iconst (a := 0) dX10_isDigit_16 rfl (by decide) ?_
    exact S_zretl (by decide) dX10_isDigit_17
  · refine S_iload_n 0 dX10_isDigit_6 rfl rfl rfl ?_
    refine S_bipush (a := 57) dX10_isDigit_7 rfl (by decide) (by decide) ?_
    refine S_icmp_gt (tgt := 16) dX10_isDigit_9 (by decide) rfl (fun _ => ?_) (fun _ => ?_)
    · refine S_iconst (a := 0) dX10_isDigit_16 rfl (by decide) ?_
      exact S_zretl (by decide) dX10_isDigit_17
    · refine S_iconst (a := 1) dX10_isDigit_12 rfl (by decide) ?_
      refine S_goto (pc' := 17) dX10_isDigit_13 (by decide) ?_
      exact S_zretl (by decide) dX10_isDigit_17
def DX10_isSmall (a0 : Int) (h : qH) : Option (Int × qH) := (if a0 < 97 then some (0, h) else (if 122 < a0 then some (0, h) else some (1, h)))
set_option maxRecDepth 100000 in
theorem TX10_isSmall {L : Nat} {xs : Nat → Int32} (a0 : Int) (h : qH) : qMet L xs yX10_isSmall cX10_isSmall 1 (some .boolean) 4 1 [qi a0] h (DX10_isSmall a0 h) := by
  refine qMet.of (by decide +kernel) (Or.inr (Or.inr (Or.inr (Or.inr (Or.inl ⟨rfl, rfl⟩))))) (Nat.le_of_ble_eq_true rfl) ?_
  show qS L xs cX10_isSmall "BottlePostModel" 1 1 4 0 [(0, qi a0)] [] h (DX10_isSmall a0 h)
  unfold DX10_isSmall
  refine S_iload_n 0 dX10_isSmall_0 rfl rfl rfl ?_
  refine S_bipush (a := 97) dX10_isSmall_1 rfl (by decide) (by decide) ?_
  refine S_icmp_lt (tgt := 16) dX10_isSmall_3 (by decide) rfl (fun _ => ?_) (fun _ => ?_)
  · refine S_iconst (a := 0) dX10_isSmall_16 rfl (by decide) ?_
    exact S_zretl (by decide) dX10_isSmall_17
  · refine S_iload_n 0 dX10_isSmall_6 rfl rfl rfl ?_
    refine S_bipush (a := 122) dX10_isSmall_7 rfl (by decide) (by decide) ?_
    refine S_icmp_gt (tgt := 16) dX10_isSmall_9 (by decide) rfl (fun _ => ?_) (fun _ => ?_)
    · refine S_iconst (a := 0) dX10_isSmall_16 rfl (by decide) ?_
      exact S_zretl (by decide) dX10_isSmall_17
    · refine S_iconst (a := 1) dX10_isSmall_12 rfl (by decide) ?_
      refine S_goto (pc' := 17) dX10_isSmall_13 (by decide) ?_
      exact S_zretl (by decide) dX10_isSmall_17
def DX10_keyAt_l97 (k4 : Int → Int → qH → Option (Int × qH)) : Nat → Int → Int → qH → Option (Int × qH)
  | 0, _, _, _ => none
  | n + 1, a1, a2, h => (qbd (DJ0_charAt_5068e 29 a2 h) fun r1 h2 => (if r1 = 32 then (qlt (qw (a2 + 1)) fun v4 => (k4 (qw (a1 + 1)) v4 h2)) else ((DX10_keyAt_l97 k4 n) a1 (qw (a2 + 1)) h2)))
set_option maxRecDepth 100000 in
theorem TX10_keyAt_l97 {L : Nat} {xs : Nat → Int32} (k4 : Int → Int → qH → Option (Int × qH)) (hk4 : ∀ (a1 : Int) (a2 : Int) (h : qH), qS L xs cX10_keyAt "BottlePostModel" 4 6 1 4 [(0, qr 212), (1, qi a1), (2, qi a2)] [] h (k4 a1 a2 h)) : ∀ (n : Nat) (a1 : Int) (a2 : Int) (h : qH), qS L xs cX10_keyAt "BottlePostModel" 4 6 1 97 [(0, qr 212), (1, qi a1), (2, qi a2)] [] h (DX10_keyAt_l97 k4 n a1 a2 h) := by
  intro n
  induction n with
  | zero =>
    intro a1 a2 h
    exact S_none
  | succ n ih =>
    intro a1 a2 h
    rw [DX10_keyAt_l97.eq_2]
    refine S_ldcs (t := 29) (by decide) ⟨rfl, rfl⟩ dX10_keyAt_97 rfl ?_
    refine S_iload_n 2 dX10_keyAt_99 rfl rfl rfl ?_
    refine S_callT_i (as := [qi a2]) (st := []) (t := 29) (fun _ => rfl) (TJ0_charAt_5068e 29 a2 (by decide) h) yv_J0_charAt_5068e tw_1372 (by decide) (by decide) rfl rfl (Nat.le_of_ble_eq_true rfl) dX10_keyAt_100 rfl (fun r1 h2 e3 => ?_)
    refine S_bipush (a := 32) dX10_keyAt_103 rfl (by decide) (by decide) ?_
    refine S_icmp_eq (tgt := 114) dX10_keyAt_105 (by decide) rfl (fun _ => ?_) (fun _ => ?_)
    · refine S_iinc (lv' := [(2, qi (qw (a2 + 1))), (0, qr 212), (1, qi a1)]) 2 dX10_keyAt_114 rfl (by decide) rfl rfl ?_
      refine S_li (fun v4 => ?_)
      refine S_iinc (lv' := [(1, qi (qw (a1 + 1))), (2, qi v4), (0, qr 212)]) 2 dX10_keyAt_117 rfl (by decide) rfl rfl ?_
      refine S_goto (pc' := 4) dX10_keyAt_120 (by decide) ?_
      refine S_sub [2, 0, 1] rfl ?_
      exact hk4 (qw (a1 + 1)) v4 h2
    · refine S_iinc (lv' := [(2, qi (qw (a2 + 1))), (0, qr 212), (1, qi a1)]) 2 dX10_keyAt_108 rfl (by decide) rfl rfl ?_
      refine S_goto (pc' := 97) dX10_keyAt_111 (by decide) ?_
      refine S_sub [1, 2, 0] rfl ?_
      exact ih a1 (qw (a2 + 1)) h2
def DX10_keyAt_b69 (k4 : Int → Int → qH → Option (Int × qH)) (a1 : Int) (a2 : Int) (a3 : Int) (h : qH) : Option (Int × qH) := (qbd (DJ0_charAt_5068e 29 (qw (a2 + a3)) h) fun r5 h6 => (if ¬ r5 = 32 then (DX10_keyAt_l97 k4 LF a1 a2 h6) else (if ¬ qw (h6.1 212 6 + a3) = h6.1 212 7 then (DX10_keyAt_l97 k4 LF a1 a2 h6) else some (a1, h6))))
set_option maxRecDepth 100000 in
theorem TX10_keyAt_b69 {L : Nat} {xs : Nat → Int32} (k4 : Int → Int → qH → Option (Int × qH)) (hk4 : ∀ (a1 : Int) (a2 : Int) (h : qH), qS L xs cX10_keyAt "BottlePostModel" 4 6 1 4 [(0, qr 212), (1, qi a1), (2, qi a2)] [] h (k4 a1 a2 h)) (a1 : Int) (a2 : Int) (a3 : Int) (h : qH) : qS L xs cX10_keyAt "BottlePostModel" 4 6 1 69 [(0, qr 212), (1, qi a1), (2, qi a2), (3, qi a3)] [] h (DX10_keyAt_b69 k4 a1 a2 a3 h) := by
  unfold DX10_keyAt_b69
  refine S_ldcs (t := 29) (by decide) ⟨rfl, rfl⟩ dX10_keyAt_69 rfl ?_
  refine S_iload_n 2 dX10_keyAt_71 rfl rfl rfl ?_
  refine S_iload_n 3 dX10_keyAt_72 rfl rfl rfl ?_
  refine S_iadd dX10_keyAt_73 rfl ?_
  refine S_callT_i (as := [qi (qw (a2 + a3))]) (st := []) (t := 29) (fun _ => rfl) (TJ0_charAt_5068e 29 (qw (a2 + a3)) (by decide) h) yv_J0_charAt_5068e tw_1372 (by decide) (by decide) rfl rfl (Nat.le_of_ble_eq_true rfl) dX10_keyAt_74 rfl (fun r5 h6 e7 => ?_)
  refine S_bipush (a := 32) dX10_keyAt_77 rfl (by decide) (by decide) ?_
  refine S_icmp_ne (tgt := 97) dX10_keyAt_79 (by decide) rfl (fun _ => ?_) (fun _ => ?_)
  · refine S_sub [0, 1, 2] rfl ?_
    exact TX10_keyAt_l97 k4 hk4 LF a1 a2 h6
  · refine S_aload_n 0 dX10_keyAt_82 rfl rfl rfl ?_
    refine S_geti 6 qC_10 (by decide) (by decide) qk_212 tw_1232 dX10_keyAt_83 rfl ?_
    refine S_iload_n 3 dX10_keyAt_86 rfl rfl rfl ?_
    refine S_iadd dX10_keyAt_87 rfl ?_
    refine S_aload_n 0 dX10_keyAt_88 rfl rfl rfl ?_
    refine S_geti 7 qC_10 (by decide) (by decide) qk_212 tw_1233 dX10_keyAt_89 rfl ?_
    refine S_icmp_ne (tgt := 97) dX10_keyAt_92 (by decide) rfl (fun _ => ?_) (fun _ => ?_)
    · refine S_sub [0, 1, 2] rfl ?_
      exact TX10_keyAt_l97 k4 hk4 LF a1 a2 h6
    · refine S_iload_n 1 dX10_keyAt_95 rfl rfl rfl ?_
      exact S_iret dX10_keyAt_96
def DX10_keyAt_l15 (k4 : Int → Int → qH → Option (Int × qH)) : Nat → Int → Int → Int → qH → Option (Int × qH)
  | 0, _, _, _, _ => none
  | n + 1, a1, a2, a3, h => (qbd (DJ0_charAt_5068e 29 (qw (a2 + a3)) h) fun r8 h9 => (if r8 = 32 then (DX10_keyAt_b69 k4 a1 a2 a3 h9) else (if h9.1 212 7 ≤ qw (h9.1 212 6 + a3) then (DX10_keyAt_b69 k4 a1 a2 a3 h9) else (if 0 ≤ qw (h9.1 212 6 + a3) ∧ qw (h9.1 212 6 + a3) < 900 then (qbd (DJ0_charAt_5068e 29 (qw (a2 + a3)) h9) fun r13 h14 => (if ¬ h9.1 215 (qw (h9.1 212 6 + a3)).toNat = r13 then (DX10_keyAt_b69 k4 a1 a2 a3 h14) else ((DX10_keyAt_l15 k4 n) a1 a2 (qw (a3 + 1)) h14))) else none))))
set_option maxRecDepth 100000 in
theorem TX10_keyAt_l15 {L : Nat} {xs : Nat → Int32} (k4 : Int → Int → qH → Option (Int × qH)) (hk4 : ∀ (a1 : Int) (a2 : Int) (h : qH), qS L xs cX10_keyAt "BottlePostModel" 4 6 1 4 [(0, qr 212), (1, qi a1), (2, qi a2)] [] h (k4 a1 a2 h)) : ∀ (n : Nat) (a1 : Int) (a2 : Int) (a3 : Int) (h : qH), qS L xs cX10_keyAt "BottlePostModel" 4 6 1 15 [(0, qr 212), (1, qi a1), (2, qi a2), (3, qi a3)] [] h (DX10_keyAt_l15 k4 n a1 a2 a3 h) := by
  intro n
  induction n with
  | zero =>
    intro a1 a2 a3 h
    exact S_none
  | succ n ih =>
    intro a1 a2 a3 h
    rw [DX10_keyAt_l15.eq_2]
    refine S_ldcs (t := 29) (by decide) ⟨rfl, rfl⟩ dX10_keyAt_15 rfl ?_
    refine S_iload_n 2 dX10_keyAt_17 rfl rfl rfl ?_
    refine S_iload_n 3 dX10_keyAt_18 rfl rfl rfl ?_
    refine S_iadd dX10_keyAt_19 rfl ?_
    refine S_callT_i (as := [qi (qw (a2 + a3))]) (st := []) (t := 29) (fun _ => rfl) (TJ0_charAt_5068e 29 (qw (a2 + a3)) (by decide) h) yv_J0_charAt_5068e tw_1372 (by decide) (by decide) rfl rfl (Nat.le_of_ble_eq_true rfl) dX10_keyAt_20 rfl (fun r8 h9 e10 => ?_)
    refine S_bipush (a := 32) dX10_keyAt_23 rfl (by decide) (by decide) ?_
    refine S_icmp_eq (tgt := 69) dX10_keyAt_25 (by decide) rfl (fun _ => ?_) (fun _ => ?_)
    · exact TX10_keyAt_b69 k4 hk4 a1 a2 a3 h9
    · refine S_aload_n 0 dX10_keyAt_28 rfl rfl rfl ?_
      refine S_geti 6 qC_10 (by decide) (by decide) qk_212 tw_1232 dX10_keyAt_29 rfl ?_
      refine S_iload_n 3 dX10_keyAt_32 rfl rfl rfl ?_
      refine S_iadd dX10_keyAt_33 rfl ?_
      refine S_aload_n 0 dX10_keyAt_34 rfl rfl rfl ?_
      refine S_geti 7 qC_10 (by decide) (by decide) qk_212 tw_1233 dX10_keyAt_35 rfl ?_
      refine S_icmp_ge (tgt := 69) dX10_keyAt_38 (by decide) rfl (fun _ => ?_) (fun _ => ?_)
      · exact TX10_keyAt_b69 k4 hk4 a1 a2 a3 h9
      · refine S_aload_n 0 dX10_keyAt_41 rfl rfl rfl ?_
        refine S_getr (j := 215) (o := 3) 3 qC_10 (by decide) (by decide) qk_212 rfl rfl (by decide) tw_1229 dX10_keyAt_42 rfl ?_
        refine S_aload_n 0 dX10_keyAt_45 rfl rfl rfl ?_
        refine S_geti 6 qC_10 (by decide) (by decide) qk_212 tw_1232 dX10_keyAt_46 rfl ?_
        refine S_iload_n 3 dX10_keyAt_49 rfl rfl rfl ?_
        refine S_iadd dX10_keyAt_50 rfl ?_
        refine S_iald (N := 900) qk_215 rfl dX10_keyAt_51 rfl (fun g11 g12 => ?_)
        refine S_ldcs (t := 29) (by decide) ⟨rfl, rfl⟩ dX10_keyAt_52 rfl ?_
        refine S_iload_n 2 dX10_keyAt_54 rfl rfl rfl ?_
        refine S_iload_n 3 dX10_keyAt_55 rfl rfl rfl ?_
        refine S_iadd dX10_keyAt_56 rfl ?_
        refine S_callT_i (as := [qi (qw (a2 + a3))]) (st := [qi (h9.1 215 (qw (h9.1 212 6 + a3)).toNat)]) (t := 29) (fun _ => rfl) (TJ0_charAt_5068e 29 (qw (a2 + a3)) (by decide) h9) yv_J0_charAt_5068e tw_1372 (by decide) (by decide) rfl rfl (Nat.le_of_ble_eq_true rfl) dX10_keyAt_57 rfl (fun r13 h14 e15 => ?_)
        refine S_icmp_ne (tgt := 69) dX10_keyAt_60 (by decide) rfl (fun _ => ?_) (fun _ => ?_)
        · exact TX10_keyAt_b69 k4 hk4 a1 a2 a3 h14
        · refine S_iinc (lv' := [(3, qi (qw (a3 + 1))), (0, qr 212), (1, qi a1), (2, qi a2)]) 3 dX10_keyAt_63 rfl (by decide) rfl rfl ?_
          refine S_goto (pc' := 15) dX10_keyAt_66 (by decide) ?_
          refine S_sub [1, 2, 3, 0] rfl ?_
          exact ih a1 a2 (qw (a3 + 1)) h14
def DX10_keyAt_l4 : Nat → Int → Int → qH → Option (Int × qH)
  | 0, _, _, _ => none
  | n + 1, a1, a2, h => (qbd (DJ0_length_8abf5 29 h) fun r16 h17 => (if r16 ≤ a2 then some (30, h17) else (DX10_keyAt_l15 (DX10_keyAt_l4 n) LF a1 a2 0 h17)))
set_option maxRecDepth 100000 in
theorem TX10_keyAt_l4 {L : Nat} {xs : Nat → Int32} : ∀ (n : Nat) (a1 : Int) (a2 : Int) (h : qH), qS L xs cX10_keyAt "BottlePostModel" 4 6 1 4 [(0, qr 212), (1, qi a1), (2, qi a2)] [] h (DX10_keyAt_l4 n a1 a2 h) := by
  intro n
  induction n with
  | zero =>
    intro a1 a2 h
    exact S_none
  | succ n ih =>
    intro a1 a2 h
    rw [DX10_keyAt_l4.eq_2]
    refine S_iload_n 2 dX10_keyAt_4 rfl rfl rfl ?_
    refine S_ldcs (t := 29) (by decide) ⟨rfl, rfl⟩ dX10_keyAt_5 rfl ?_
    refine S_callT_i (as := []) (st := [qi a2]) (t := 29) (fun _ => rfl) (TJ0_length_8abf5 29 (by decide) h) yv_J0_length_8abf5 tw_1371 (by decide) (by decide) rfl rfl (Nat.le_of_ble_eq_true rfl) dX10_keyAt_7 rfl (fun r16 h17 e18 => ?_)
    refine S_icmp_ge (tgt := 123) dX10_keyAt_10 (by decide) rfl (fun _ => ?_) (fun _ => ?_)
    · refine S_bipush (a := 30) dX10_keyAt_123 rfl (by decide) (by decide) ?_
      exact S_iret dX10_keyAt_125
    · refine S_iconst (a := 0) dX10_keyAt_13 rfl (by decide) ?_
      refine S_istore_n (lv' := [(3, qi 0), (0, qr 212), (1, qi a1), (2, qi a2)]) dX10_keyAt_14 rfl (by decide) rfl rfl ?_
      refine S_sub [1, 2, 3, 0] rfl ?_
      exact TX10_keyAt_l15 (DX10_keyAt_l4 n) ih LF a1 a2 0 h17
def DX10_keyAt (h : qH) : Option (Int × qH) := (DX10_keyAt_l4 LF 0 1 h)
set_option maxRecDepth 100000 in
theorem TX10_keyAt {L : Nat} {xs : Nat → Int32} (h : qH) : qMet L xs yX10_keyAt cX10_keyAt 4 (some .int) 1 6 [qr 212] h (DX10_keyAt h) := by
  refine qMet.of (by decide +kernel) (Or.inr (Or.inl ⟨rfl, rfl⟩)) (Nat.le_of_ble_eq_true rfl) ?_
  show qS L xs cX10_keyAt "BottlePostModel" 4 6 1 0 [(0, qr 212)] [] h (DX10_keyAt h)
  unfold DX10_keyAt
  refine S_iconst (a := 0) dX10_keyAt_0 rfl (by decide) ?_
  refine S_istore_n (lv' := [(1, qi 0), (0, qr 212)]) dX10_keyAt_1 rfl (by decide) rfl rfl ?_
  refine S_iconst (a := 1) dX10_keyAt_2 rfl (by decide) ?_
  refine S_istore_n (lv' := [(2, qi 1), (1, qi 0), (0, qr 212)]) dX10_keyAt_3 rfl (by decide) rfl rfl ?_
  refine S_sub [2, 1, 0] rfl ?_
  exact TX10_keyAt_l4 LF 0 1 h
def DX10_see (a1 : Int) (h : qH) : Option (Int × qH) := (if h.1 212 8 ≤ a1 then some ((-1), h) else (if 0 ≤ a1 ∧ a1 < 900 then some (h.1 215 a1.toNat, h) else none))
set_option maxRecDepth 100000 in
theorem TX10_see {L : Nat} {xs : Nat → Int32} (a1 : Int) (h : qH) : qMet L xs yX10_see cX10_see 2 (some .int) 1 1 [qr 212, qi a1] h (DX10_see a1 h) := by
  refine qMet.of (by decide +kernel) (Or.inr (Or.inl ⟨rfl, rfl⟩)) (Nat.le_of_ble_eq_true rfl) ?_
  show qS L xs cX10_see "BottlePostModel" 2 1 1 0 [(0, qr 212), (1, qi a1)] [] h (DX10_see a1 h)
  unfold DX10_see
  refine S_iload_n 1 dX10_see_0 rfl rfl rfl ?_
  refine S_aload_n 0 dX10_see_1 rfl rfl rfl ?_
  refine S_geti 8 qC_10 (by decide) (by decide) qk_212 tw_1234 dX10_see_2 rfl ?_
  refine S_icmp_ge (tgt := 17) dX10_see_5 (by decide) rfl (fun _ => ?_) (fun _ => ?_)
  · refine S_iconst (a := (-1)) dX10_see_17 rfl (by decide) ?_
    exact S_iret dX10_see_18
  · refine S_aload_n 0 dX10_see_8 rfl rfl rfl ?_
    refine S_getr (j := 215) (o := 3) 3 qC_10 (by decide) (by decide) qk_212 rfl rfl (by decide) tw_1229 dX10_see_9 rfl ?_
    refine S_iload_n 1 dX10_see_12 rfl rfl rfl ?_
    refine S_iald (N := 900) qk_215 rfl dX10_see_13 rfl (fun g1 g2 => ?_)
    refine S_goto (pc' := 18) dX10_see_14 (by decide) ?_
    exact S_iret dX10_see_18
def DX10_next_l254 : Nat → Int → qH → Option (Int × qH)
  | 0, _, _ => none
  | n + 1, a1, h => (qbd (DJ0_length_8abf5 30 h) fun r1 h2 => (if r1 ≤ a1 then some (0, h2) else (qbd (DX10_see (h2.1 212 6) h2) fun r4 h5 => (qbd (DJ0_charAt_5068e 30 a1 h5) fun r7 h8 => (if ¬ r4 = r7 then ((DX10_next_l254 n) (qw (a1 + 1)) h8) else (qlt (qu h8 212 9 (qw (40 + a1))) fun h10 => ((DX10_next_l254 n) (qw (a1 + 1)) h10)))))))
set_option maxRecDepth 100000 in
theorem TX10_next_l254 {L : Nat} {xs : Nat → Int32} : ∀ (n : Nat) (a1 : Int) (h : qH), qS L xs cX10_next "BottlePostModel" 2 7 0 254 [(0, qr 212), (1, qi a1)] [] h (DX10_next_l254 n a1 h) := by
  intro n
  induction n with
  | zero =>
    intro a1 h
    exact S_none
  | succ n ih =>
    intro a1 h
    rw [DX10_next_l254.eq_2]
    refine S_iload_n 1 dX10_next_254 rfl rfl rfl ?_
    refine S_ldcs (t := 30) (by decide) ⟨rfl, rfl⟩ dX10_next_255 rfl ?_
    refine S_callT_i (as := []) (st := [qi a1]) (t := 30) (fun _ => rfl) (TJ0_length_8abf5 30 (by decide) h) yv_J0_length_8abf5 tw_1371 (by decide) (by decide) rfl rfl (Nat.le_of_ble_eq_true rfl) dX10_next_257 rfl (fun r1 h2 e3 => ?_)
    refine S_icmp_ge (tgt := 294) dX10_next_260 (by decide) rfl (fun _ => ?_) (fun _ => ?_)
    · exact S_vret dX10_next_294
    · refine S_aload_n 0 dX10_next_263 rfl rfl rfl ?_
      refine S_aload_n 0 dX10_next_264 rfl rfl rfl ?_
      refine S_geti 6 qC_10 (by decide) (by decide) qk_212 tw_1232 dX10_next_265 rfl ?_
      refine S_callV_i (as := [qi (h2.1 212 6)]) (st := []) (fun _ => rfl) (TX10_see (h2.1 212 6) h2) yv_X10_see tw_1359 qC_10 qk_212 (by decide) rfl rfl (Nat.le_of_ble_eq_true rfl) dX10_next_268 rfl (fun r4 h5 e6 => ?_)
      refine S_ldcs (t := 30) (by decide) ⟨rfl, rfl⟩ dX10_next_271 rfl ?_
      refine S_iload_n 1 dX10_next_273 rfl rfl rfl ?_
      refine S_callT_i (as := [qi a1]) (st := [qi r4]) (t := 30) (fun _ => rfl) (TJ0_charAt_5068e 30 a1 (by decide) h5) yv_J0_charAt_5068e tw_1372 (by decide) (by decide) rfl rfl (Nat.le_of_ble_eq_true rfl) dX10_next_274 rfl (fun r7 h8 e9 => ?_)
      refine S_icmp_ne (tgt := 288) dX10_next_277 (by decide) rfl (fun _ => ?_) (fun _ => ?_)
      · refine S_iinc (lv' := [(1, qi (qw (a1 + 1))), (0, qr 212)]) 1 dX10_next_288 rfl (by decide) rfl rfl ?_
        refine S_goto (pc' := 254) dX10_next_291 (by decide) ?_
        refine S_sub [1, 0] rfl ?_
        exact ih (qw (a1 + 1)) h8
      · refine S_aload_n 0 dX10_next_280 rfl rfl rfl ?_
        refine S_bipush (a := 40) dX10_next_281 rfl (by decide) (by decide) ?_
        refine S_iload_n 1 dX10_next_283 rfl rfl rfl ?_
        refine S_iadd dX10_next_284 rfl ?_
        refine S_puti 9 qC_10 (by decide) (by decide) rfl rfl qk_212 (by decide) tw_1235 dX10_next_285 rfl ?_
        refine S_lh (fun h10 => ?_)
        refine S_iinc (lv' := [(1, qi (qw (a1 + 1))), (0, qr 212)]) 1 dX10_next_288 rfl (by decide) rfl rfl ?_
        refine S_goto (pc' := 254) dX10_next_291 (by decide) ?_
        refine S_sub [1, 0] rfl ?_
        exact ih (qw (a1 + 1)) h10
def DX10_next_l146 : Nat → qH → Option (Int × qH)
  | 0, _ => none
  | n + 1, h => (qbd (DX10_see (h.1 212 7) h) fun r11 h12 => (qbd (DX10_isDigit r11 h12) fun r14 h15 => (if r14 = 0 then (if qw (h15.1 212 7 - h15.1 212 6) ≤ 3 then (qlt (qu h15 212 9 31) fun h17 => some (0, h17)) else (qlt (qu h15 212 9 33) fun h18 => some (0, h18))) else (if 3 ≤ qw (h15.1 212 7 - h15.1 212 6) then (qlt (qu h15 212 7 (qw (h15.1 212 7 + 1))) fun h19 => ((DX10_next_l146 n) h19)) else (qbd (DX10_see (h15.1 212 7) h15) fun r20 h21 => (qlt (qu h21 212 10 (qw (qw (qw (10 * h15.1 212 10) + r20) - 48))) fun h23 => (qlt (qu h23 212 7 (qw (h23.1 212 7 + 1))) fun h24 => ((DX10_next_l146 n) h24))))))))
set_option maxRecDepth 100000 in
theorem TX10_next_l146 {L : Nat} {xs : Nat → Int32} : ∀ (n : Nat) (h : qH), qS L xs cX10_next "BottlePostModel" 2 7 0 146 [(0, qr 212)] [] h (DX10_next_l146 n h) := by
  intro n
  induction n with
  | zero =>
    intro h
    exact S_none
  | succ n ih =>
    intro h
    rw [DX10_next_l146.eq_2]
    refine S_aload_n 0 dX10_next_146 rfl rfl rfl ?_
    refine S_aload_n 0 dX10_next_147 rfl rfl rfl ?_
    refine S_geti 7 qC_10 (by decide) (by decide) qk_212 tw_1233 dX10_next_148 rfl ?_
    refine S_callV_i (as := [qi (h.1 212 7)]) (st := []) (fun _ => rfl) (TX10_see (h.1 212 7) h) yv_X10_see tw_1359 qC_10 qk_212 (by decide) rfl rfl (Nat.le_of_ble_eq_true rfl) dX10_next_151 rfl (fun r11 h12 e13 => ?_)
    refine S_callS_i (as := [qi r11]) (st := []) (fun _ => rfl) (TX10_isDigit r11 h12) yv_X10_isDigit tw_1373 (by decide) rfl rfl (Nat.le_of_ble_eq_true rfl) dX10_next_154 rfl (fun r14 h15 e16 => ?_)
    refine S_if_eq (tgt := 209) dX10_next_157 (by decide) rfl (fun _ => ?_) (fun _ => ?_)
    · refine S_aload_n 0 dX10_next_209 rfl rfl rfl ?_
      refine S_aload_n 0 dX10_next_210 rfl rfl rfl ?_
      refine S_geti 7 qC_10 (by decide) (by decide) qk_212 tw_1233 dX10_next_211 rfl ?_
      refine S_aload_n 0 dX10_next_214 rfl rfl rfl ?_
      refine S_geti 6 qC_10 (by decide) (by decide) qk_212 tw_1232 dX10_next_215 rfl ?_
      refine S_isub dX10_next_218 rfl ?_
      refine S_iconst (a := 3) dX10_next_219 rfl (by decide) ?_
      refine S_icmp_le (tgt := 228) dX10_next_220 (by decide) rfl (fun _ => ?_) (fun _ => ?_)
      · refine S_bipush (a := 31) dX10_next_228 rfl (by decide) (by decide) ?_
        refine S_puti 9 qC_10 (by decide) (by decide) rfl rfl qk_212 (by decide) tw_1235 dX10_next_230 rfl ?_
        refine S_lh (fun h17 => ?_)
        refine S_goto (pc' := 294) dX10_next_233 (by decide) ?_
        exact S_vret dX10_next_294
      · refine S_bipush (a := 33) dX10_next_223 rfl (by decide) (by decide) ?_
        refine S_goto (pc' := 230) dX10_next_225 (by decide) ?_
        refine S_puti 9 qC_10 (by decide) (by decide) rfl rfl qk_212 (by decide) tw_1235 dX10_next_230 rfl ?_
        refine S_lh (fun h18 => ?_)
        refine S_goto (pc' := 294) dX10_next_233 (by decide) ?_
        exact S_vret dX10_next_294
    · refine S_aload_n 0 dX10_next_160 rfl rfl rfl ?_
      refine S_geti 7 qC_10 (by decide) (by decide) qk_212 tw_1233 dX10_next_161 rfl ?_
      refine S_aload_n 0 dX10_next_164 rfl rfl rfl ?_
      refine S_geti 6 qC_10 (by decide) (by decide) qk_212 tw_1232 dX10_next_165 rfl ?_
      refine S_isub dX10_next_168 rfl ?_
      refine S_iconst (a := 3) dX10_next_169 rfl (by decide) ?_
      refine S_icmp_ge (tgt := 196) dX10_next_170 (by decide) rfl (fun _ => ?_) (fun _ => ?_)
      · refine S_aload_n 0 dX10_next_196 rfl rfl rfl ?_
        refine S_dup dX10_next_197 rfl rfl ?_
        refine S_geti 7 qC_10 (by decide) (by decide) qk_212 tw_1233 dX10_next_198 rfl ?_
        refine S_iconst (a := 1) dX10_next_201 rfl (by decide) ?_
        refine S_iadd dX10_next_202 rfl ?_
        refine S_puti 7 qC_10 (by decide) (by decide) rfl rfl qk_212 (by decide) tw_1233 dX10_next_203 rfl ?_
        refine S_lh (fun h19 => ?_)
        refine S_goto (pc' := 146) dX10_next_206 (by decide) ?_
        exact ih h19
      · refine S_aload_n 0 dX10_next_173 rfl rfl rfl ?_
        refine S_bipush (a := 10) dX10_next_174 rfl (by decide) (by decide) ?_
        refine S_aload_n 0 dX10_next_176 rfl rfl rfl ?_
        refine S_geti 10 qC_10 (by decide) (by decide) qk_212 tw_1236 dX10_next_177 rfl ?_
        refine S_imul dX10_next_180 rfl ?_
        refine S_aload_n 0 dX10_next_181 rfl rfl rfl ?_
        refine S_aload_n 0 dX10_next_182 rfl rfl rfl ?_
        refine S_geti 7 qC_10 (by decide) (by decide) qk_212 tw_1233 dX10_next_183 rfl ?_
        refine S_callV_i (as := [qi (h15.1 212 7)]) (st := [qi (qw (10 * h15.1 212 10)), qr 212]) (fun _ => rfl) (TX10_see (h15.1 212 7) h15) yv_X10_see tw_1359 qC_10 qk_212 (by decide) rfl rfl (Nat.le_of_ble_eq_true rfl) dX10_next_186 rfl (fun r20 h21 e22 => ?_)
        refine S_iadd dX10_next_189 rfl ?_
        refine S_bipush (a := 48) dX10_next_190 rfl (by decide) (by decide) ?_
        refine S_isub dX10_next_192 rfl ?_
        refine S_puti 10 qC_10 (by decide) (by decide) rfl rfl qk_212 (by decide) tw_1236 dX10_next_193 rfl ?_
        refine S_lh (fun h23 => ?_)
        refine S_aload_n 0 dX10_next_196 rfl rfl rfl ?_
        refine S_dup dX10_next_197 rfl rfl ?_
        refine S_geti 7 qC_10 (by decide) (by decide) qk_212 tw_1233 dX10_next_198 rfl ?_
        refine S_iconst (a := 1) dX10_next_201 rfl (by decide) ?_
        refine S_iadd dX10_next_202 rfl ?_
        refine S_puti 7 qC_10 (by decide) (by decide) rfl rfl qk_212 (by decide) tw_1233 dX10_next_203 rfl ?_
        refine S_lh (fun h24 => ?_)
        refine S_goto (pc' := 146) dX10_next_206 (by decide) ?_
        exact ih h24
def DX10_next_l89 : Nat → qH → Option (Int × qH)
  | 0, _ => none
  | n + 1, h => (qbd (DX10_see (h.1 212 7) h) fun r25 h26 => (qbd (DX10_isSmall r25 h26) fun r28 h29 => (if r28 = 0 then (qbd (DX10_keyAt h29) fun r31 h32 => (qlt (qu h32 212 9 r31) fun h34 => some (0, h34))) else (qlt (qu h29 212 7 (qw (h29.1 212 7 + 1))) fun h35 => ((DX10_next_l89 n) h35)))))
set_option maxRecDepth 100000 in
theorem TX10_next_l89 {L : Nat} {xs : Nat → Int32} : ∀ (n : Nat) (h : qH), qS L xs cX10_next "BottlePostModel" 2 7 0 89 [(0, qr 212)] [] h (DX10_next_l89 n h) := by
  intro n
  induction n with
  | zero =>
    intro h
    exact S_none
  | succ n ih =>
    intro h
    rw [DX10_next_l89.eq_2]
    refine S_aload_n 0 dX10_next_89 rfl rfl rfl ?_
    refine S_aload_n 0 dX10_next_90 rfl rfl rfl ?_
    refine S_geti 7 qC_10 (by decide) (by decide) qk_212 tw_1233 dX10_next_91 rfl ?_
    refine S_callV_i (as := [qi (h.1 212 7)]) (st := []) (fun _ => rfl) (TX10_see (h.1 212 7) h) yv_X10_see tw_1359 qC_10 qk_212 (by decide) rfl rfl (Nat.le_of_ble_eq_true rfl) dX10_next_94 rfl (fun r25 h26 e27 => ?_)
    refine S_callS_i (as := [qi r25]) (st := []) (fun _ => rfl) (TX10_isSmall r25 h26) yv_X10_isSmall tw_1363 (by decide) rfl rfl (Nat.le_of_ble_eq_true rfl) dX10_next_97 rfl (fun r28 h29 e30 => ?_)
    refine S_if_eq (tgt := 116) dX10_next_100 (by decide) rfl (fun _ => ?_) (fun _ => ?_)
    · refine S_aload_n 0 dX10_next_116 rfl rfl rfl ?_
      refine S_aload_n 0 dX10_next_117 rfl rfl rfl ?_
      refine S_callV_i (as := []) (st := [qr 212]) (fun _ => rfl) (TX10_keyAt h29) yv_X10_keyAt tw_1366 qC_10 qk_212 (by decide) rfl rfl (Nat.le_of_ble_eq_true rfl) dX10_next_118 rfl (fun r31 h32 e33 => ?_)
      refine S_puti 9 qC_10 (by decide) (by decide) rfl rfl qk_212 (by decide) tw_1235 dX10_next_121 rfl ?_
      refine S_lh (fun h34 => ?_)
      refine S_goto (pc' := 294) dX10_next_124 (by decide) ?_
      exact S_vret dX10_next_294
    · refine S_aload_n 0 dX10_next_103 rfl rfl rfl ?_
      refine S_dup dX10_next_104 rfl rfl ?_
      refine S_geti 7 qC_10 (by decide) (by decide) qk_212 tw_1233 dX10_next_105 rfl ?_
      refine S_iconst (a := 1) dX10_next_108 rfl (by decide) ?_
      refine S_iadd dX10_next_109 rfl ?_
      refine S_puti 7 qC_10 (by decide) (by decide) rfl rfl qk_212 (by decide) tw_1233 dX10_next_110 rfl ?_
      refine S_lh (fun h35 => ?_)
      refine S_goto (pc' := 89) dX10_next_113 (by decide) ?_
      exact ih h35
def DX10_next_l8 : Nat → qH → Option (Int × qH)
  | 0, _ => none
  | n + 1, h => (qbd (DX10_see (h.1 212 6) h) fun r36 h37 => (if r36 = 10 then (qlt (qu h37 212 6 (qw (h37.1 212 6 + 1))) fun h39 => ((DX10_next_l8 n) h39)) else (qbd (DX10_see (h37.1 212 6) h37) fun r40 h41 => (if ¬ r40 = 32 then (qlt (qu h41 212 7 (h41.1 212 6)) fun h43 => (if h43.1 212 6 < h43.1 212 8 then (qbd (DX10_see (h43.1 212 6) h43) fun r44 h45 => (qbd (DX10_isSmall r44 h45) fun r47 h48 => (if r47 = 0 then (qbd (DX10_see (h48.1 212 6) h48) fun r50 h51 => (qbd (DX10_isDigit r50 h51) fun r53 h54 => (if r53 = 0 then (qlt (qu h54 212 7 (qw (h54.1 212 7 + 1))) fun h56 => (qlt (qu h56 212 9 33) fun h57 => (DX10_next_l254 LF 0 h57))) else (qlt (qu h54 212 10 0) fun h58 => (DX10_next_l146 LF h58))))) else (DX10_next_l89 LF h48)))) else (qlt (qu h43 212 9 32) fun h59 => some (0, h59)))) else (qlt (qu h41 212 6 (qw (h41.1 212 6 + 1))) fun h60 => ((DX10_next_l8 n) h60))))))
set_option maxRecDepth 100000 in
theorem TX10_next_l8 {L : Nat} {xs : Nat → Int32} : ∀ (n : Nat) (h : qH), qS L xs cX10_next "BottlePostModel" 2 7 0 8 [(0, qr 212)] [] h (DX10_next_l8 n h) := by
  intro n
  induction n with
  | zero =>
    intro h
    exact S_none
  | succ n ih =>
    intro h
    rw [DX10_next_l8.eq_2]
    refine S_aload_n 0 dX10_next_8 rfl rfl rfl ?_
    refine S_aload_n 0 dX10_next_9 rfl rfl rfl ?_
    refine S_geti 6 qC_10 (by decide) (by decide) qk_212 tw_1232 dX10_next_10 rfl ?_
    refine S_callV_i (as := [qi (h.1 212 6)]) (st := []) (fun _ => rfl) (TX10_see (h.1 212 6) h) yv_X10_see tw_1359 qC_10 qk_212 (by decide) rfl rfl (Nat.le_of_ble_eq_true rfl) dX10_next_13 rfl (fun r36 h37 e38 => ?_)
    refine S_bipush (a := 10) dX10_next_16 rfl (by decide) (by decide) ?_
    refine S_icmp_eq (tgt := 34) dX10_next_18 (by decide) rfl (fun _ => ?_) (fun _ => ?_)
    · refine S_aload_n 0 dX10_next_34 rfl rfl rfl ?_
      refine S_dup dX10_next_35 rfl rfl ?_
      refine S_geti 6 qC_10 (by decide) (by decide) qk_212 tw_1232 dX10_next_36 rfl ?_
      refine S_iconst (a := 1) dX10_next_39 rfl (by decide) ?_
      refine S_iadd dX10_next_40 rfl ?_
      refine S_puti 6 qC_10 (by decide) (by decide) rfl rfl qk_212 (by decide) tw_1232 dX10_next_41 rfl ?_
      refine S_lh (fun h39 => ?_)
      refine S_goto (pc' := 8) dX10_next_44 (by decide) ?_
      exact ih h39
    · refine S_aload_n 0 dX10_next_21 rfl rfl rfl ?_
      refine S_aload_n 0 dX10_next_22 rfl rfl rfl ?_
      refine S_geti 6 qC_10 (by decide) (by decide) qk_212 tw_1232 dX10_next_23 rfl ?_
      refine S_callV_i (as := [qi (h37.1 212 6)]) (st := []) (fun _ => rfl) (TX10_see (h37.1 212 6) h37) yv_X10_see tw_1359 qC_10 qk_212 (by decide) rfl rfl (Nat.le_of_ble_eq_true rfl) dX10_next_26 rfl (fun r40 h41 e42 => ?_)
      refine S_bipush (a := 32) dX10_next_29 rfl (by decide) (by decide) ?_
      refine S_icmp_ne (tgt := 47) dX10_next_31 (by decide) rfl (fun _ => ?_) (fun _ => ?_)
      · refine S_aload_n 0 dX10_next_47 rfl rfl rfl ?_
        refine S_aload_n 0 dX10_next_48 rfl rfl rfl ?_
        refine S_geti 6 qC_10 (by decide) (by decide) qk_212 tw_1232 dX10_next_49 rfl ?_
        refine S_puti 7 qC_10 (by decide) (by decide) rfl rfl qk_212 (by decide) tw_1233 dX10_next_52 rfl ?_
        refine S_lh (fun h43 => ?_)
        refine S_aload_n 0 dX10_next_55 rfl rfl rfl ?_
        refine S_geti 6 qC_10 (by decide) (by decide) qk_212 tw_1232 dX10_next_56 rfl ?_
        refine S_aload_n 0 dX10_next_59 rfl rfl rfl ?_
        refine S_geti 8 qC_10 (by decide) (by decide) qk_212 tw_1234 dX10_next_60 rfl ?_
        refine S_icmp_lt (tgt := 75) dX10_next_63 (by decide) rfl (fun _ => ?_) (fun _ => ?_)
        · refine S_aload_n 0 dX10_next_75 rfl rfl rfl ?_
          refine S_aload_n 0 dX10_next_76 rfl rfl rfl ?_
          refine S_geti 6 qC_10 (by decide) (by decide) qk_212 tw_1232 dX10_next_77 rfl ?_
          refine S_callV_i (as := [qi (h43.1 212 6)]) (st := []) (fun _ => rfl) (TX10_see (h43.1 212 6) h43) yv_X10_see tw_1359 qC_10 qk_212 (by decide) rfl rfl (Nat.le_of_ble_eq_true rfl) dX10_next_80 rfl (fun r44 h45 e46 => ?_)
          refine S_callS_i (as := [qi r44]) (st := []) (fun _ => rfl) (TX10_isSmall r44 h45) yv_X10_isSmall tw_1363 (by decide) rfl rfl (Nat.le_of_ble_eq_true rfl) dX10_next_83 rfl (fun r47 h48 e49 => ?_)
          refine S_if_eq (tgt := 127) dX10_next_86 (by decide) rfl (fun _ => ?_) (fun _ => ?_)
          · refine S_aload_n 0 dX10_next_127 rfl rfl rfl ?_
            refine S_aload_n 0 dX10_next_128 rfl rfl rfl ?_
            refine S_geti 6 qC_10 (by decide) (by decide) qk_212 tw_1232 dX10_next_129 rfl ?_
            refine S_callV_i (as := [qi (h48.1 212 6)]) (st := []) (fun _ => rfl) (TX10_see (h48.1 212 6) h48) yv_X10_see tw_1359 qC_10 qk_212 (by decide) rfl rfl (Nat.le_of_ble_eq_true rfl) dX10_next_132 rfl (fun r50 h51 e52 => ?_)
            refine S_callS_i (as := [qi r50]) (st := []) (fun _ => rfl) (TX10_isDigit r50 h51) yv_X10_isDigit tw_1373 (by decide) rfl rfl (Nat.le_of_ble_eq_true rfl) dX10_next_135 rfl (fun r53 h54 e55 => ?_)
            refine S_if_eq (tgt := 236) dX10_next_138 (by decide) rfl (fun _ => ?_) (fun _ => ?_)
            · refine S_aload_n 0 dX10_next_236 rfl rfl rfl ?_
              refine S_dup dX10_next_237 rfl rfl ?_
              refine S_geti 7 qC_10 (by decide) (by decide) qk_212 tw_1233 dX10_next_238 rfl ?_
              refine S_iconst (a := 1) dX10_next_241 rfl (by decide) ?_
              refine S_iadd dX10_next_242 rfl ?_
              refine S_puti 7 qC_10 (by decide) (by decide) rfl rfl qk_212 (by decide) tw_1233 dX10_next_243 rfl ?_
              refine S_lh (fun h56 => ?_)
              refine S_aload_n 0 dX10_next_246 rfl rfl rfl ?_
              refine S_bipush (a := 33) dX10_next_247 rfl (by decide) (by decide) ?_
              refine S_puti 9 qC_10 (by decide) (by decide) rfl rfl qk_212 (by decide) tw_1235 dX10_next_249 rfl ?_
              refine S_lh (fun h57 => ?_)
              refine S_iconst (a := 0) dX10_next_252 rfl (by decide) ?_
              refine S_istore_n (lv' := [(1, qi 0), (0, qr 212)]) dX10_next_253 rfl (by decide) rfl rfl ?_
              refine S_sub [1, 0] rfl ?_
              exact TX10_next_l254 LF 0 h57
            · refine S_aload_n 0 dX10_next_141 rfl rfl rfl ?_
              refine S_iconst (a := 0) dX10_next_142 rfl (by decide) ?_
              refine S_puti 10 qC_10 (by decide) (by decide) rfl rfl qk_212 (by decide) tw_1236 dX10_next_143 rfl ?_
              refine S_lh (fun h58 => ?_)
              exact TX10_next_l146 LF h58
          · exact TX10_next_l89 LF h48
        · refine S_aload_n 0 dX10_next_66 rfl rfl rfl ?_
          refine S_bipush (a := 32) dX10_next_67 rfl (by decide) (by decide) ?_
          refine S_puti 9 qC_10 (by decide) (by decide) rfl rfl qk_212 (by decide) tw_1235 dX10_next_69 rfl ?_
          refine S_lh (fun h59 => ?_)
          refine S_goto (pc' := 294) dX10_next_72 (by decide) ?_
          exact S_vret dX10_next_294
      · refine S_aload_n 0 dX10_next_34 rfl rfl rfl ?_
        refine S_dup dX10_next_35 rfl rfl ?_
        refine S_geti 6 qC_10 (by decide) (by decide) qk_212 tw_1232 dX10_next_36 rfl ?_
        refine S_iconst (a := 1) dX10_next_39 rfl (by decide) ?_
        refine S_iadd dX10_next_40 rfl ?_
        refine S_puti 6 qC_10 (by decide) (by decide) rfl rfl qk_212 (by decide) tw_1232 dX10_next_41 rfl ?_
        refine S_lh (fun h60 => ?_)
        refine S_goto (pc' := 8) dX10_next_44 (by decide) ?_
        exact ih h60
def DX10_next (h : qH) : Option (Int × qH) := (qlt (qu h 212 6 (h.1 212 7)) fun h61 => (DX10_next_l8 LF h61))
set_option maxRecDepth 100000 in
theorem TX10_next {L : Nat} {xs : Nat → Int32} (h : qH) : qMet L xs yX10_next cX10_next 2 (none) 0 7 [qr 212] h (DX10_next h) := by
  refine qMet.of (by decide +kernel) (Or.inl ⟨rfl, rfl⟩) (Nat.le_of_ble_eq_true rfl) ?_
  show qS L xs cX10_next "BottlePostModel" 2 7 0 0 [(0, qr 212)] [] h (DX10_next h)
  unfold DX10_next
  refine S_aload_n 0 dX10_next_0 rfl rfl rfl ?_
  refine S_aload_n 0 dX10_next_1 rfl rfl rfl ?_
  refine S_geti 7 qC_10 (by decide) (by decide) qk_212 tw_1233 dX10_next_2 rfl ?_
  refine S_puti 6 qC_10 (by decide) (by decide) rfl rfl qk_212 (by decide) tw_1232 dX10_next_5 rfl ?_
  refine S_lh (fun h61 => ?_)
  exact TX10_next_l8 LF h61
