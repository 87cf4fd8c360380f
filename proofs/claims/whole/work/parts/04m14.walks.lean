def DX10_keepsAll_l2 : Nat → Int → qH → Option (Int × qH)
  | 0, _, _ => none
  | n + 1, a1, h => (if 66 ≤ a1 then some (0, h) else (if 0 ≤ qw (284 + a1) ∧ qw (284 + a1) < 5736 then (if 0 ≤ a1 ∧ a1 < 66 then qlt (qu h 219 a1.toNat (h.1 213 (qw (284 + a1)).toNat)) fun h3 => ((DX10_keepsAll_l2 n) (qw (a1 + 1)) h3) else none) else none))
set_option maxRecDepth 100000 in
theorem TX10_keepsAll_l2 {L : Nat} {xs : Nat → Int32} : ∀ (n : Nat) (a1 : Int) (h : qH), qS L xs cX10_keepsAll "BottlePostModel" 2 1 0 2 [(0, qr 212), (1, qi a1)] [] h (DX10_keepsAll_l2 n a1 h) := by
  intro n
  induction n with
  | zero =>
    intro a1 h
    exact S_none
  | succ n ih =>
    intro a1 h
    rw [DX10_keepsAll_l2.eq_2]
    refine S_iload_n 1 dX10_keepsAll_2 rfl rfl rfl ?_
    refine S_bipush (a := 66) dX10_keepsAll_3 rfl (by decide) (by decide) ?_
    refine S_icmp_ge (tgt := 30) dX10_keepsAll_5 (by decide) rfl (fun _ => ?_) (fun _ => ?_)
    · exact S_vret dX10_keepsAll_30
    · refine S_aload_n 0 dX10_keepsAll_8 rfl rfl rfl ?_
      refine S_getr (j := 219) (o := 7) 20 qC_10 (by decide) (by decide) qk_212 rfl rfl (by decide) tw_1246 dX10_keepsAll_9 rfl ?_
      refine S_iload_n 1 dX10_keepsAll_12 rfl rfl rfl ?_
      refine S_aload_n 0 dX10_keepsAll_13 rfl rfl rfl ?_
      refine S_getr (j := 213) (o := 1) 1 qC_10 (by decide) (by decide) qk_212 rfl rfl (by decide) tw_1227 dX10_keepsAll_14 rfl ?_
      refine S_sipush (a := 284) dX10_keepsAll_17 rfl (by decide) (by decide) ?_
      refine S_iload_n 1 dX10_keepsAll_20 rfl rfl rfl ?_
      refine S_iadd dX10_keepsAll_21 rfl ?_
      refine S_iald (N := 5736) qk_213 rfl dX10_keepsAll_22 rfl (fun g1 g2 => ?_)
      refine S_iast (N := 66) qk_219 rfl dX10_keepsAll_23 rfl (fun _ _ => ?_)
      refine S_lh (fun h3 => ?_)
      refine S_iinc (lv' := [(1, qi (qw (a1 + 1))), (0, qr 212)]) 1 dX10_keepsAll_24 rfl (by decide) rfl rfl ?_
      refine S_goto (pc' := 2) dX10_keepsAll_27 (by decide) ?_
      refine S_sub [1, 0] rfl ?_
      exact ih (qw (a1 + 1)) h3
def DX10_keepsAll (h : qH) : Option (Int × qH) := (DX10_keepsAll_l2 LF 0 h)
set_option maxRecDepth 100000 in
theorem TX10_keepsAll {L : Nat} {xs : Nat → Int32} (h : qH) : qMet L xs yX10_keepsAll cX10_keepsAll 2 (none) 0 1 [qr 212] h (DX10_keepsAll h) := by
  refine qMet.of (by decide +kernel) (Or.inl ⟨rfl, rfl⟩) (Nat.le_of_ble_eq_true rfl) ?_
  show qS L xs cX10_keepsAll "BottlePostModel" 2 1 0 0 [(0, qr 212)] [] h (DX10_keepsAll h)
  unfold DX10_keepsAll
  refine S_iconst (a := 0) dX10_keepsAll_0 rfl (by decide) ?_
  refine S_istore_n (lv' := [(1, qi 0), (0, qr 212)]) dX10_keepsAll_1 rfl (by decide) rfl rfl ?_
  refine S_sub [1, 0] rfl ?_
  exact TX10_keepsAll_l2 LF 0 h
def DX10_noTray (a1 : Int) (h : qH) : Option (Int × qH) := (qbd (DX10_within a1 0 3 h) fun r1 h2 => (if ¬ r1 = 0 then (if 0 ≤ a1 ∧ a1 < 4 then (if ¬ h2.1 222 a1.toNat = (-1) then some (0, h2) else some ((-6), h2)) else none) else some ((-2), h2)))
set_option maxRecDepth 100000 in
theorem TX10_noTray {L : Nat} {xs : Nat → Int32} (a1 : Int) (h : qH) : qMet L xs yX10_noTray cX10_noTray 2 (some .int) 1 2 [qr 212, qi a1] h (DX10_noTray a1 h) := by
  refine qMet.of (by decide +kernel) (Or.inr (Or.inl ⟨rfl, rfl⟩)) (Nat.le_of_ble_eq_true rfl) ?_
  show qS L xs cX10_noTray "BottlePostModel" 2 2 1 0 [(0, qr 212), (1, qi a1)] [] h (DX10_noTray a1 h)
  unfold DX10_noTray
  refine S_iload_n 1 dX10_noTray_0 rfl rfl rfl ?_
  refine S_i2l dX10_noTray_1 rfl ?_
  refine S_lconst (a := 0) dX10_noTray_2 rfl (by decide) (by decide) ?_
  refine S_ldc2 (a := 3) dX10_noTray_3 rfl (by rw [show Int64.ofInt 3 = (3 : Int64) from by decide]; exact tw_1638) (by decide) ?_
  refine S_callS_i (as := [ql a1, ql 0, ql 3]) (st := []) (fun _ => rfl) (TX10_within a1 0 3 h) yv_X10_within tw_1352 (by decide) rfl rfl (Nat.le_of_ble_eq_true rfl) dX10_noTray_6 rfl (fun r1 h2 e3 => ?_)
  refine S_if_ne (tgt := 17) dX10_noTray_9 (by decide) rfl (fun _ => ?_) (fun _ => ?_)
  · refine S_aload_n 0 dX10_noTray_17 rfl rfl rfl ?_
    refine S_getr (j := 222) (o := 10) 36 qC_10 (by decide) (by decide) qk_212 rfl rfl (by decide) tw_1262 dX10_noTray_18 rfl ?_
    refine S_iload_n 1 dX10_noTray_21 rfl rfl rfl ?_
    refine S_iald (N := 4) qk_222 rfl dX10_noTray_22 rfl (fun g4 g5 => ?_)
    refine S_iconst (a := (-1)) dX10_noTray_23 rfl (by decide) ?_
    refine S_icmp_ne (tgt := 32) dX10_noTray_24 (by decide) rfl (fun _ => ?_) (fun _ => ?_)
    · refine S_iconst (a := 0) dX10_noTray_32 rfl (by decide) ?_
      exact S_iret dX10_noTray_33
    · refine S_bipush (a := (-6)) dX10_noTray_27 rfl (by decide) (by decide) ?_
      refine S_goto (pc' := 33) dX10_noTray_29 (by decide) ?_
      exact S_iret dX10_noTray_33
  · refine S_bipush (a := (-2)) dX10_noTray_12 rfl (by decide) (by decide) ?_
    refine S_goto (pc' := 33) dX10_noTray_14 (by decide) ?_
    exact S_iret dX10_noTray_33
def DX10_whyLift (a1 : Int) (h : qH) : Option (Int × qH) := (qbd (DX10_isBottle a1 h) fun r1 h2 => (if ¬ r1 = 0 then (if 0 ≤ qw (284 + qw (8 * qw a1)) ∧ qw (284 + qw (8 * qw a1)) < 5736 then (if ¬ h2.1 213 (qw (284 + qw (8 * qw a1))).toNat = 0 then some (2, h2) else some (0, h2)) else none) else some (1, h2)))
set_option maxRecDepth 100000 in
theorem TX10_whyLift {L : Nat} {xs : Nat → Int32} (a1 : Int) (h : qH) : qMet L xs yX10_whyLift cX10_whyLift 3 (some .int) 1 3 [qr 212, ql a1] h (DX10_whyLift a1 h) := by
  refine qMet.of (by decide +kernel) (Or.inr (Or.inl ⟨rfl, rfl⟩)) (Nat.le_of_ble_eq_true rfl) ?_
  show qS L xs cX10_whyLift "BottlePostModel" 3 3 1 0 [(0, qr 212), (1, ql a1)] [] h (DX10_whyLift a1 h)
  unfold DX10_whyLift
  refine S_aload_n 0 dX10_whyLift_0 rfl rfl rfl ?_
  refine S_lload_n 1 dX10_whyLift_1 rfl rfl rfl ?_
  refine S_callV_i (as := [ql a1]) (st := []) (fun _ => rfl) (TX10_isBottle a1 h) yv_X10_isBottle tw_1543 qC_10 qk_212 (by decide) rfl rfl (Nat.le_of_ble_eq_true rfl) dX10_whyLift_2 rfl (fun r1 h2 e3 => ?_)
  refine S_if_ne (tgt := 12) dX10_whyLift_5 (by decide) rfl (fun _ => ?_) (fun _ => ?_)
  · refine S_aload_n 0 dX10_whyLift_12 rfl rfl rfl ?_
    refine S_getr (j := 213) (o := 1) 1 qC_10 (by decide) (by decide) qk_212 rfl rfl (by decide) tw_1227 dX10_whyLift_13 rfl ?_
    refine S_sipush (a := 284) dX10_whyLift_16 rfl (by decide) (by decide) ?_
    refine S_bipush (a := 8) dX10_whyLift_19 rfl (by decide) (by decide) ?_
    refine S_lload_n 1 dX10_whyLift_21 rfl rfl rfl ?_
    refine S_l2i dX10_whyLift_22 rfl ?_
    refine S_imul dX10_whyLift_23 rfl ?_
    refine S_iadd dX10_whyLift_24 rfl ?_
    refine S_iald (N := 5736) qk_213 rfl dX10_whyLift_25 rfl (fun g4 g5 => ?_)
    refine S_if_ne (tgt := 33) dX10_whyLift_26 (by decide) rfl (fun _ => ?_) (fun _ => ?_)
    · refine S_iconst (a := 2) dX10_whyLift_33 rfl (by decide) ?_
      exact S_iret dX10_whyLift_34
    · refine S_iconst (a := 0) dX10_whyLift_29 rfl (by decide) ?_
      refine S_goto (pc' := 34) dX10_whyLift_30 (by decide) ?_
      exact S_iret dX10_whyLift_34
  · refine S_iconst (a := 1) dX10_whyLift_8 rfl (by decide) ?_
    refine S_goto (pc' := 34) dX10_whyLift_9 (by decide) ?_
    exact S_iret dX10_whyLift_34
def DX10_whyThrow_b24 (a1 : Int) (a3 : Int) (h : qH) : Option (Int × qH) := (if ¬ qcmp a1 a3 = 0 then (qbd (DX10_throwsTo (qw a1) h) fun r1 h2 => (if ¬ r1 = (-1) then (if ¬ h2.1 213 348 = 8 then some (0, h2) else some (3, h2)) else some (2, h2))) else some (1, h))
set_option maxRecDepth 100000 in
theorem TX10_whyThrow_b24 {L : Nat} {xs : Nat → Int32} (a1 : Int) (a3 : Int) (h : qH) : qS L xs cX10_whyThrow "BottlePostModel" 5 4 1 24 [(0, qr 212), (1, ql a1), (3, ql a3)] [] h (DX10_whyThrow_b24 a1 a3 h) := by
  unfold DX10_whyThrow_b24
  refine S_lload_n 1 dX10_whyThrow_24 rfl rfl rfl ?_
  refine S_lload_n 2 dX10_whyThrow_25 rfl rfl rfl ?_
  refine S_lcmp dX10_whyThrow_26 rfl ?_
  refine S_if_ne (tgt := 32) dX10_whyThrow_27 (by decide) rfl (fun _ => ?_) (fun _ => ?_)
  · refine S_aload_n 0 dX10_whyThrow_32 rfl rfl rfl ?_
    refine S_lload_n 1 dX10_whyThrow_33 rfl rfl rfl ?_
    refine S_l2i dX10_whyThrow_34 rfl ?_
    refine S_callV_i (as := [qi (qw a1)]) (st := []) (fun _ => rfl) (TX10_throwsTo (qw a1) h) yv_X10_throwsTo tw_1485 qC_10 qk_212 (by decide) rfl rfl (Nat.le_of_ble_eq_true rfl) dX10_whyThrow_35 rfl (fun r1 h2 e3 => ?_)
    refine S_iconst (a := (-1)) dX10_whyThrow_38 rfl (by decide) ?_
    refine S_icmp_ne (tgt := 46) dX10_whyThrow_39 (by decide) rfl (fun _ => ?_) (fun _ => ?_)
    · refine S_aload_n 0 dX10_whyThrow_46 rfl rfl rfl ?_
      refine S_getr (j := 213) (o := 1) 1 qC_10 (by decide) (by decide) qk_212 rfl rfl (by decide) tw_1227 dX10_whyThrow_47 rfl ?_
      refine S_sipush (a := 348) dX10_whyThrow_50 rfl (by decide) (by decide) ?_
      refine S_pick_t ((0 : Int) ≤ 348 ∧ (348 : Int) < 5736) (by decide) ?_
      refine S_iald (N := 5736) qk_213 rfl dX10_whyThrow_53 rfl (fun g4 g5 => ?_)
      refine S_bipush (a := 8) dX10_whyThrow_54 rfl (by decide) (by decide) ?_
      refine S_icmp_ne (tgt := 63) dX10_whyThrow_56 (by decide) rfl (fun _ => ?_) (fun _ => ?_)
      · refine S_iconst (a := 0) dX10_whyThrow_63 rfl (by decide) ?_
        exact S_iret dX10_whyThrow_64
      · refine S_iconst (a := 3) dX10_whyThrow_59 rfl (by decide) ?_
        refine S_goto (pc' := 64) dX10_whyThrow_60 (by decide) ?_
        exact S_iret dX10_whyThrow_64
    · refine S_iconst (a := 2) dX10_whyThrow_42 rfl (by decide) ?_
      refine S_goto (pc' := 64) dX10_whyThrow_43 (by decide) ?_
      exact S_iret dX10_whyThrow_64
  · refine S_iconst (a := 1) dX10_whyThrow_30 rfl (by decide) ?_
    exact S_iret dX10_whyThrow_31
def DX10_whyThrow (a1 : Int) (a3 : Int) (h : qH) : Option (Int × qH) := (qbd (DX10_isShore a1 h) fun r6 h7 => (if r6 = 0 then some (1, h7) else (if qcmp a3 (-1) = 0 then (DX10_whyThrow_b24 a1 a3 h7) else (qbd (DX10_isShore a3 h7) fun r9 h10 => (if r9 = 0 then some (1, h10) else (DX10_whyThrow_b24 a1 a3 h10))))))
set_option maxRecDepth 100000 in
theorem TX10_whyThrow {L : Nat} {xs : Nat → Int32} (a1 : Int) (a3 : Int) (h : qH) : qMet L xs yX10_whyThrow cX10_whyThrow 5 (some .int) 1 4 [qr 212, ql a1, ql a3] h (DX10_whyThrow a1 a3 h) := by
  refine qMet.of (by decide +kernel) (Or.inr (Or.inl ⟨rfl, rfl⟩)) (Nat.le_of_ble_eq_true rfl) ?_
  show qS L xs cX10_whyThrow "BottlePostModel" 5 4 1 0 [(0, qr 212), (1, ql a1), (3, ql a3)] [] h (DX10_whyThrow a1 a3 h)
  unfold DX10_whyThrow
  refine S_aload_n 0 dX10_whyThrow_0 rfl rfl rfl ?_
  refine S_lload_n 1 dX10_whyThrow_1 rfl rfl rfl ?_
  refine S_callV_i (as := [ql a1]) (st := []) (fun _ => rfl) (TX10_isShore a1 h) yv_X10_isShore tw_1481 qC_10 qk_212 (by decide) rfl rfl (Nat.le_of_ble_eq_true rfl) dX10_whyThrow_2 rfl (fun r6 h7 e8 => ?_)
  refine S_if_eq (tgt := 30) dX10_whyThrow_5 (by decide) rfl (fun _ => ?_) (fun _ => ?_)
  · refine S_iconst (a := 1) dX10_whyThrow_30 rfl (by decide) ?_
    exact S_iret dX10_whyThrow_31
  · refine S_lload_n 2 dX10_whyThrow_8 rfl rfl rfl ?_
    refine S_ldc2 (a := (-1)) dX10_whyThrow_9 rfl (by rw [show Int64.ofInt (-1) = ((-1) : Int64) from by decide]; exact tw_1556) (by decide) ?_
    refine S_lcmp dX10_whyThrow_12 rfl ?_
    refine S_if_eq (tgt := 24) dX10_whyThrow_13 (by decide) rfl (fun _ => ?_) (fun _ => ?_)
    · exact TX10_whyThrow_b24 a1 a3 h7
    · refine S_aload_n 0 dX10_whyThrow_16 rfl rfl rfl ?_
      refine S_lload_n 2 dX10_whyThrow_17 rfl rfl rfl ?_
      refine S_callV_i (as := [ql a3]) (st := []) (fun _ => rfl) (TX10_isShore a3 h7) yv_X10_isShore tw_1481 qC_10 qk_212 (by decide) rfl rfl (Nat.le_of_ble_eq_true rfl) dX10_whyThrow_18 rfl (fun r9 h10 e11 => ?_)
      refine S_if_eq (tgt := 30) dX10_whyThrow_21 (by decide) rfl (fun _ => ?_) (fun _ => ?_)
      · refine S_iconst (a := 1) dX10_whyThrow_30 rfl (by decide) ?_
        exact S_iret dX10_whyThrow_31
      · exact TX10_whyThrow_b24 a1 a3 h10
def DX10_whyNot (a1 : Int) (h : qH) : Option (Int × qH) := (if ¬ qcmp a1 (-1) = 0 then (qbd (DX10_within a1 1000 1099 h) fun r1 h2 => (if r1 = 0 then (qbd (DX10_within a1 0 599 h2) fun r4 h5 => (if r4 = 0 then some (1, h5) else (if qcmp (qreml a1 10) 1 ≤ 0 then (qlt (qreml (qdivl a1 10) 10) fun v7 => (if ¬ qcmp v7 9 = 0 then (qbd (DX10_isShore v7 h5) fun r8 h9 => (if r8 = 0 then some (1, h9) else (qbd (DX10_whyThrow (qdivl a1 100) v7 h9) fun r11 h12 => some (r11, h12)))) else (qbd (DX10_whyThrow (qdivl a1 100) (-1) h5) fun r14 h15 => some (r14, h15)))) else some (1, h5)))) else (qbd (DX10_whyLift (qwl (a1 - 1000)) h2) fun r17 h18 => some (r17, h18)))) else some (0, h))
set_option maxRecDepth 100000 in
theorem TX10_whyNot {L : Nat} {xs : Nat → Int32} (a1 : Int) (h : qH) : qMet L xs yX10_whyNot cX10_whyNot 5 (some .int) 1 5 [qr 212, ql a1] h (DX10_whyNot a1 h) := by
  refine qMet.of (by decide +kernel) (Or.inr (Or.inl ⟨rfl, rfl⟩)) (Nat.le_of_ble_eq_true rfl) ?_
  show qS L xs cX10_whyNot "BottlePostModel" 5 5 1 0 [(0, qr 212), (1, ql a1)] [] h (DX10_whyNot a1 h)
  unfold DX10_whyNot
  refine S_lload_n 1 dX10_whyNot_0 rfl rfl rfl ?_
  refine S_ldc2 (a := (-1)) dX10_whyNot_1 rfl (by rw [show Int64.ofInt (-1) = ((-1) : Int64) from by decide]; exact tw_1556) (by decide) ?_
  refine S_lcmp dX10_whyNot_4 rfl ?_
  refine S_if_ne (tgt := 10) dX10_whyNot_5 (by decide) rfl (fun _ => ?_) (fun _ => ?_)
  · refine S_lload_n 1 dX10_whyNot_10 rfl rfl rfl ?_
    refine S_ldc2 (a := 1000) dX10_whyNot_11 rfl (by rw [show Int64.ofInt 1000 = (1000 : Int64) from by decide]; exact tw_1651) (by decide) ?_
    refine S_ldc2 (a := 1099) dX10_whyNot_14 rfl (by rw [show Int64.ofInt 1099 = (1099 : Int64) from by decide]; exact tw_1652) (by decide) ?_
    refine S_callS_i (as := [ql a1, ql 1000, ql 1099]) (st := []) (fun _ => rfl) (TX10_within a1 1000 1099 h) yv_X10_within tw_1352 (by decide) rfl rfl (Nat.le_of_ble_eq_true rfl) dX10_whyNot_17 rfl (fun r1 h2 e3 => ?_)
    refine S_if_eq (tgt := 33) dX10_whyNot_20 (by decide) rfl (fun _ => ?_) (fun _ => ?_)
    · refine S_lload_n 1 dX10_whyNot_33 rfl rfl rfl ?_
      refine S_lconst (a := 0) dX10_whyNot_34 rfl (by decide) (by decide) ?_
      refine S_ldc2 (a := 599) dX10_whyNot_35 rfl (by rw [show Int64.ofInt 599 = (599 : Int64) from by decide]; exact tw_1653) (by decide) ?_
      refine S_callS_i (as := [ql a1, ql 0, ql 599]) (st := []) (fun _ => rfl) (TX10_within a1 0 599 h2) yv_X10_within tw_1352 (by decide) rfl rfl (Nat.le_of_ble_eq_true rfl) dX10_whyNot_38 rfl (fun r4 h5 e6 => ?_)
      refine S_if_eq (tgt := 54) dX10_whyNot_41 (by decide) rfl (fun _ => ?_) (fun _ => ?_)
      · refine S_iconst (a := 1) dX10_whyNot_54 rfl (by decide) ?_
        exact S_iret dX10_whyNot_55
      · refine S_lload_n 1 dX10_whyNot_44 rfl rfl rfl ?_
        refine S_ldc2 (a := 10) dX10_whyNot_45 rfl (by rw [show Int64.ofInt 10 = (10 : Int64) from by decide]; exact tw_1633) (by decide) ?_
        refine S_lrem dX10_whyNot_48 rfl (by decide) ?_
        refine S_lconst (a := 1) dX10_whyNot_49 rfl (by decide) (by decide) ?_
        refine S_lcmp dX10_whyNot_50 rfl ?_
        refine S_if_le (tgt := 56) dX10_whyNot_51 (by decide) rfl (fun _ => ?_) (fun _ => ?_)
        · refine S_lload_n 1 dX10_whyNot_56 rfl rfl rfl ?_
          refine S_ldc2 (a := 10) dX10_whyNot_57 rfl (by rw [show Int64.ofInt 10 = (10 : Int64) from by decide]; exact tw_1633) (by decide) ?_
          refine S_ldiv dX10_whyNot_60 rfl (by decide) ?_
          refine S_ldc2 (a := 10) dX10_whyNot_61 rfl (by rw [show Int64.ofInt 10 = (10 : Int64) from by decide]; exact tw_1633) (by decide) ?_
          refine S_lrem dX10_whyNot_64 rfl (by decide) ?_
          refine S_lstore_n (lv' := [(3, ql (qreml (qdivl a1 10) 10)), (0, qr 212), (1, ql a1)]) dX10_whyNot_65 rfl (by decide) rfl rfl ?_
          refine S_lj (fun v7 => ?_)
          refine S_lload_n 0 dX10_whyNot_66 rfl rfl rfl ?_
          refine S_ldc2 (a := 9) dX10_whyNot_67 rfl (by rw [show Int64.ofInt 9 = (9 : Int64) from by decide]; exact tw_1654) (by decide) ?_
          refine S_lcmp dX10_whyNot_70 rfl ?_
          refine S_if_ne (tgt := 89) dX10_whyNot_71 (by decide) rfl (fun _ => ?_) (fun _ => ?_)
          · refine S_aload_n 1 dX10_whyNot_89 rfl rfl rfl ?_
            refine S_lload_n 0 dX10_whyNot_90 rfl rfl rfl ?_
            refine S_callV_i (as := [ql v7]) (st := []) (fun _ => rfl) (TX10_isShore v7 h5) yv_X10_isShore tw_1481 qC_10 qk_212 (by decide) rfl rfl (Nat.le_of_ble_eq_true rfl) dX10_whyNot_91 rfl (fun r8 h9 e10 => ?_)
            refine S_if_eq (tgt := 110) dX10_whyNot_94 (by decide) rfl (fun _ => ?_) (fun _ => ?_)
            · refine S_iconst (a := 1) dX10_whyNot_110 rfl (by decide) ?_
              exact S_iret dX10_whyNot_111
            · refine S_aload_n 1 dX10_whyNot_97 rfl rfl rfl ?_
              refine S_lload_n 2 dX10_whyNot_98 rfl rfl rfl ?_
              refine S_ldc2 (a := 100) dX10_whyNot_99 rfl (by rw [show Int64.ofInt 100 = (100 : Int64) from by decide]; exact tw_1655) (by decide) ?_
              refine S_ldiv dX10_whyNot_102 rfl (by decide) ?_
              refine S_lload_n 0 dX10_whyNot_103 rfl rfl rfl ?_
              refine S_callV_i (as := [ql (qdivl a1 100), ql v7]) (st := []) (fun _ => rfl) (TX10_whyThrow (qdivl a1 100) v7 h9) yv_X10_whyThrow tw_1552 qC_10 qk_212 (by decide) rfl rfl (Nat.le_of_ble_eq_true rfl) dX10_whyNot_104 rfl (fun r11 h12 e13 => ?_)
              refine S_goto (pc' := 111) dX10_whyNot_107 (by decide) ?_
              exact S_iret dX10_whyNot_111
          · refine S_aload_n 1 dX10_whyNot_74 rfl rfl rfl ?_
            refine S_lload_n 2 dX10_whyNot_75 rfl rfl rfl ?_
            refine S_ldc2 (a := 100) dX10_whyNot_76 rfl (by rw [show Int64.ofInt 100 = (100 : Int64) from by decide]; exact tw_1655) (by decide) ?_
            refine S_ldiv dX10_whyNot_79 rfl (by decide) ?_
            refine S_ldc2 (a := (-1)) dX10_whyNot_80 rfl (by rw [show Int64.ofInt (-1) = ((-1) : Int64) from by decide]; exact tw_1556) (by decide) ?_
            refine S_callV_i (as := [ql (qdivl a1 100), ql (-1)]) (st := []) (fun _ => rfl) (TX10_whyThrow (qdivl a1 100) (-1) h5) yv_X10_whyThrow tw_1552 qC_10 qk_212 (by decide) rfl rfl (Nat.le_of_ble_eq_true rfl) dX10_whyNot_83 rfl (fun r14 h15 e16 => ?_)
            refine S_goto (pc' := 111) dX10_whyNot_86 (by decide) ?_
            exact S_iret dX10_whyNot_111
        · refine S_iconst (a := 1) dX10_whyNot_54 rfl (by decide) ?_
          exact S_iret dX10_whyNot_55
    · refine S_aload_n 0 dX10_whyNot_23 rfl rfl rfl ?_
      refine S_lload_n 1 dX10_whyNot_24 rfl rfl rfl ?_
      refine S_ldc2 (a := 1000) dX10_whyNot_25 rfl (by rw [show Int64.ofInt 1000 = (1000 : Int64) from by decide]; exact tw_1651) (by decide) ?_
      refine S_lsub dX10_whyNot_28 rfl ?_
      refine S_callV_i (as := [ql (qwl (a1 - 1000))]) (st := []) (fun _ => rfl) (TX10_whyLift (qwl (a1 - 1000)) h2) yv_X10_whyLift tw_1625 qC_10 qk_212 (by decide) rfl rfl (Nat.le_of_ble_eq_true rfl) dX10_whyNot_29 rfl (fun r17 h18 e19 => ?_)
      exact S_iret dX10_whyNot_32
  · refine S_iconst (a := 0) dX10_whyNot_8 rfl (by decide) ?_
    exact S_iret dX10_whyNot_9
def DX10_tells_l7 : Nat → Int → Int → qH → Option (Int × qH)
  | 0, _, _, _ => none
  | n + 1, a1, a2, h => (if 0 ≤ a1 ∧ a1 < 4 then (if h.1 223 a1.toNat ≤ a2 then (if 0 ≤ a1 ∧ a1 < 4 then some (h.1 223 a1.toNat, h) else none) else (if 0 ≤ qw (qw (40 * a1) + a2) ∧ qw (qw (40 * a1) + a2) < 160 then (qbd (DX10_whyNot (h.1 224 (qw (qw (40 * a1) + a2)).toNat) h) fun r7 h8 => (qlt (qu h8 212 21 r7) fun h10 => (if h10.1 212 21 = 0 then (if 0 ≤ qw (qw (40 * a1) + a2) ∧ qw (qw (40 * a1) + a2) < 160 then (qbd (DX10_does (qw (h10.1 224 (qw (qw (40 * a1) + a2)).toNat)) h10) fun r13 h14 => ((DX10_tells_l7 n) a1 (qw (a2 + 1)) h14)) else none) else some (a2, h10)))) else none)) else none)
set_option maxRecDepth 100000 in
theorem TX10_tells_l7 {L : Nat} {xs : Nat → Int32} : ∀ (n : Nat) (a1 : Int) (a2 : Int) (h : qH), qS L xs cX10_tells "BottlePostModel" 3 9 1 7 [(0, qr 212), (1, qi a1), (2, qi a2)] [] h (DX10_tells_l7 n a1 a2 h) := by
  intro n
  induction n with
  | zero =>
    intro a1 a2 h
    exact S_none
  | succ n ih =>
    intro a1 a2 h
    rw [DX10_tells_l7.eq_2]
    refine S_iload_n 2 dX10_tells_7 rfl rfl rfl ?_
    refine S_aload_n 0 dX10_tells_8 rfl rfl rfl ?_
    refine S_getr (j := 223) (o := 11) 37 qC_10 (by decide) (by decide) qk_212 rfl rfl (by decide) tw_1263 dX10_tells_9 rfl ?_
    refine S_iload_n 1 dX10_tells_12 rfl rfl rfl ?_
    refine S_iald (N := 4) qk_223 rfl dX10_tells_13 rfl (fun g1 g2 => ?_)
    refine S_icmp_ge (tgt := 67) dX10_tells_14 (by decide) rfl (fun _ => ?_) (fun _ => ?_)
    · refine S_aload_n 0 dX10_tells_67 rfl rfl rfl ?_
      refine S_getr (j := 223) (o := 11) 37 qC_10 (by decide) (by decide) qk_212 rfl rfl (by decide) tw_1263 dX10_tells_68 rfl ?_
      refine S_iload_n 1 dX10_tells_71 rfl rfl rfl ?_
      refine S_iald (N := 4) qk_223 rfl dX10_tells_72 rfl (fun g3 g4 => ?_)
      exact S_iret dX10_tells_73
    · refine S_aload_n 0 dX10_tells_17 rfl rfl rfl ?_
      refine S_aload_n 0 dX10_tells_18 rfl rfl rfl ?_
      refine S_aload_n 0 dX10_tells_19 rfl rfl rfl ?_
      refine S_getr (j := 224) (o := 12) 38 qC_10 (by decide) (by decide) qk_212 rfl rfl (by decide) tw_1264 dX10_tells_20 rfl ?_
      refine S_bipush (a := 40) dX10_tells_23 rfl (by decide) (by decide) ?_
      refine S_iload_n 1 dX10_tells_25 rfl rfl rfl ?_
      refine S_imul dX10_tells_26 rfl ?_
      refine S_iload_n 2 dX10_tells_27 rfl rfl rfl ?_
      refine S_iadd dX10_tells_28 rfl ?_
      refine S_lald (N := 160) qk_224 rfl dX10_tells_29 rfl (fun g5 g6 => ?_)
      refine S_callV_i (as := [ql (h.1 224 (qw (qw (40 * a1) + a2)).toNat)]) (st := [qr 212]) (fun _ => rfl) (TX10_whyNot (h.1 224 (qw (qw (40 * a1) + a2)).toNat) h) yv_X10_whyNot tw_1647 qC_10 qk_212 (by decide) rfl rfl (Nat.le_of_ble_eq_true rfl) dX10_tells_30 rfl (fun r7 h8 e9 => ?_)
      refine S_puti 21 qC_10 (by decide) (by decide) rfl rfl qk_212 (by decide) tw_1247 dX10_tells_33 rfl ?_
      refine S_lh (fun h10 => ?_)
      refine S_aload_n 0 dX10_tells_36 rfl rfl rfl ?_
      refine S_geti 21 qC_10 (by decide) (by decide) qk_212 tw_1247 dX10_tells_37 rfl ?_
      refine S_if_eq (tgt := 45) dX10_tells_40 (by decide) rfl (fun _ => ?_) (fun _ => ?_)
      · refine S_aload_n 0 dX10_tells_45 rfl rfl rfl ?_
        refine S_aload_n 0 dX10_tells_46 rfl rfl rfl ?_
        refine S_getr (j := 224) (o := 12) 38 qC_10 (by decide) (by decide) qk_212 rfl rfl (by decide) tw_1264 dX10_tells_47 rfl ?_
        refine S_bipush (a := 40) dX10_tells_50 rfl (by decide) (by decide) ?_
        refine S_iload_n 1 dX10_tells_52 rfl rfl rfl ?_
        refine S_imul dX10_tells_53 rfl ?_
        refine S_iload_n 2 dX10_tells_54 rfl rfl rfl ?_
        refine S_iadd dX10_tells_55 rfl ?_
        refine S_lald (N := 160) qk_224 rfl dX10_tells_56 rfl (fun g11 g12 => ?_)
        refine S_l2i dX10_tells_57 rfl ?_
        refine S_callV_0 (as := [qi (qw (h10.1 224 (qw (qw (40 * a1) + a2)).toNat))]) (st := []) (fun _ => rfl) (TX10_does (qw (h10.1 224 (qw (qw (40 * a1) + a2)).toNat)) h10) yv_X10_does tw_1656 qC_10 qk_212 (by decide) rfl rfl (Nat.le_of_ble_eq_true rfl) dX10_tells_58 rfl (fun r13 h14 e15 => ?_)
        refine S_iinc (lv' := [(2, qi (qw (a2 + 1))), (0, qr 212), (1, qi a1)]) 2 dX10_tells_61 rfl (by decide) rfl rfl ?_
        refine S_goto (pc' := 7) dX10_tells_64 (by decide) ?_
        refine S_sub [1, 2, 0] rfl ?_
        exact ih a1 (qw (a2 + 1)) h14
      · refine S_iload_n 2 dX10_tells_43 rfl rfl rfl ?_
        exact S_iret dX10_tells_44
def DX10_tells (a1 : Int) (h : qH) : Option (Int × qH) := (qlt (qu h 212 21 0) fun h16 => (DX10_tells_l7 LF a1 0 h16))
set_option maxRecDepth 100000 in
theorem TX10_tells {L : Nat} {xs : Nat → Int32} (a1 : Int) (h : qH) : qMet L xs yX10_tells cX10_tells 3 (some .int) 1 9 [qr 212, qi a1] h (DX10_tells a1 h) := by
  refine qMet.of (by decide +kernel) (Or.inr (Or.inl ⟨rfl, rfl⟩)) (Nat.le_of_ble_eq_true rfl) ?_
  show qS L xs cX10_tells "BottlePostModel" 3 9 1 0 [(0, qr 212), (1, qi a1)] [] h (DX10_tells a1 h)
  unfold DX10_tells
  refine S_aload_n 0 dX10_tells_0 rfl rfl rfl ?_
  refine S_iconst (a := 0) dX10_tells_1 rfl (by decide) ?_
  refine S_puti 21 qC_10 (by decide) (by decide) rfl rfl qk_212 (by decide) tw_1247 dX10_tells_2 rfl ?_
  refine S_lh (fun h16 => ?_)
  refine S_iconst (a := 0) dX10_tells_5 rfl (by decide) ?_
  refine S_istore_n (lv' := [(2, qi 0), (0, qr 212), (1, qi a1)]) dX10_tells_6 rfl (by decide) rfl rfl ?_
  refine S_sub [1, 2, 0] rfl ?_
  exact TX10_tells_l7 LF a1 0 h16
def DX10_judge (a1 : Int) (a2 : Int) (h : qH) : Option (Int × qH) := (qlt (qu h 212 0 0) fun h1 => (qbd (DX10_within a2 0 3 h1) fun r2 h3 => (if ¬ r2 = 0 then (qbd (DX10_noTray a1 h3) fun r5 h6 => (if r5 = 0 then (qbd (DX10_keepsAll h6) fun r8 h9 => (qbd (DX10_tells a1 h9) fun r11 h12 => (qlt (h12.1 213 348) fun v16 => (qbd (DX10_manyOf 2 h12) fun r17 h18 => (qbd (DX10_isAgain h18) fun r20 h21 => (if ¬ a2 = 0 then (if ¬ a2 = 1 then (if ¬ a2 = 2 then some (r17, h21) else some (v16, h21)) else some (h21.1 212 21, h21)) else (if ¬ h21.1 212 21 = 0 then some (r11, h21) else some ((-1), h21)))))))) else some (r5, h6))) else some ((-2), h3))))
set_option maxRecDepth 100000 in
theorem TX10_judge {L : Nat} {xs : Nat → Int32} (a1 : Int) (a2 : Int) (h : qH) : qMet L xs yX10_judge cX10_judge 7 (some .int) 1 10 [qr 212, qi a1, qi a2] h (DX10_judge a1 a2 h) := by
  refine qMet.of (by decide +kernel) (Or.inr (Or.inl ⟨rfl, rfl⟩)) (Nat.le_of_ble_eq_true rfl) ?_
  show qS L xs cX10_judge "BottlePostModel" 7 10 1 0 [(0, qr 212), (1, qi a1), (2, qi a2)] [] h (DX10_judge a1 a2 h)
  unfold DX10_judge
  refine S_aload_n 0 dX10_judge_0 rfl rfl rfl ?_
  refine S_iconst (a := 0) dX10_judge_1 rfl (by decide) ?_
  refine S_puti 0 qC_10 (by decide) (by decide) rfl rfl qk_212 (by decide) tw_1226 dX10_judge_2 rfl ?_
  refine S_lh (fun h1 => ?_)
  refine S_iload_n 2 dX10_judge_5 rfl rfl rfl ?_
  refine S_i2l dX10_judge_6 rfl ?_
  refine S_lconst (a := 0) dX10_judge_7 rfl (by decide) (by decide) ?_
  refine S_ldc2 (a := 3) dX10_judge_8 rfl (by rw [show Int64.ofInt 3 = (3 : Int64) from by decide]; exact tw_1638) (by decide) ?_
  refine S_callS_i (as := [ql a2, ql 0, ql 3]) (st := []) (fun _ => rfl) (TX10_within a2 0 3 h1) yv_X10_within tw_1352 (by decide) rfl rfl (Nat.le_of_ble_eq_true rfl) dX10_judge_11 rfl (fun r2 h3 e4 => ?_)
  refine S_if_ne (tgt := 20) dX10_judge_14 (by decide) rfl (fun _ => ?_) (fun _ => ?_)
  · refine S_aload_n 0 dX10_judge_20 rfl rfl rfl ?_
    refine S_iload_n 1 dX10_judge_21 rfl rfl rfl ?_
    refine S_callV_i (as := [qi a1]) (st := []) (fun _ => rfl) (TX10_noTray a1 h3) yv_X10_noTray tw_1639 qC_10 qk_212 (by decide) rfl rfl (Nat.le_of_ble_eq_true rfl) dX10_judge_22 rfl (fun r5 h6 e7 => ?_)
    refine S_istore_n (lv' := [(3, qi r5), (0, qr 212), (1, qi a1), (2, qi a2)]) dX10_judge_25 rfl (by decide) rfl rfl ?_
    refine S_iload_n 0 dX10_judge_26 rfl rfl rfl ?_
    refine S_if_eq (tgt := 32) dX10_judge_27 (by decide) rfl (fun _ => ?_) (fun _ => ?_)
    · refine S_aload_n 1 dX10_judge_32 rfl rfl rfl ?_
      refine S_callV_0 (as := []) (st := []) (fun _ => rfl) (TX10_keepsAll h6) yv_X10_keepsAll tw_1557 qC_10 qk_212 (by decide) rfl rfl (Nat.le_of_ble_eq_true rfl) dX10_judge_33 rfl (fun r8 h9 e10 => ?_)
      refine S_aload_n 1 dX10_judge_36 rfl rfl rfl ?_
      refine S_iload_n 2 dX10_judge_37 rfl rfl rfl ?_
      refine S_callV_i (as := [qi a1]) (st := []) (fun _ => rfl) (TX10_tells a1 h9) yv_X10_tells tw_1643 qC_10 qk_212 (by decide) rfl rfl (Nat.le_of_ble_eq_true rfl) dX10_judge_38 rfl (fun r11 h12 e13 => ?_)
      refine S_istore (lv' := [(4, qi r11), (3, qi r5), (0, qr 212), (1, qi a1), (2, qi a2)]) dX10_judge_41 (by decide) rfl rfl ?_
      refine S_aload_n 2 dX10_judge_43 rfl rfl rfl ?_
      refine S_getr (j := 213) (o := 1) 1 qC_10 (by decide) (by decide) qk_212 rfl rfl (by decide) tw_1227 dX10_judge_44 rfl ?_
      refine S_sipush (a := 348) dX10_judge_47 rfl (by decide) (by decide) ?_
      refine S_pick_t ((0 : Int) ≤ 348 ∧ (348 : Int) < 5736) (by decide) ?_
      refine S_iald (N := 5736) qk_213 rfl dX10_judge_50 rfl (fun g14 g15 => ?_)
      refine S_istore (lv' := [(5, qi (h12.1 213 348)), (4, qi r11), (3, qi r5), (0, qr 212), (1, qi a1), (2, qi a2)]) dX10_judge_51 (by decide) rfl rfl ?_
      refine S_li (fun v16 => ?_)
      refine S_aload_n 3 dX10_judge_53 rfl rfl rfl ?_
      refine S_iconst (a := 2) dX10_judge_54 rfl (by decide) ?_
      refine S_callV_i (as := [qi 2]) (st := []) (fun _ => rfl) (TX10_manyOf 2 h12) yv_X10_manyOf tw_1660 qC_10 qk_212 (by decide) rfl rfl (Nat.le_of_ble_eq_true rfl) dX10_judge_55 rfl (fun r17 h18 e19 => ?_)
      refine S_istore (lv' := [(6, qi r17), (5, qi v16), (4, qi r11), (3, qi r5), (0, qr 212), (1, qi a1), (2, qi a2)]) dX10_judge_58 (by decide) rfl rfl ?_
      refine S_aload_n 4 dX10_judge_60 rfl rfl rfl ?_
      refine S_callV_0 (as := []) (st := []) (fun _ => rfl) (TX10_isAgain h18) yv_X10_isAgain tw_1664 qC_10 qk_212 (by decide) rfl rfl (Nat.le_of_ble_eq_true rfl) dX10_judge_61 rfl (fun r20 h21 e22 => ?_)
      refine S_iload_n 6 dX10_judge_64 rfl rfl rfl ?_
      refine S_if_ne (tgt := 84) dX10_judge_65 (by decide) rfl (fun _ => ?_) (fun _ => ?_)
      · refine S_iload_n 6 dX10_judge_84 rfl rfl rfl ?_
        refine S_iconst (a := 1) dX10_judge_85 rfl (by decide) ?_
        refine S_icmp_ne (tgt := 96) dX10_judge_86 (by decide) rfl (fun _ => ?_) (fun _ => ?_)
        · refine S_iload_n 6 dX10_judge_96 rfl rfl rfl ?_
          refine S_iconst (a := 2) dX10_judge_97 rfl (by decide) ?_
          refine S_icmp_ne (tgt := 106) dX10_judge_98 (by decide) rfl (fun _ => ?_) (fun _ => ?_)
          · refine S_iload 0 dX10_judge_106 rfl rfl ?_
            exact S_iret dX10_judge_108
          · refine S_iload 1 dX10_judge_101 rfl rfl ?_
            refine S_goto (pc' := 108) dX10_judge_103 (by decide) ?_
            exact S_iret dX10_judge_108
        · refine S_aload_n 4 dX10_judge_89 rfl rfl rfl ?_
          refine S_geti 21 qC_10 (by decide) (by decide) qk_212 tw_1247 dX10_judge_90 rfl ?_
          refine S_goto (pc' := 108) dX10_judge_93 (by decide) ?_
          exact S_iret dX10_judge_108
      · refine S_aload_n 4 dX10_judge_68 rfl rfl rfl ?_
        refine S_geti 21 qC_10 (by decide) (by decide) qk_212 tw_1247 dX10_judge_69 rfl ?_
        refine S_if_ne (tgt := 79) dX10_judge_72 (by decide) rfl (fun _ => ?_) (fun _ => ?_)
        · refine S_iload 2 dX10_judge_79 rfl rfl ?_
          refine S_goto (pc' := 108) dX10_judge_81 (by decide) ?_
          exact S_iret dX10_judge_108
        · refine S_iconst (a := (-1)) dX10_judge_75 rfl (by decide) ?_
          refine S_goto (pc' := 108) dX10_judge_76 (by decide) ?_
          exact S_iret dX10_judge_108
    · refine S_iload_n 0 dX10_judge_30 rfl rfl rfl ?_
      exact S_iret dX10_judge_31
  · refine S_bipush (a := (-2)) dX10_judge_17 rfl (by decide) (by decide) ?_
    exact S_iret dX10_judge_19
def DX10_keeper (a1 : Int) (a2 : Int) (a3 : Int) (a4 : Int) (h : qH) : Option (Int × qH) := (qlt (qu h 212 0 0) fun h1 => (qbd (DX10_noThrow a1 a2 h1) fun r2 h3 => (if r2 = 0 then (qbd (DX10_within a4 0 30 h3) fun r5 h6 => (if ¬ r5 = 0 then (qbd (DX10_throwsTo a1 h6) fun r8 h9 => (if ¬ r8 = (-1) then (qbd (DX10_keptBy a1 a2 a3 (qw (h9.1 213 349 + a4)) h9) fun r13 h14 => some (r13, h14)) else some ((-5), h9))) else some ((-3), h6))) else some ((-2), h3))))
set_option maxRecDepth 100000 in
theorem TX10_keeper {L : Nat} {xs : Nat → Int32} (a1 : Int) (a2 : Int) (a3 : Int) (a4 : Int) (h : qH) : qMet L xs yX10_keeper cX10_keeper 5 (some .int) 1 9 [qr 212, qi a1, qi a2, qi a3, qi a4] h (DX10_keeper a1 a2 a3 a4 h) := by
  refine qMet.of (by decide +kernel) (Or.inr (Or.inl ⟨rfl, rfl⟩)) (Nat.le_of_ble_eq_true rfl) ?_
  show qS L xs cX10_keeper "BottlePostModel" 5 9 1 0 [(0, qr 212), (1, qi a1), (2, qi a2), (3, qi a3), (4, qi a4)] [] h (DX10_keeper a1 a2 a3 a4 h)
  unfold DX10_keeper
  refine S_aload_n 0 dX10_keeper_0 rfl rfl rfl ?_
  refine S_iconst (a := 0) dX10_keeper_1 rfl (by decide) ?_
  refine S_puti 0 qC_10 (by decide) (by decide) rfl rfl qk_212 (by decide) tw_1226 dX10_keeper_2 rfl ?_
  refine S_lh (fun h1 => ?_)
  refine S_aload_n 0 dX10_keeper_5 rfl rfl rfl ?_
  refine S_iload_n 1 dX10_keeper_6 rfl rfl rfl ?_
  refine S_iload_n 2 dX10_keeper_7 rfl rfl rfl ?_
  refine S_callV_i (as := [qi a1, qi a2]) (st := []) (fun _ => rfl) (TX10_noThrow a1 a2 h1) yv_X10_noThrow tw_1713 qC_10 qk_212 (by decide) rfl rfl (Nat.le_of_ble_eq_true rfl) dX10_keeper_8 rfl (fun r2 h3 e4 => ?_)
  refine S_if_eq (tgt := 17) dX10_keeper_11 (by decide) rfl (fun _ => ?_) (fun _ => ?_)
  · refine S_iload 4 dX10_keeper_17 rfl rfl ?_
    refine S_i2l dX10_keeper_19 rfl ?_
    refine S_lconst (a := 0) dX10_keeper_20 rfl (by decide) (by decide) ?_
    refine S_ldc2 (a := 30) dX10_keeper_21 rfl (by rw [show Int64.ofInt 30 = (30 : Int64) from by decide]; exact tw_1717) (by decide) ?_
    refine S_callS_i (as := [ql a4, ql 0, ql 30]) (st := []) (fun _ => rfl) (TX10_within a4 0 30 h3) yv_X10_within tw_1352 (by decide) rfl rfl (Nat.le_of_ble_eq_true rfl) dX10_keeper_24 rfl (fun r5 h6 e7 => ?_)
    refine S_if_ne (tgt := 33) dX10_keeper_27 (by decide) rfl (fun _ => ?_) (fun _ => ?_)
    · refine S_aload_n 0 dX10_keeper_33 rfl rfl rfl ?_
      refine S_iload_n 1 dX10_keeper_34 rfl rfl rfl ?_
      refine S_callV_i (as := [qi a1]) (st := []) (fun _ => rfl) (TX10_throwsTo a1 h6) yv_X10_throwsTo tw_1485 qC_10 qk_212 (by decide) rfl rfl (Nat.le_of_ble_eq_true rfl) dX10_keeper_35 rfl (fun r8 h9 e10 => ?_)
      refine S_iconst (a := (-1)) dX10_keeper_38 rfl (by decide) ?_
      refine S_icmp_ne (tgt := 47) dX10_keeper_39 (by decide) rfl (fun _ => ?_) (fun _ => ?_)
      · refine S_aload_n 0 dX10_keeper_47 rfl rfl rfl ?_
        refine S_iload_n 1 dX10_keeper_48 rfl rfl rfl ?_
        refine S_iload_n 2 dX10_keeper_49 rfl rfl rfl ?_
        refine S_iload_n 3 dX10_keeper_50 rfl rfl rfl ?_
        refine S_aload_n 0 dX10_keeper_51 rfl rfl rfl ?_
        refine S_getr (j := 213) (o := 1) 1 qC_10 (by decide) (by decide) qk_212 rfl rfl (by decide) tw_1227 dX10_keeper_52 rfl ?_
        refine S_sipush (a := 349) dX10_keeper_55 rfl (by decide) (by decide) ?_
        refine S_pick_t ((0 : Int) ≤ 349 ∧ (349 : Int) < 5736) (by decide) ?_
        refine S_iald (N := 5736) qk_213 rfl dX10_keeper_58 rfl (fun g11 g12 => ?_)
        refine S_iload 4 dX10_keeper_59 rfl rfl ?_
        refine S_iadd dX10_keeper_61 rfl ?_
        refine S_callV_i (as := [qi a1, qi a2, qi a3, qi (qw (h9.1 213 349 + a4))]) (st := []) (fun _ => rfl) (TX10_keptBy a1 a2 a3 (qw (h9.1 213 349 + a4)) h9) yv_X10_keptBy tw_1718 qC_10 qk_212 (by decide) rfl rfl (Nat.le_of_ble_eq_true rfl) dX10_keeper_62 rfl (fun r13 h14 e15 => ?_)
        exact S_iret dX10_keeper_65
      · refine S_bipush (a := (-5)) dX10_keeper_42 rfl (by decide) (by decide) ?_
        refine S_goto (pc' := 65) dX10_keeper_44 (by decide) ?_
        exact S_iret dX10_keeper_65
    · refine S_bipush (a := (-3)) dX10_keeper_30 rfl (by decide) (by decide) ?_
      exact S_iret dX10_keeper_32
  · refine S_bipush (a := (-2)) dX10_keeper_14 rfl (by decide) (by decide) ?_
    exact S_iret dX10_keeper_16
def DX10_keepers_b64 (k24 : Int → Int → Int → qH → Option (Int × qH)) (a1 : Int) (a2 : Int) (a3 : Int) (b0 : Int) (h : qH) : Option (Int × qH) := (if b0 = (-1) then (k24 a1 a2 (qw (a3 + 1)) h) else (qlt (qor a2 (qshl 1 b0)) fun v1 => (k24 a1 v1 (qw (a3 + 1)) h)))
set_option maxRecDepth 100000 in
theorem TX10_keepers_b64 {L : Nat} {xs : Nat → Int32} (k24 : Int → Int → Int → qH → Option (Int × qH)) (hk24 : ∀ (a1 : Int) (a2 : Int) (a3 : Int) (h : qH), qS L xs cX10_keepers "BottlePostModel" 5 9 1 24 [(0, qr 212), (1, qi a1), (2, qi a2), (3, qi a3)] [] h (k24 a1 a2 a3 h)) (a1 : Int) (a2 : Int) (a3 : Int) (b0 : Int) (h : qH) : qS L xs cX10_keepers "BottlePostModel" 5 9 1 64 [(0, qr 212), (1, qi a1), (2, qi a2), (3, qi a3)] [qi b0] h (DX10_keepers_b64 k24 a1 a2 a3 b0 h) := by
  unfold DX10_keepers_b64
  refine S_istore (lv' := [(4, qi b0), (0, qr 212), (1, qi a1), (2, qi a2), (3, qi a3)]) dX10_keepers_64 (by decide) rfl rfl ?_
  refine S_iload 0 dX10_keepers_66 rfl rfl ?_
  refine S_iconst (a := (-1)) dX10_keepers_68 rfl (by decide) ?_
  refine S_icmp_eq (tgt := 79) dX10_keepers_69 (by decide) rfl (fun _ => ?_) (fun _ => ?_)
  · refine S_iinc (lv' := [(3, qi (qw (a3 + 1))), (4, qi b0), (0, qr 212), (1, qi a1), (2, qi a2)]) 4 dX10_keepers_79 rfl (by decide) rfl rfl ?_
    refine S_goto (pc' := 24) dX10_keepers_82 (by decide) ?_
    refine S_sub [2, 3, 4, 0] rfl ?_
    exact hk24 a1 a2 (qw (a3 + 1)) h
  · refine S_iload_n 3 dX10_keepers_72 rfl rfl rfl ?_
    refine S_iconst (a := 1) dX10_keepers_73 rfl (by decide) ?_
    refine S_iload 0 dX10_keepers_74 rfl rfl ?_
    refine S_ishl dX10_keepers_76 rfl ?_
    refine S_ior dX10_keepers_77 rfl ?_
    refine S_istore_n (lv' := [(2, qi (qor a2 (qshl 1 b0))), (4, qi b0), (0, qr 212), (1, qi a1), (3, qi a3)]) dX10_keepers_78 rfl (by decide) rfl rfl ?_
    refine S_li (fun v1 => ?_)
    refine S_iinc (lv' := [(3, qi (qw (a3 + 1))), (2, qi v1), (4, qi b0), (0, qr 212), (1, qi a1)]) 4 dX10_keepers_79 rfl (by decide) rfl rfl ?_
    refine S_goto (pc' := 24) dX10_keepers_82 (by decide) ?_
    refine S_sub [3, 4, 1, 0] rfl ?_
    exact hk24 a1 v1 (qw (a3 + 1)) h
def DX10_keepers_l24 : Nat → Int → Int → Int → qH → Option (Int × qH)
  | 0, _, _, _, _ => none
  | n + 1, a1, a2, a3, h => (if h.1 213 4 ≤ a3 then some (a2, h) else (qbd (DX10_throwsTo a3 h) fun r4 h5 => (if ¬ r4 = (-1) then (qbd (DX10_keptBy a3 (-1) 0 (qw (h5.1 213 349 + a1)) h5) fun r9 h10 => (DX10_keepers_b64 (DX10_keepers_l24 n) a1 a2 a3 r9 h10)) else (DX10_keepers_b64 (DX10_keepers_l24 n) a1 a2 a3 (-1) h5))))
set_option maxRecDepth 100000 in
theorem TX10_keepers_l24 {L : Nat} {xs : Nat → Int32} : ∀ (n : Nat) (a1 : Int) (a2 : Int) (a3 : Int) (h : qH), qS L xs cX10_keepers "BottlePostModel" 5 9 1 24 [(0, qr 212), (1, qi a1), (2, qi a2), (3, qi a3)] [] h (DX10_keepers_l24 n a1 a2 a3 h) := by
  intro n
  induction n with
  | zero =>
    intro a1 a2 a3 h
    exact S_none
  | succ n ih =>
    intro a1 a2 a3 h
    rw [DX10_keepers_l24.eq_2]
    refine S_iload_n 3 dX10_keepers_24 rfl rfl rfl ?_
    refine S_aload_n 0 dX10_keepers_25 rfl rfl rfl ?_
    refine S_getr (j := 213) (o := 1) 1 qC_10 (by decide) (by decide) qk_212 rfl rfl (by decide) tw_1227 dX10_keepers_26 rfl ?_
    refine S_iconst (a := 4) dX10_keepers_29 rfl (by decide) ?_
    refine S_pick_t ((0 : Int) ≤ 4 ∧ (4 : Int) < 5736) (by decide) ?_
    refine S_iald (N := 5736) qk_213 rfl dX10_keepers_30 rfl (fun g2 g3 => ?_)
    refine S_icmp_ge (tgt := 85) dX10_keepers_31 (by decide) rfl (fun _ => ?_) (fun _ => ?_)
    · refine S_iload_n 2 dX10_keepers_85 rfl rfl rfl ?_
      exact S_iret dX10_keepers_86
    · refine S_aload_n 0 dX10_keepers_34 rfl rfl rfl ?_
      refine S_iload_n 3 dX10_keepers_35 rfl rfl rfl ?_
      refine S_callV_i (as := [qi a3]) (st := []) (fun _ => rfl) (TX10_throwsTo a3 h) yv_X10_throwsTo tw_1485 qC_10 qk_212 (by decide) rfl rfl (Nat.le_of_ble_eq_true rfl) dX10_keepers_36 rfl (fun r4 h5 e6 => ?_)
      refine S_iconst (a := (-1)) dX10_keepers_39 rfl (by decide) ?_
      refine S_icmp_ne (tgt := 47) dX10_keepers_40 (by decide) rfl (fun _ => ?_) (fun _ => ?_)
      · refine S_aload_n 0 dX10_keepers_47 rfl rfl rfl ?_
        refine S_iload_n 3 dX10_keepers_48 rfl rfl rfl ?_
        refine S_iconst (a := (-1)) dX10_keepers_49 rfl (by decide) ?_
        refine S_iconst (a := 0) dX10_keepers_50 rfl (by decide) ?_
        refine S_aload_n 0 dX10_keepers_51 rfl rfl rfl ?_
        refine S_getr (j := 213) (o := 1) 1 qC_10 (by decide) (by decide) qk_212 rfl rfl (by decide) tw_1227 dX10_keepers_52 rfl ?_
        refine S_sipush (a := 349) dX10_keepers_55 rfl (by decide) (by decide) ?_
        refine S_pick_t ((0 : Int) ≤ 349 ∧ (349 : Int) < 5736) (by decide) ?_
        refine S_iald (N := 5736) qk_213 rfl dX10_keepers_58 rfl (fun g7 g8 => ?_)
        refine S_iload_n 1 dX10_keepers_59 rfl rfl rfl ?_
        refine S_iadd dX10_keepers_60 rfl ?_
        refine S_callV_i (as := [qi a3, qi (-1), qi 0, qi (qw (h5.1 213 349 + a1))]) (st := []) (fun _ => rfl) (TX10_keptBy a3 (-1) 0 (qw (h5.1 213 349 + a1)) h5) yv_X10_keptBy tw_1718 qC_10 qk_212 (by decide) rfl rfl (Nat.le_of_ble_eq_true rfl) dX10_keepers_61 rfl (fun r9 h10 e11 => ?_)
        exact TX10_keepers_b64 (DX10_keepers_l24 n) ih a1 a2 a3 r9 h10
      · refine S_iconst (a := (-1)) dX10_keepers_43 rfl (by decide) ?_
        refine S_goto (pc' := 64) dX10_keepers_44 (by decide) ?_
        exact TX10_keepers_b64 (DX10_keepers_l24 n) ih a1 a2 a3 (-1) h5
def DX10_keepers (a1 : Int) (h : qH) : Option (Int × qH) := (qlt (qu h 212 0 0) fun h12 => (qbd (DX10_within a1 0 30 h12) fun r13 h14 => (if ¬ r13 = 0 then (DX10_keepers_l24 LF a1 0 0 h14) else some ((-3), h14))))
set_option maxRecDepth 100000 in
theorem TX10_keepers {L : Nat} {xs : Nat → Int32} (a1 : Int) (h : qH) : qMet L xs yX10_keepers cX10_keepers 5 (some .int) 1 9 [qr 212, qi a1] h (DX10_keepers a1 h) := by
  refine qMet.of (by decide +kernel) (Or.inr (Or.inl ⟨rfl, rfl⟩)) (Nat.le_of_ble_eq_true rfl) ?_
  show qS L xs cX10_keepers "BottlePostModel" 5 9 1 0 [(0, qr 212), (1, qi a1)] [] h (DX10_keepers a1 h)
  unfold DX10_keepers
  refine S_aload_n 0 dX10_keepers_0 rfl rfl rfl ?_
  refine S_iconst (a := 0) dX10_keepers_1 rfl (by decide) ?_
  refine S_puti 0 qC_10 (by decide) (by decide) rfl rfl qk_212 (by decide) tw_1226 dX10_keepers_2 rfl ?_
  refine S_lh (fun h12 => ?_)
  refine S_iload_n 1 dX10_keepers_5 rfl rfl rfl ?_
  refine S_i2l dX10_keepers_6 rfl ?_
  refine S_lconst (a := 0) dX10_keepers_7 rfl (by decide) (by decide) ?_
  refine S_ldc2 (a := 30) dX10_keepers_8 rfl (by rw [show Int64.ofInt 30 = (30 : Int64) from by decide]; exact tw_1717) (by decide) ?_
  refine S_callS_i (as := [ql a1, ql 0, ql 30]) (st := []) (fun _ => rfl) (TX10_within a1 0 30 h12) yv_X10_within tw_1352 (by decide) rfl rfl (Nat.le_of_ble_eq_true rfl) dX10_keepers_11 rfl (fun r13 h14 e15 => ?_)
  refine S_if_ne (tgt := 20) dX10_keepers_14 (by decide) rfl (fun _ => ?_) (fun _ => ?_)
  · refine S_iconst (a := 0) dX10_keepers_20 rfl (by decide) ?_
    refine S_istore_n (lv' := [(2, qi 0), (0, qr 212), (1, qi a1)]) dX10_keepers_21 rfl (by decide) rfl rfl ?_
    refine S_iconst (a := 0) dX10_keepers_22 rfl (by decide) ?_
    refine S_istore_n (lv' := [(3, qi 0), (2, qi 0), (0, qr 212), (1, qi a1)]) dX10_keepers_23 rfl (by decide) rfl rfl ?_
    refine S_sub [2, 3, 1, 0] rfl ?_
    exact TX10_keepers_l24 LF a1 0 0 h14
  · refine S_bipush (a := (-3)) dX10_keepers_17 rfl (by decide) (by decide) ?_
    exact S_iret dX10_keepers_19
def DX10_laysFits_l66 (k12 : Int → Int → Int → qH → Option (Int × qH)) (k37 : Int → Int → Int → Int → qH → Option (Int × qH)) (k51 : Int → Int → Int → Int → Int → qH → Option (Int × qH)) : Nat → Int → Int → Int → Int → Int → Int → qH → Option (Int × qH)
  | 0, _, _, _, _, _, _, _ => none
  | n + 1, a1, a2, a3, a4, a5, a6, h => (if 30 < a6 then (k51 a1 a2 a3 a4 (qw (a5 + 1)) h) else (if h.1 213 349 < a6 then (k51 a1 a2 a3 a4 (qw (a5 + 1)) h) else (qbd (DX10_fits a1 a3 a4 a5 a6 h) fun r3 h4 => (if r3 = 0 then ((DX10_laysFits_l66 k12 k37 k51 n) a1 a2 a3 a4 a5 (qw (a6 + 1)) h4) else (qbd (DX10_isFit a3 a4 a5 a6 a2 h4) fun r6 h7 => ((DX10_laysFits_l66 k12 k37 k51 n) a1 a2 a3 a4 a5 (qw (a6 + 1)) h7))))))
set_option maxRecDepth 100000 in
theorem TX10_laysFits_l66 {L : Nat} {xs : Nat → Int32} (k12 : Int → Int → Int → qH → Option (Int × qH)) (k37 : Int → Int → Int → Int → qH → Option (Int × qH)) (k51 : Int → Int → Int → Int → Int → qH → Option (Int × qH)) (hk12 : ∀ (a1 : Int) (a2 : Int) (a3 : Int) (h : qH), qS L xs cX10_laysFits "BottlePostModel" 7 8 0 12 [(0, qr 212), (1, qi a1), (2, qi a2), (3, qi a3)] [] h (k12 a1 a2 a3 h)) (hk37 : ∀ (a1 : Int) (a2 : Int) (a3 : Int) (a4 : Int) (h : qH), qS L xs cX10_laysFits "BottlePostModel" 7 8 0 37 [(0, qr 212), (1, qi a1), (2, qi a2), (3, qi a3), (4, qi a4)] [] h (k37 a1 a2 a3 a4 h)) (hk51 : ∀ (a1 : Int) (a2 : Int) (a3 : Int) (a4 : Int) (a5 : Int) (h : qH), qS L xs cX10_laysFits "BottlePostModel" 7 8 0 51 [(0, qr 212), (1, qi a1), (2, qi a2), (3, qi a3), (4, qi a4), (5, qi a5)] [] h (k51 a1 a2 a3 a4 a5 h)) : ∀ (n : Nat) (a1 : Int) (a2 : Int) (a3 : Int) (a4 : Int) (a5 : Int) (a6 : Int) (h : qH), qS L xs cX10_laysFits "BottlePostModel" 7 8 0 66 [(0, qr 212), (1, qi a1), (2, qi a2), (3, qi a3), (4, qi a4), (5, qi a5), (6, qi a6)] [] h (DX10_laysFits_l66 k12 k37 k51 n a1 a2 a3 a4 a5 a6 h) := by
  intro n
  induction n with
  | zero =>
    intro a1 a2 a3 a4 a5 a6 h
    exact S_none
  | succ n ih =>
    intro a1 a2 a3 a4 a5 a6 h
    rw [DX10_laysFits_l66.eq_2]
    refine S_iload 6 dX10_laysFits_66 rfl rfl ?_
    refine S_bipush (a := 30) dX10_laysFits_68 rfl (by decide) (by decide) ?_
    refine S_icmp_gt (tgt := 119) dX10_laysFits_70 (by decide) rfl (fun _ => ?_) (fun _ => ?_)
    · refine S_iinc (lv' := [(5, qi (qw (a5 + 1))), (0, qr 212), (1, qi a1), (2, qi a2), (3, qi a3), (4, qi a4), (6, qi a6)]) 5 dX10_laysFits_119 rfl (by decide) rfl rfl ?_
      refine S_goto (pc' := 51) dX10_laysFits_122 (by decide) ?_
      refine S_sub [1, 2, 3, 4, 5, 0] rfl ?_
      exact hk51 a1 a2 a3 a4 (qw (a5 + 1)) h
    · refine S_iload 6 dX10_laysFits_73 rfl rfl ?_
      refine S_aload_n 0 dX10_laysFits_75 rfl rfl rfl ?_
      refine S_getr (j := 213) (o := 1) 1 qC_10 (by decide) (by decide) qk_212 rfl rfl (by decide) tw_1227 dX10_laysFits_76 rfl ?_
      refine S_sipush (a := 349) dX10_laysFits_79 rfl (by decide) (by decide) ?_
      refine S_pick_t ((0 : Int) ≤ 349 ∧ (349 : Int) < 5736) (by decide) ?_
      refine S_iald (N := 5736) qk_213 rfl dX10_laysFits_82 rfl (fun g1 g2 => ?_)
      refine S_icmp_gt (tgt := 119) dX10_laysFits_83 (by decide) rfl (fun _ => ?_) (fun _ => ?_)
      · refine S_iinc (lv' := [(5, qi (qw (a5 + 1))), (0, qr 212), (1, qi a1), (2, qi a2), (3, qi a3), (4, qi a4), (6, qi a6)]) 5 dX10_laysFits_119 rfl (by decide) rfl rfl ?_
        refine S_goto (pc' := 51) dX10_laysFits_122 (by decide) ?_
        refine S_sub [1, 2, 3, 4, 5, 0] rfl ?_
        exact hk51 a1 a2 a3 a4 (qw (a5 + 1)) h
      · refine S_aload_n 0 dX10_laysFits_86 rfl rfl rfl ?_
        refine S_iload_n 1 dX10_laysFits_87 rfl rfl rfl ?_
        refine S_iload_n 3 dX10_laysFits_88 rfl rfl rfl ?_
        refine S_iload 4 dX10_laysFits_89 rfl rfl ?_
        refine S_iload 5 dX10_laysFits_91 rfl rfl ?_
        refine S_iload 6 dX10_laysFits_93 rfl rfl ?_
        refine S_callV_i (as := [qi a1, qi a3, qi a4, qi a5, qi a6]) (st := []) (fun _ => rfl) (TX10_fits a1 a3 a4 a5 a6 h) yv_X10_fits tw_1804 qC_10 qk_212 (by decide) rfl rfl (Nat.le_of_ble_eq_true rfl) dX10_laysFits_95 rfl (fun r3 h4 e5 => ?_)
        refine S_if_eq (tgt := 113) dX10_laysFits_98 (by decide) rfl (fun _ => ?_) (fun _ => ?_)
        · refine S_iinc (lv' := [(6, qi (qw (a6 + 1))), (0, qr 212), (1, qi a1), (2, qi a2), (3, qi a3), (4, qi a4), (5, qi a5)]) 6 dX10_laysFits_113 rfl (by decide) rfl rfl ?_
          refine S_goto (pc' := 66) dX10_laysFits_116 (by decide) ?_
          refine S_sub [1, 2, 3, 4, 5, 6, 0] rfl ?_
          exact ih a1 a2 a3 a4 a5 (qw (a6 + 1)) h4
        · refine S_aload_n 0 dX10_laysFits_101 rfl rfl rfl ?_
          refine S_iload_n 3 dX10_laysFits_102 rfl rfl rfl ?_
          refine S_iload 4 dX10_laysFits_103 rfl rfl ?_
          refine S_iload 5 dX10_laysFits_105 rfl rfl ?_
          refine S_iload 6 dX10_laysFits_107 rfl rfl ?_
          refine S_iload_n 2 dX10_laysFits_109 rfl rfl rfl ?_
          refine S_callV_0 (as := [qi a3, qi a4, qi a5, qi a6, qi a2]) (st := []) (fun _ => rfl) (TX10_isFit a3 a4 a5 a6 a2 h4) yv_X10_isFit tw_1808 qC_10 qk_212 (by decide) rfl rfl (Nat.le_of_ble_eq_true rfl) dX10_laysFits_110 rfl (fun r6 h7 e8 => ?_)
          refine S_iinc (lv' := [(6, qi (qw (a6 + 1))), (0, qr 212), (1, qi a1), (2, qi a2), (3, qi a3), (4, qi a4), (5, qi a5)]) 6 dX10_laysFits_113 rfl (by decide) rfl rfl ?_
          refine S_goto (pc' := 66) dX10_laysFits_116 (by decide) ?_
          refine S_sub [1, 2, 3, 4, 5, 6, 0] rfl ?_
          exact ih a1 a2 a3 a4 a5 (qw (a6 + 1)) h7
def DX10_laysFits_l51 (k12 : Int → Int → Int → qH → Option (Int × qH)) (k37 : Int → Int → Int → Int → qH → Option (Int × qH)) : Nat → Int → Int → Int → Int → Int → qH → Option (Int × qH)
  | 0, _, _, _, _, _, _ => none
  | n + 1, a1, a2, a3, a4, a5, h => (if 2 ≤ a5 then (k37 a1 a2 a3 (qw (a4 + 1)) h) else (if a4 = a3 then (k37 a1 a2 a3 (qw (a4 + 1)) h) else (DX10_laysFits_l66 k12 k37 (DX10_laysFits_l51 k12 k37 n) LF a1 a2 a3 a4 a5 0 h)))
set_option maxRecDepth 100000 in
theorem TX10_laysFits_l51 {L : Nat} {xs : Nat → Int32} (k12 : Int → Int → Int → qH → Option (Int × qH)) (k37 : Int → Int → Int → Int → qH → Option (Int × qH)) (hk12 : ∀ (a1 : Int) (a2 : Int) (a3 : Int) (h : qH), qS L xs cX10_laysFits "BottlePostModel" 7 8 0 12 [(0, qr 212), (1, qi a1), (2, qi a2), (3, qi a3)] [] h (k12 a1 a2 a3 h)) (hk37 : ∀ (a1 : Int) (a2 : Int) (a3 : Int) (a4 : Int) (h : qH), qS L xs cX10_laysFits "BottlePostModel" 7 8 0 37 [(0, qr 212), (1, qi a1), (2, qi a2), (3, qi a3), (4, qi a4)] [] h (k37 a1 a2 a3 a4 h)) : ∀ (n : Nat) (a1 : Int) (a2 : Int) (a3 : Int) (a4 : Int) (a5 : Int) (h : qH), qS L xs cX10_laysFits "BottlePostModel" 7 8 0 51 [(0, qr 212), (1, qi a1), (2, qi a2), (3, qi a3), (4, qi a4), (5, qi a5)] [] h (DX10_laysFits_l51 k12 k37 n a1 a2 a3 a4 a5 h) := by
  intro n
  induction n with
  | zero =>
    intro a1 a2 a3 a4 a5 h
    exact S_none
  | succ n ih =>
    intro a1 a2 a3 a4 a5 h
    rw [DX10_laysFits_l51.eq_2]
    refine S_iload 5 dX10_laysFits_51 rfl rfl ?_
    refine S_iconst (a := 2) dX10_laysFits_53 rfl (by decide) ?_
    refine S_icmp_ge (tgt := 125) dX10_laysFits_54 (by decide) rfl (fun _ => ?_) (fun _ => ?_)
    · refine S_iinc (lv' := [(4, qi (qw (a4 + 1))), (0, qr 212), (1, qi a1), (2, qi a2), (3, qi a3), (5, qi a5)]) 4 dX10_laysFits_125 rfl (by decide) rfl rfl ?_
      refine S_goto (pc' := 37) dX10_laysFits_128 (by decide) ?_
      refine S_sub [1, 2, 3, 4, 0] rfl ?_
      exact hk37 a1 a2 a3 (qw (a4 + 1)) h
    · refine S_iload 4 dX10_laysFits_57 rfl rfl ?_
      refine S_iload_n 3 dX10_laysFits_59 rfl rfl rfl ?_
      refine S_icmp_eq (tgt := 125) dX10_laysFits_60 (by decide) rfl (fun _ => ?_) (fun _ => ?_)
      · refine S_iinc (lv' := [(4, qi (qw (a4 + 1))), (0, qr 212), (1, qi a1), (2, qi a2), (3, qi a3), (5, qi a5)]) 4 dX10_laysFits_125 rfl (by decide) rfl rfl ?_
        refine S_goto (pc' := 37) dX10_laysFits_128 (by decide) ?_
        refine S_sub [1, 2, 3, 4, 0] rfl ?_
        exact hk37 a1 a2 a3 (qw (a4 + 1)) h
      · refine S_iconst (a := 0) dX10_laysFits_63 rfl (by decide) ?_
        refine S_istore (lv' := [(6, qi 0), (0, qr 212), (1, qi a1), (2, qi a2), (3, qi a3), (4, qi a4), (5, qi a5)]) dX10_laysFits_64 (by decide) rfl rfl ?_
        refine S_sub [1, 2, 3, 4, 5, 6, 0] rfl ?_
        exact TX10_laysFits_l66 k12 k37 (DX10_laysFits_l51 k12 k37 n) hk12 hk37 ih LF a1 a2 a3 a4 a5 0 h
def DX10_laysFits_l37 (k12 : Int → Int → Int → qH → Option (Int × qH)) : Nat → Int → Int → Int → Int → qH → Option (Int × qH)
  | 0, _, _, _, _, _ => none
  | n + 1, a1, a2, a3, a4, h => (if h.1 213 4 ≤ a4 then (k12 a1 a2 (qw (a3 + 1)) h) else (DX10_laysFits_l51 k12 (DX10_laysFits_l37 k12 n) LF a1 a2 a3 a4 0 h))
set_option maxRecDepth 100000 in
theorem TX10_laysFits_l37 {L : Nat} {xs : Nat → Int32} (k12 : Int → Int → Int → qH → Option (Int × qH)) (hk12 : ∀ (a1 : Int) (a2 : Int) (a3 : Int) (h : qH), qS L xs cX10_laysFits "BottlePostModel" 7 8 0 12 [(0, qr 212), (1, qi a1), (2, qi a2), (3, qi a3)] [] h (k12 a1 a2 a3 h)) : ∀ (n : Nat) (a1 : Int) (a2 : Int) (a3 : Int) (a4 : Int) (h : qH), qS L xs cX10_laysFits "BottlePostModel" 7 8 0 37 [(0, qr 212), (1, qi a1), (2, qi a2), (3, qi a3), (4, qi a4)] [] h (DX10_laysFits_l37 k12 n a1 a2 a3 a4 h) := by
  intro n
  induction n with
  | zero =>
    intro a1 a2 a3 a4 h
    exact S_none
  | succ n ih =>
    intro a1 a2 a3 a4 h
    rw [DX10_laysFits_l37.eq_2]
    refine S_iload 4 dX10_laysFits_37 rfl rfl ?_
    refine S_aload_n 0 dX10_laysFits_39 rfl rfl rfl ?_
    refine S_getr (j := 213) (o := 1) 1 qC_10 (by decide) (by decide) qk_212 rfl rfl (by decide) tw_1227 dX10_laysFits_40 rfl ?_
    refine S_iconst (a := 4) dX10_laysFits_43 rfl (by decide) ?_
    refine S_pick_t ((0 : Int) ≤ 4 ∧ (4 : Int) < 5736) (by decide) ?_
    refine S_iald (N := 5736) qk_213 rfl dX10_laysFits_44 rfl (fun g9 g10 => ?_)
    refine S_icmp_ge (tgt := 131) dX10_laysFits_45 (by decide) rfl (fun _ => ?_) (fun _ => ?_)
    · refine S_iinc (lv' := [(3, qi (qw (a3 + 1))), (0, qr 212), (1, qi a1), (2, qi a2), (4, qi a4)]) 3 dX10_laysFits_131 rfl (by decide) rfl rfl ?_
      refine S_goto (pc' := 12) dX10_laysFits_134 (by decide) ?_
      refine S_sub [1, 2, 3, 0] rfl ?_
      exact hk12 a1 a2 (qw (a3 + 1)) h
    · refine S_iconst (a := 0) dX10_laysFits_48 rfl (by decide) ?_
      refine S_istore (lv' := [(5, qi 0), (0, qr 212), (1, qi a1), (2, qi a2), (3, qi a3), (4, qi a4)]) dX10_laysFits_49 (by decide) rfl rfl ?_
      refine S_sub [1, 2, 3, 4, 5, 0] rfl ?_
      exact TX10_laysFits_l51 k12 (DX10_laysFits_l37 k12 n) hk12 ih LF a1 a2 a3 a4 0 h
def DX10_laysFits_l12 : Nat → Int → Int → Int → qH → Option (Int × qH)
  | 0, _, _, _, _ => none
  | n + 1, a1, a2, a3, h => (if h.1 213 4 ≤ a3 then some (0, h) else (qbd (DX10_throwsTo a3 h) fun r13 h14 => (if ¬ r13 = (-1) then (DX10_laysFits_l37 (DX10_laysFits_l12 n) LF a1 a2 a3 (-1) h14) else ((DX10_laysFits_l12 n) a1 a2 (qw (a3 + 1)) h14))))
set_option maxRecDepth 100000 in
theorem TX10_laysFits_l12 {L : Nat} {xs : Nat → Int32} : ∀ (n : Nat) (a1 : Int) (a2 : Int) (a3 : Int) (h : qH), qS L xs cX10_laysFits "BottlePostModel" 7 8 0 12 [(0, qr 212), (1, qi a1), (2, qi a2), (3, qi a3)] [] h (DX10_laysFits_l12 n a1 a2 a3 h) := by
  intro n
  induction n with
  | zero =>
    intro a1 a2 a3 h
    exact S_none
  | succ n ih =>
    intro a1 a2 a3 h
    rw [DX10_laysFits_l12.eq_2]
    refine S_iload_n 3 dX10_laysFits_12 rfl rfl rfl ?_
    refine S_aload_n 0 dX10_laysFits_13 rfl rfl rfl ?_
    refine S_getr (j := 213) (o := 1) 1 qC_10 (by decide) (by decide) qk_212 rfl rfl (by decide) tw_1227 dX10_laysFits_14 rfl ?_
    refine S_iconst (a := 4) dX10_laysFits_17 rfl (by decide) ?_
    refine S_pick_t ((0 : Int) ≤ 4 ∧ (4 : Int) < 5736) (by decide) ?_
    refine S_iald (N := 5736) qk_213 rfl dX10_laysFits_18 rfl (fun g11 g12 => ?_)
    refine S_icmp_ge (tgt := 137) dX10_laysFits_19 (by decide) rfl (fun _ => ?_) (fun _ => ?_)
    · exact S_vret dX10_laysFits_137
    · refine S_aload_n 0 dX10_laysFits_22 rfl rfl rfl ?_
      refine S_iload_n 3 dX10_laysFits_23 rfl rfl rfl ?_
      refine S_callV_i (as := [qi a3]) (st := []) (fun _ => rfl) (TX10_throwsTo a3 h) yv_X10_throwsTo tw_1485 qC_10 qk_212 (by decide) rfl rfl (Nat.le_of_ble_eq_true rfl) dX10_laysFits_24 rfl (fun r13 h14 e15 => ?_)
      refine S_iconst (a := (-1)) dX10_laysFits_27 rfl (by decide) ?_
      refine S_icmp_ne (tgt := 34) dX10_laysFits_28 (by decide) rfl (fun _ => ?_) (fun _ => ?_)
      · refine S_iconst (a := (-1)) dX10_laysFits_34 rfl (by decide) ?_
        refine S_istore (lv' := [(4, qi (-1)), (0, qr 212), (1, qi a1), (2, qi a2), (3, qi a3)]) dX10_laysFits_35 (by decide) rfl rfl ?_
        refine S_sub [1, 2, 3, 4, 0] rfl ?_
        exact TX10_laysFits_l37 (DX10_laysFits_l12 n) ih LF a1 a2 a3 (-1) h14
      · refine S_goto (pc' := 131) dX10_laysFits_31 (by decide) ?_
        refine S_iinc (lv' := [(3, qi (qw (a3 + 1))), (0, qr 212), (1, qi a1), (2, qi a2)]) 3 dX10_laysFits_131 rfl (by decide) rfl rfl ?_
        refine S_goto (pc' := 12) dX10_laysFits_134 (by decide) ?_
        refine S_sub [1, 2, 3, 0] rfl ?_
        exact ih a1 a2 (qw (a3 + 1)) h14
def DX10_laysFits (a1 : Int) (a2 : Int) (h : qH) : Option (Int × qH) := (qlt (qu h 212 30 0) fun h16 => (qlt (qu h16 212 31 0) fun h17 => (DX10_laysFits_l12 LF a1 a2 0 h17)))
set_option maxRecDepth 100000 in
theorem TX10_laysFits {L : Nat} {xs : Nat → Int32} (a1 : Int) (a2 : Int) (h : qH) : qMet L xs yX10_laysFits cX10_laysFits 7 (none) 0 8 [qr 212, qi a1, qi a2] h (DX10_laysFits a1 a2 h) := by
  refine qMet.of (by decide +kernel) (Or.inl ⟨rfl, rfl⟩) (Nat.le_of_ble_eq_true rfl) ?_
  show qS L xs cX10_laysFits "BottlePostModel" 7 8 0 0 [(0, qr 212), (1, qi a1), (2, qi a2)] [] h (DX10_laysFits a1 a2 h)
  unfold DX10_laysFits
  refine S_aload_n 0 dX10_laysFits_0 rfl rfl rfl ?_
  refine S_iconst (a := 0) dX10_laysFits_1 rfl (by decide) ?_
  refine S_puti 30 qC_10 (by decide) (by decide) rfl rfl qk_212 (by decide) tw_1256 dX10_laysFits_2 rfl ?_
  refine S_lh (fun h16 => ?_)
  refine S_aload_n 0 dX10_laysFits_5 rfl rfl rfl ?_
  refine S_iconst (a := 0) dX10_laysFits_6 rfl (by decide) ?_
  refine S_puti 31 qC_10 (by decide) (by decide) rfl rfl qk_212 (by decide) tw_1257 dX10_laysFits_7 rfl ?_
  refine S_lh (fun h17 => ?_)
  refine S_iconst (a := 0) dX10_laysFits_10 rfl (by decide) ?_
  refine S_istore_n (lv' := [(3, qi 0), (0, qr 212), (1, qi a1), (2, qi a2)]) dX10_laysFits_11 rfl (by decide) rfl rfl ?_
  refine S_sub [1, 2, 3, 0] rfl ?_
  exact TX10_laysFits_l12 LF a1 a2 0 h17
def DX10_notes_l62 : Nat → Int → qH → Option (Int × qH)
  | 0, _, _ => none
  | n + 1, a1, h => (if 66 ≤ a1 then (qlt (qu h 213 350 (qw (h.1 213 350 + 1))) fun h3 => some (0, h3)) else (if 0 ≤ a1 ∧ a1 < 66 then (if 0 ≤ qw (qw (351 + qw (66 * h.1 213 350)) + a1) ∧ qw (qw (351 + qw (66 * h.1 213 350)) + a1) < 5736 then qlt (qu h 213 (qw (qw (351 + qw (66 * h.1 213 350)) + a1)).toNat (h.1 219 a1.toNat)) fun h8 => ((DX10_notes_l62 n) (qw (a1 + 1)) h8) else none) else none))
set_option maxRecDepth 100000 in
theorem TX10_notes_l62 {L : Nat} {xs : Nat → Int32} : ∀ (n : Nat) (a1 : Int) (h : qH), qS L xs cX10_notes "BottlePostModel" 2 1 0 62 [(0, qr 212), (1, qi a1)] [] h (DX10_notes_l62 n a1 h) := by
  intro n
  induction n with
  | zero =>
    intro a1 h
    exact S_none
  | succ n ih =>
    intro a1 h
    rw [DX10_notes_l62.eq_2]
    refine S_iload_n 1 dX10_notes_62 rfl rfl rfl ?_
    refine S_bipush (a := 66) dX10_notes_63 rfl (by decide) (by decide) ?_
    refine S_icmp_ge (tgt := 102) dX10_notes_65 (by decide) rfl (fun _ => ?_) (fun _ => ?_)
    · refine S_aload_n 0 dX10_notes_102 rfl rfl rfl ?_
      refine S_getr (j := 213) (o := 1) 1 qC_10 (by decide) (by decide) qk_212 rfl rfl (by decide) tw_1227 dX10_notes_103 rfl ?_
      refine S_sipush (a := 350) dX10_notes_106 rfl (by decide) (by decide) ?_
      refine S_dup2 dX10_notes_109 rfl rfl rfl ?_
      refine S_pick_t ((0 : Int) ≤ 350 ∧ (350 : Int) < 5736) (by decide) ?_
      refine S_iald (N := 5736) qk_213 rfl dX10_notes_110 rfl (fun g1 g2 => ?_)
      refine S_iconst (a := 1) dX10_notes_111 rfl (by decide) ?_
      refine S_iadd dX10_notes_112 rfl ?_
      refine S_pick_t ((0 : Int) ≤ 350 ∧ (350 : Int) < 5736) (by decide) ?_
      refine S_iast (N := 5736) qk_213 rfl dX10_notes_113 rfl (fun _ _ => ?_)
      refine S_lh (fun h3 => ?_)
      exact S_vret dX10_notes_114
    · refine S_aload_n 0 dX10_notes_68 rfl rfl rfl ?_
      refine S_getr (j := 213) (o := 1) 1 qC_10 (by decide) (by decide) qk_212 rfl rfl (by decide) tw_1227 dX10_notes_69 rfl ?_
      refine S_sipush (a := 351) dX10_notes_72 rfl (by decide) (by decide) ?_
      refine S_bipush (a := 66) dX10_notes_75 rfl (by decide) (by decide) ?_
      refine S_aload_n 0 dX10_notes_77 rfl rfl rfl ?_
      refine S_getr (j := 213) (o := 1) 1 qC_10 (by decide) (by decide) qk_212 rfl rfl (by decide) tw_1227 dX10_notes_78 rfl ?_
      refine S_sipush (a := 350) dX10_notes_81 rfl (by decide) (by decide) ?_
      refine S_pick_t ((0 : Int) ≤ 350 ∧ (350 : Int) < 5736) (by decide) ?_
      refine S_iald (N := 5736) qk_213 rfl dX10_notes_84 rfl (fun g4 g5 => ?_)
      refine S_imul dX10_notes_85 rfl ?_
      refine S_iadd dX10_notes_86 rfl ?_
      refine S_iload_n 1 dX10_notes_87 rfl rfl rfl ?_
      refine S_iadd dX10_notes_88 rfl ?_
      refine S_aload_n 0 dX10_notes_89 rfl rfl rfl ?_
      refine S_getr (j := 219) (o := 7) 20 qC_10 (by decide) (by decide) qk_212 rfl rfl (by decide) tw_1246 dX10_notes_90 rfl ?_
      refine S_iload_n 1 dX10_notes_93 rfl rfl rfl ?_
      refine S_iald (N := 66) qk_219 rfl dX10_notes_94 rfl (fun g6 g7 => ?_)
      refine S_iast (N := 5736) qk_213 rfl dX10_notes_95 rfl (fun _ _ => ?_)
      refine S_lh (fun h8 => ?_)
      refine S_iinc (lv' := [(1, qi (qw (a1 + 1))), (0, qr 212)]) 1 dX10_notes_96 rfl (by decide) rfl rfl ?_
      refine S_goto (pc' := 62) dX10_notes_99 (by decide) ?_
      refine S_sub [1, 0] rfl ?_
      exact ih (qw (a1 + 1)) h8
def DX10_notes_l15 : Nat → Int → qH → Option (Int × qH)
  | 0, _, _ => none
  | n + 1, a1, h => (if 594 ≤ a1 then (qlt (qu h 213 350 (qw (h.1 213 350 - 1))) fun h11 => (DX10_notes_l62 LF 0 h11)) else (if 0 ≤ qw (417 + a1) ∧ qw (417 + a1) < 5736 then (if 0 ≤ qw (351 + a1) ∧ qw (351 + a1) < 5736 then qlt (qu h 213 (qw (351 + a1)).toNat (h.1 213 (qw (417 + a1)).toNat)) fun h14 => ((DX10_notes_l15 n) (qw (a1 + 1)) h14) else none) else none))
set_option maxRecDepth 100000 in
theorem TX10_notes_l15 {L : Nat} {xs : Nat → Int32} : ∀ (n : Nat) (a1 : Int) (h : qH), qS L xs cX10_notes "BottlePostModel" 2 1 0 15 [(0, qr 212), (1, qi a1)] [] h (DX10_notes_l15 n a1 h) := by
  intro n
  induction n with
  | zero =>
    intro a1 h
    exact S_none
  | succ n ih =>
    intro a1 h
    rw [DX10_notes_l15.eq_2]
    refine S_iload_n 1 dX10_notes_15 rfl rfl rfl ?_
    refine S_sipush (a := 594) dX10_notes_16 rfl (by decide) (by decide) ?_
    refine S_icmp_ge (tgt := 48) dX10_notes_19 (by decide) rfl (fun _ => ?_) (fun _ => ?_)
    · refine S_aload_n 0 dX10_notes_48 rfl rfl rfl ?_
      refine S_getr (j := 213) (o := 1) 1 qC_10 (by decide) (by decide) qk_212 rfl rfl (by decide) tw_1227 dX10_notes_49 rfl ?_
      refine S_sipush (a := 350) dX10_notes_52 rfl (by decide) (by decide) ?_
      refine S_dup2 dX10_notes_55 rfl rfl rfl ?_
      refine S_pick_t ((0 : Int) ≤ 350 ∧ (350 : Int) < 5736) (by decide) ?_
      refine S_iald (N := 5736) qk_213 rfl dX10_notes_56 rfl (fun g9 g10 => ?_)
      refine S_iconst (a := 1) dX10_notes_57 rfl (by decide) ?_
      refine S_isub dX10_notes_58 rfl ?_
      refine S_pick_t ((0 : Int) ≤ 350 ∧ (350 : Int) < 5736) (by decide) ?_
      refine S_iast (N := 5736) qk_213 rfl dX10_notes_59 rfl (fun _ _ => ?_)
      refine S_lh (fun h11 => ?_)
      refine S_iconst (a := 0) dX10_notes_60 rfl (by decide) ?_
      refine S_istore_n (lv' := [(1, qi 0), (0, qr 212)]) dX10_notes_61 rfl (by decide) rfl rfl ?_
      refine S_sub [1, 0] rfl ?_
      exact TX10_notes_l62 LF 0 h11
    · refine S_aload_n 0 dX10_notes_22 rfl rfl rfl ?_
      refine S_getr (j := 213) (o := 1) 1 qC_10 (by decide) (by decide) qk_212 rfl rfl (by decide) tw_1227 dX10_notes_23 rfl ?_
      refine S_sipush (a := 351) dX10_notes_26 rfl (by decide) (by decide) ?_
      refine S_iload_n 1 dX10_notes_29 rfl rfl rfl ?_
      refine S_iadd dX10_notes_30 rfl ?_
      refine S_aload_n 0 dX10_notes_31 rfl rfl rfl ?_
      refine S_getr (j := 213) (o := 1) 1 qC_10 (by decide) (by decide) qk_212 rfl rfl (by decide) tw_1227 dX10_notes_32 rfl ?_
      refine S_sipush (a := 417) dX10_notes_35 rfl (by decide) (by decide) ?_
      refine S_iload_n 1 dX10_notes_38 rfl rfl rfl ?_
      refine S_iadd dX10_notes_39 rfl ?_
      refine S_iald (N := 5736) qk_213 rfl dX10_notes_40 rfl (fun g12 g13 => ?_)
      refine S_iast (N := 5736) qk_213 rfl dX10_notes_41 rfl (fun _ _ => ?_)
      refine S_lh (fun h14 => ?_)
      refine S_iinc (lv' := [(1, qi (qw (a1 + 1))), (0, qr 212)]) 1 dX10_notes_42 rfl (by decide) rfl rfl ?_
      refine S_goto (pc' := 15) dX10_notes_45 (by decide) ?_
      refine S_sub [1, 0] rfl ?_
      exact ih (qw (a1 + 1)) h14
def DX10_notes (h : qH) : Option (Int × qH) := (if ¬ h.1 213 350 = 10 then (DX10_notes_l62 LF 0 h) else (DX10_notes_l15 LF 0 h))
set_option maxRecDepth 100000 in
theorem TX10_notes {L : Nat} {xs : Nat → Int32} (h : qH) : qMet L xs yX10_notes cX10_notes 2 (none) 0 1 [qr 212] h (DX10_notes h) := by
  refine qMet.of (by decide +kernel) (Or.inl ⟨rfl, rfl⟩) (Nat.le_of_ble_eq_true rfl) ?_
  show qS L xs cX10_notes "BottlePostModel" 2 1 0 0 [(0, qr 212)] [] h (DX10_notes h)
  unfold DX10_notes
  refine S_aload_n 0 dX10_notes_0 rfl rfl rfl ?_
  refine S_getr (j := 213) (o := 1) 1 qC_10 (by decide) (by decide) qk_212 rfl rfl (by decide) tw_1227 dX10_notes_1 rfl ?_
  refine S_sipush (a := 350) dX10_notes_4 rfl (by decide) (by decide) ?_
  refine S_pick_t ((0 : Int) ≤ 350 ∧ (350 : Int) < 5736) (by decide) ?_
  refine S_iald (N := 5736) qk_213 rfl dX10_notes_7 rfl (fun g15 g16 => ?_)
  refine S_bipush (a := 10) dX10_notes_8 rfl (by decide) (by decide) ?_
  refine S_icmp_ne (tgt := 60) dX10_notes_10 (by decide) rfl (fun _ => ?_) (fun _ => ?_)
  · refine S_iconst (a := 0) dX10_notes_60 rfl (by decide) ?_
    refine S_istore_n (lv' := [(1, qi 0), (0, qr 212)]) dX10_notes_61 rfl (by decide) rfl rfl ?_
    refine S_sub [1, 0] rfl ?_
    exact TX10_notes_l62 LF 0 h
  · refine S_iconst (a := 0) dX10_notes_13 rfl (by decide) ?_
    refine S_istore_n (lv' := [(1, qi 0), (0, qr 212)]) dX10_notes_14 rfl (by decide) rfl rfl ?_
    refine S_sub [1, 0] rfl ?_
    exact TX10_notes_l15 LF 0 h
def DX10_lift (a1 : Int) (h : qH) : Option (Int × qH) := (qlt (qu h 212 0 0) fun h1 => (qbd (DX10_whyLift a1 h1) fun r2 h3 => (if r2 = 0 then (qbd (DX10_keepsAll h3) fun r5 h6 => (if 0 ≤ qw (284 + qw (8 * a1)) ∧ qw (284 + qw (8 * a1)) < 5736 then qlt (qu h6 213 (qw (284 + qw (8 * a1))).toNat 5) fun h8 => (qbd (DX10_notes h8) fun r9 h10 => (if 0 ≤ qw (qw (284 + qw (8 * a1)) + 1) ∧ qw (qw (284 + qw (8 * a1)) + 1) < 5736 then some (h10.1 213 (qw (qw (284 + qw (8 * a1)) + 1)).toNat, h10) else none)) else none)) else some (qw ((-10) - r2), h3))))
set_option maxRecDepth 100000 in
theorem TX10_lift {L : Nat} {xs : Nat → Int32} (a1 : Int) (h : qH) : qMet L xs yX10_lift cX10_lift 3 (some .int) 1 4 [qr 212, qi a1] h (DX10_lift a1 h) := by
  refine qMet.of (by decide +kernel) (Or.inr (Or.inl ⟨rfl, rfl⟩)) (Nat.le_of_ble_eq_true rfl) ?_
  show qS L xs cX10_lift "BottlePostModel" 3 4 1 0 [(0, qr 212), (1, qi a1)] [] h (DX10_lift a1 h)
  unfold DX10_lift
  refine S_aload_n 0 dX10_lift_0 rfl rfl rfl ?_
  refine S_iconst (a := 0) dX10_lift_1 rfl (by decide) ?_
  refine S_puti 0 qC_10 (by decide) (by decide) rfl rfl qk_212 (by decide) tw_1226 dX10_lift_2 rfl ?_
  refine S_lh (fun h1 => ?_)
  refine S_aload_n 0 dX10_lift_5 rfl rfl rfl ?_
  refine S_iload_n 1 dX10_lift_6 rfl rfl rfl ?_
  refine S_i2l dX10_lift_7 rfl ?_
  refine S_callV_i (as := [ql a1]) (st := []) (fun _ => rfl) (TX10_whyLift a1 h1) yv_X10_whyLift tw_1625 qC_10 qk_212 (by decide) rfl rfl (Nat.le_of_ble_eq_true rfl) dX10_lift_8 rfl (fun r2 h3 e4 => ?_)
  refine S_istore_n (lv' := [(2, qi r2), (0, qr 212), (1, qi a1)]) dX10_lift_11 rfl (by decide) rfl rfl ?_
  refine S_iload_n 0 dX10_lift_12 rfl rfl rfl ?_
  refine S_if_eq (tgt := 21) dX10_lift_13 (by decide) rfl (fun _ => ?_) (fun _ => ?_)
  · refine S_aload_n 1 dX10_lift_21 rfl rfl rfl ?_
    refine S_callV_0 (as := []) (st := []) (fun _ => rfl) (TX10_keepsAll h3) yv_X10_keepsAll tw_1557 qC_10 qk_212 (by decide) rfl rfl (Nat.le_of_ble_eq_true rfl) dX10_lift_22 rfl (fun r5 h6 e7 => ?_)
    refine S_aload_n 1 dX10_lift_25 rfl rfl rfl ?_
    refine S_getr (j := 213) (o := 1) 1 qC_10 (by decide) (by decide) qk_212 rfl rfl (by decide) tw_1227 dX10_lift_26 rfl ?_
    refine S_sipush (a := 284) dX10_lift_29 rfl (by decide) (by decide) ?_
    refine S_bipush (a := 8) dX10_lift_32 rfl (by decide) (by decide) ?_
    refine S_iload_n 2 dX10_lift_34 rfl rfl rfl ?_
    refine S_imul dX10_lift_35 rfl ?_
    refine S_iadd dX10_lift_36 rfl ?_
    refine S_iconst (a := 5) dX10_lift_37 rfl (by decide) ?_
    refine S_iast (N := 5736) qk_213 rfl dX10_lift_38 rfl (fun _ _ => ?_)
    refine S_lh (fun h8 => ?_)
    refine S_aload_n 1 dX10_lift_39 rfl rfl rfl ?_
    refine S_callV_0 (as := []) (st := []) (fun _ => rfl) (TX10_notes h8) yv_X10_notes tw_1573 qC_10 qk_212 (by decide) rfl rfl (Nat.le_of_ble_eq_true rfl) dX10_lift_40 rfl (fun r9 h10 e11 => ?_)
    refine S_aload_n 1 dX10_lift_43 rfl rfl rfl ?_
    refine S_getr (j := 213) (o := 1) 1 qC_10 (by decide) (by decide) qk_212 rfl rfl (by decide) tw_1227 dX10_lift_44 rfl ?_
    refine S_sipush (a := 284) dX10_lift_47 rfl (by decide) (by decide) ?_
    refine S_bipush (a := 8) dX10_lift_50 rfl (by decide) (by decide) ?_
    refine S_iload_n 2 dX10_lift_52 rfl rfl rfl ?_
    refine S_imul dX10_lift_53 rfl ?_
    refine S_iadd dX10_lift_54 rfl ?_
    refine S_iconst (a := 1) dX10_lift_55 rfl (by decide) ?_
    refine S_iadd dX10_lift_56 rfl ?_
    refine S_iald (N := 5736) qk_213 rfl dX10_lift_57 rfl (fun g12 g13 => ?_)
    exact S_iret dX10_lift_58
  · refine S_bipush (a := (-10)) dX10_lift_16 rfl (by decide) (by decide) ?_
    refine S_iload_n 0 dX10_lift_18 rfl rfl rfl ?_
    refine S_isub dX10_lift_19 rfl ?_
    exact S_iret dX10_lift_20
def DX10_lists_l49 : Nat → Int → Int → qH → Option (Int × qH)
  | 0, _, _, _ => none
  | n + 1, a1, a4, h => (if 0 ≤ a1 ∧ a1 < 4 then (if h.1 223 a1.toNat ≤ a4 then (if 0 ≤ a1 ∧ a1 < 4 then some (h.1 223 a1.toNat, h) else none) else (qbd (DX10_here h) fun r5 h6 => (if 0 ≤ qw (qw (40 * a1) + a4) ∧ qw (qw (40 * a1) + a4) < 160 then qlt (qu h6 224 (qw (qw (40 * a1) + a4)).toNat r5) fun h8 => (qbd (DX10_goesTide (qw (h8.1 213 349 + a4)) 0 h8) fun r11 h12 => ((DX10_lists_l49 n) a1 (qw (a4 + 1)) h12)) else none))) else none)
set_option maxRecDepth 100000 in
theorem TX10_lists_l49 {L : Nat} {xs : Nat → Int32} : ∀ (n : Nat) (a1 : Int) (a4 : Int) (h : qH), qS L xs cX10_lists "BottlePostModel" 5 7 1 49 [(0, qr 212), (1, qi a1), (4, qi a4)] [] h (DX10_lists_l49 n a1 a4 h) := by
  intro n
  induction n with
  | zero =>
    intro a1 a4 h
    exact S_none
  | succ n ih =>
    intro a1 a4 h
    rw [DX10_lists_l49.eq_2]
    refine S_iload 2 dX10_lists_49 rfl rfl ?_
    refine S_aload_n 0 dX10_lists_51 rfl rfl rfl ?_
    refine S_getr (j := 223) (o := 11) 37 qC_10 (by decide) (by decide) qk_212 rfl rfl (by decide) tw_1263 dX10_lists_52 rfl ?_
    refine S_iload_n 1 dX10_lists_55 rfl rfl rfl ?_
    refine S_iald (N := 4) qk_223 rfl dX10_lists_56 rfl (fun g1 g2 => ?_)
    refine S_icmp_ge (tgt := 99) dX10_lists_57 (by decide) rfl (fun _ => ?_) (fun _ => ?_)
    · refine S_aload_n 0 dX10_lists_99 rfl rfl rfl ?_
      refine S_getr (j := 223) (o := 11) 37 qC_10 (by decide) (by decide) qk_212 rfl rfl (by decide) tw_1263 dX10_lists_100 rfl ?_
      refine S_iload_n 1 dX10_lists_103 rfl rfl rfl ?_
      refine S_iald (N := 4) qk_223 rfl dX10_lists_104 rfl (fun g3 g4 => ?_)
      exact S_iret dX10_lists_105
    · refine S_aload_n 0 dX10_lists_60 rfl rfl rfl ?_
      refine S_getr (j := 224) (o := 12) 38 qC_10 (by decide) (by decide) qk_212 rfl rfl (by decide) tw_1264 dX10_lists_61 rfl ?_
      refine S_bipush (a := 40) dX10_lists_64 rfl (by decide) (by decide) ?_
      refine S_iload_n 1 dX10_lists_66 rfl rfl rfl ?_
      refine S_imul dX10_lists_67 rfl ?_
      refine S_iload 2 dX10_lists_68 rfl rfl ?_
      refine S_iadd dX10_lists_70 rfl ?_
      refine S_aload_n 0 dX10_lists_71 rfl rfl rfl ?_
      refine S_callV_i (as := []) (st := [qi (qw (qw (40 * a1) + a4)), qr 224]) (fun _ => rfl) (TX10_here h) yv_X10_here tw_1701 qC_10 qk_212 (by decide) rfl rfl (Nat.le_of_ble_eq_true rfl) dX10_lists_72 rfl (fun r5 h6 e7 => ?_)
      refine S_i2l dX10_lists_75 rfl ?_
      refine S_last (N := 160) qk_224 rfl dX10_lists_76 rfl (fun _ _ => ?_)
      refine S_lh (fun h8 => ?_)
      refine S_aload_n 0 dX10_lists_77 rfl rfl rfl ?_
      refine S_aload_n 0 dX10_lists_78 rfl rfl rfl ?_
      refine S_getr (j := 213) (o := 1) 1 qC_10 (by decide) (by decide) qk_212 rfl rfl (by decide) tw_1227 dX10_lists_79 rfl ?_
      refine S_sipush (a := 349) dX10_lists_82 rfl (by decide) (by decide) ?_
      refine S_pick_t ((0 : Int) ≤ 349 ∧ (349 : Int) < 5736) (by decide) ?_
      refine S_iald (N := 5736) qk_213 rfl dX10_lists_85 rfl (fun g9 g10 => ?_)
      refine S_iload 2 dX10_lists_86 rfl rfl ?_
      refine S_iadd dX10_lists_88 rfl ?_
      refine S_iconst (a := 0) dX10_lists_89 rfl (by decide) ?_
      refine S_callV_0 (as := [qi (qw (h8.1 213 349 + a4)), qi 0]) (st := []) (fun _ => rfl) (TX10_goesTide (qw (h8.1 213 349 + a4)) 0 h8) yv_X10_goesTide tw_1594 qC_10 qk_212 (by decide) rfl rfl (Nat.le_of_ble_eq_true rfl) dX10_lists_90 rfl (fun r11 h12 e13 => ?_)
      refine S_iinc (lv' := [(4, qi (qw (a4 + 1))), (0, qr 212), (1, qi a1)]) 2 dX10_lists_93 rfl (by decide) rfl rfl ?_
      refine S_goto (pc' := 49) dX10_lists_96 (by decide) ?_
      refine S_sub [1, 2, 0] rfl ?_
      exact ih a1 (qw (a4 + 1)) h12
def DX10_lists (a1 : Int) (a2 : Int) (h : qH) : Option (Int × qH) := (qlt (qu h 212 0 0) fun h14 => (qbd (DX10_within a1 0 3 h14) fun r15 h16 => (if r15 = 0 then some ((-2), h16) else (qbd (DX10_isBottle a2 h16) fun r18 h19 => (if ¬ r18 = 0 then (qbd (DX10_noTray a1 h19) fun r21 h22 => (if r21 = 0 then (qbd (DX10_loads a2 h22) fun r24 h25 => (DX10_lists_l49 LF a1 0 h25)) else some (r21, h22))) else some ((-2), h19))))))
set_option maxRecDepth 100000 in
theorem TX10_lists {L : Nat} {xs : Nat → Int32} (a1 : Int) (a2 : Int) (h : qH) : qMet L xs yX10_lists cX10_lists 5 (some .int) 1 7 [qr 212, qi a1, qi a2] h (DX10_lists a1 a2 h) := by
  refine qMet.of (by decide +kernel) (Or.inr (Or.inl ⟨rfl, rfl⟩)) (Nat.le_of_ble_eq_true rfl) ?_
  show qS L xs cX10_lists "BottlePostModel" 5 7 1 0 [(0, qr 212), (1, qi a1), (2, qi a2)] [] h (DX10_lists a1 a2 h)
  unfold DX10_lists
  refine S_aload_n 0 dX10_lists_0 rfl rfl rfl ?_
  refine S_iconst (a := 0) dX10_lists_1 rfl (by decide) ?_
  refine S_puti 0 qC_10 (by decide) (by decide) rfl rfl qk_212 (by decide) tw_1226 dX10_lists_2 rfl ?_
  refine S_lh (fun h14 => ?_)
  refine S_iload_n 1 dX10_lists_5 rfl rfl rfl ?_
  refine S_i2l dX10_lists_6 rfl ?_
  refine S_lconst (a := 0) dX10_lists_7 rfl (by decide) (by decide) ?_
  refine S_ldc2 (a := 3) dX10_lists_8 rfl (by rw [show Int64.ofInt 3 = (3 : Int64) from by decide]; exact tw_1638) (by decide) ?_
  refine S_callS_i (as := [ql a1, ql 0, ql 3]) (st := []) (fun _ => rfl) (TX10_within a1 0 3 h14) yv_X10_within tw_1352 (by decide) rfl rfl (Nat.le_of_ble_eq_true rfl) dX10_lists_11 rfl (fun r15 h16 e17 => ?_)
  refine S_if_eq (tgt := 26) dX10_lists_14 (by decide) rfl (fun _ => ?_) (fun _ => ?_)
  · refine S_bipush (a := (-2)) dX10_lists_26 rfl (by decide) (by decide) ?_
    exact S_iret dX10_lists_28
  · refine S_aload_n 0 dX10_lists_17 rfl rfl rfl ?_
    refine S_iload_n 2 dX10_lists_18 rfl rfl rfl ?_
    refine S_i2l dX10_lists_19 rfl ?_
    refine S_callV_i (as := [ql a2]) (st := []) (fun _ => rfl) (TX10_isBottle a2 h16) yv_X10_isBottle tw_1543 qC_10 qk_212 (by decide) rfl rfl (Nat.le_of_ble_eq_true rfl) dX10_lists_20 rfl (fun r18 h19 e20 => ?_)
    refine S_if_ne (tgt := 29) dX10_lists_23 (by decide) rfl (fun _ => ?_) (fun _ => ?_)
    · refine S_aload_n 0 dX10_lists_29 rfl rfl rfl ?_
      refine S_iload_n 1 dX10_lists_30 rfl rfl rfl ?_
      refine S_callV_i (as := [qi a1]) (st := []) (fun _ => rfl) (TX10_noTray a1 h19) yv_X10_noTray tw_1639 qC_10 qk_212 (by decide) rfl rfl (Nat.le_of_ble_eq_true rfl) dX10_lists_31 rfl (fun r21 h22 e23 => ?_)
      refine S_istore_n (lv' := [(3, qi r21), (0, qr 212), (1, qi a1), (2, qi a2)]) dX10_lists_34 rfl (by decide) rfl rfl ?_
      refine S_iload_n 0 dX10_lists_35 rfl rfl rfl ?_
      refine S_if_eq (tgt := 41) dX10_lists_36 (by decide) rfl (fun _ => ?_) (fun _ => ?_)
      · refine S_aload_n 1 dX10_lists_41 rfl rfl rfl ?_
        refine S_iload_n 3 dX10_lists_42 rfl rfl rfl ?_
        refine S_callV_0 (as := [qi a2]) (st := []) (fun _ => rfl) (TX10_loads a2 h22) yv_X10_loads tw_1586 qC_10 qk_212 (by decide) rfl rfl (Nat.le_of_ble_eq_true rfl) dX10_lists_43 rfl (fun r24 h25 e26 => ?_)
        refine S_iconst (a := 0) dX10_lists_46 rfl (by decide) ?_
        refine S_istore (lv' := [(4, qi 0), (3, qi r21), (0, qr 212), (1, qi a1), (2, qi a2)]) dX10_lists_47 (by decide) rfl rfl ?_
        refine S_sub [2, 3, 0] rfl ?_
        exact TX10_lists_l49 LF a1 0 h25
      · refine S_iload_n 0 dX10_lists_39 rfl rfl rfl ?_
        exact S_iret dX10_lists_40
    · refine S_bipush (a := (-2)) dX10_lists_26 rfl (by decide) (by decide) ?_
      exact S_iret dX10_lists_28
