def DJ7_fill_031fb_l5 : Nat → Nat → Nat → Int → Int → Int → qH → Option (Int × qH)
  | 0, _, _, _, _, _, _ => none
  | n + 1, i0, n0, a1, a2, a3, h => (if a3 ≤ a2 then some (0, h) else (if 0 ≤ a2 ∧ a2 < (n0 : Int) then qlt (qu h i0 a2.toNat (qb8 a1)) fun h1 => ((DJ7_fill_031fb_l5 n) i0 n0 a1 (qw (a2 + 1)) a3 h1) else none))
set_option maxRecDepth 100000 in
theorem TJ7_fill_031fb_l5 {L : Nat} {xs : Nat → Int32} : ∀ (n : Nat) (i0 n0 : Nat) (a1 : Int) (a2 : Int) (a3 : Int) (t0 : qK i0 = (21, n0)) (ut0 : q32 (n0 : Int)) (h : qH), qS L xs cJ7_fill_031fb "java/util/Arrays" 4 1 0 5 [(0, qr i0), (1, qi a1), (2, qi a2), (3, qi a3)] [] h (DJ7_fill_031fb_l5 n i0 n0 a1 a2 a3 h) := by
  intro n
  induction n with
  | zero =>
    intro i0 n0 a1 a2 a3 t0 ut0 h
    exact S_none
  | succ n ih =>
    intro i0 n0 a1 a2 a3 t0 ut0 h
    rw [DJ7_fill_031fb_l5.eq_2]
    refine S_iload_n 2 dJ7_fill_031fb_5 rfl rfl rfl ?_
    refine S_iload_n 3 dJ7_fill_031fb_6 rfl rfl rfl ?_
    refine S_icmp_ge (tgt := 20) dJ7_fill_031fb_7 (by decide) rfl (fun _ => ?_) (fun _ => ?_)
    · exact S_vret dJ7_fill_031fb_20
    · refine S_aload_n 0 dJ7_fill_031fb_10 rfl rfl rfl ?_
      refine S_iload_n 2 dJ7_fill_031fb_11 rfl rfl rfl ?_
      refine S_iload_n 1 dJ7_fill_031fb_12 rfl rfl rfl ?_
      refine S_bast (N := (n0 : Int)) t0 rfl dJ7_fill_031fb_13 rfl (fun _ _ => ?_)
      refine S_lh (fun h1 => ?_)
      refine S_iinc (lv' := [(2, qi (qw (a2 + 1))), (0, qr i0), (1, qi a1), (3, qi a3)]) 2 dJ7_fill_031fb_14 rfl (by decide) rfl rfl ?_
      refine S_goto (pc' := 5) dJ7_fill_031fb_17 (by decide) ?_
      refine S_sub [1, 2, 0, 3] rfl ?_
      exact ih i0 n0 a1 (qw (a2 + 1)) a3 t0 ut0 h1
def DJ7_fill_031fb (i0 n0 : Nat) (a1 : Int) (h : qH) : Option (Int × qH) := (DJ7_fill_031fb_l5 LF i0 n0 a1 0 (n0 : Int) h)
set_option maxRecDepth 100000 in
theorem TJ7_fill_031fb {L : Nat} {xs : Nat → Int32} (i0 n0 : Nat) (a1 : Int) (t0 : qK i0 = (21, n0)) (ut0 : q32 (n0 : Int)) (h : qH) : qMet L xs yJ7_fill_031fb cJ7_fill_031fb 4 (none) 0 1 [qr i0, qi a1] h (DJ7_fill_031fb i0 n0 a1 h) := by
  refine qMet.of (by decide +kernel) (Or.inl ⟨rfl, rfl⟩) (Nat.le_of_ble_eq_true rfl) ?_
  show qS L xs cJ7_fill_031fb "java/util/Arrays" 4 1 0 0 [(0, qr i0), (1, qi a1)] [] h (DJ7_fill_031fb i0 n0 a1 h)
  unfold DJ7_fill_031fb
  refine S_iconst (a := 0) dJ7_fill_031fb_0 rfl (by decide) ?_
  refine S_istore_n (lv' := [(2, qi 0), (0, qr i0), (1, qi a1)]) dJ7_fill_031fb_1 rfl (by decide) rfl rfl ?_
  refine S_aload_n 1 dJ7_fill_031fb_2 rfl rfl rfl ?_
  refine S_alen (N := (n0 : Int)) t0 (by decide) (by decide) rfl ut0 dJ7_fill_031fb_3 rfl ?_
  refine S_istore_n (lv' := [(3, qi (n0 : Int)), (2, qi 0), (0, qr i0), (1, qi a1)]) dJ7_fill_031fb_4 rfl (by decide) rfl rfl ?_
  refine S_sub [2, 3, 1, 0] rfl ?_
  exact TJ7_fill_031fb_l5 LF i0 n0 a1 0 (n0 : Int) t0 ut0 h
def DJ7_fill_fb410_l5 : Nat → Nat → Nat → Int → Int → Int → qH → Option (Int × qH)
  | 0, _, _, _, _, _, _ => none
  | n + 1, i0, n0, a1, a2, a3, h => (if a3 ≤ a2 then some (0, h) else (if 0 ≤ a2 ∧ a2 < (n0 : Int) then qlt (qu h i0 a2.toNat (qs16 a1)) fun h1 => ((DJ7_fill_fb410_l5 n) i0 n0 a1 (qw (a2 + 1)) a3 h1) else none))
set_option maxRecDepth 100000 in
theorem TJ7_fill_fb410_l5 {L : Nat} {xs : Nat → Int32} : ∀ (n : Nat) (i0 n0 : Nat) (a1 : Int) (a2 : Int) (a3 : Int) (t0 : qK i0 = (22, n0)) (ut0 : q32 (n0 : Int)) (h : qH), qS L xs cJ7_fill_fb410 "java/util/Arrays" 4 1 0 5 [(0, qr i0), (1, qi a1), (2, qi a2), (3, qi a3)] [] h (DJ7_fill_fb410_l5 n i0 n0 a1 a2 a3 h) := by
  intro n
  induction n with
  | zero =>
    intro i0 n0 a1 a2 a3 t0 ut0 h
    exact S_none
  | succ n ih =>
    intro i0 n0 a1 a2 a3 t0 ut0 h
    rw [DJ7_fill_fb410_l5.eq_2]
    refine S_iload_n 2 dJ7_fill_fb410_5 rfl rfl rfl ?_
    refine S_iload_n 3 dJ7_fill_fb410_6 rfl rfl rfl ?_
    refine S_icmp_ge (tgt := 20) dJ7_fill_fb410_7 (by decide) rfl (fun _ => ?_) (fun _ => ?_)
    · exact S_vret dJ7_fill_fb410_20
    · refine S_aload_n 0 dJ7_fill_fb410_10 rfl rfl rfl ?_
      refine S_iload_n 2 dJ7_fill_fb410_11 rfl rfl rfl ?_
      refine S_iload_n 1 dJ7_fill_fb410_12 rfl rfl rfl ?_
      refine S_sast (N := (n0 : Int)) t0 rfl dJ7_fill_fb410_13 rfl (fun _ _ => ?_)
      refine S_lh (fun h1 => ?_)
      refine S_iinc (lv' := [(2, qi (qw (a2 + 1))), (0, qr i0), (1, qi a1), (3, qi a3)]) 2 dJ7_fill_fb410_14 rfl (by decide) rfl rfl ?_
      refine S_goto (pc' := 5) dJ7_fill_fb410_17 (by decide) ?_
      refine S_sub [1, 2, 0, 3] rfl ?_
      exact ih i0 n0 a1 (qw (a2 + 1)) a3 t0 ut0 h1
def DJ7_fill_fb410 (i0 n0 : Nat) (a1 : Int) (h : qH) : Option (Int × qH) := (DJ7_fill_fb410_l5 LF i0 n0 a1 0 (n0 : Int) h)
set_option maxRecDepth 100000 in
theorem TJ7_fill_fb410 {L : Nat} {xs : Nat → Int32} (i0 n0 : Nat) (a1 : Int) (t0 : qK i0 = (22, n0)) (ut0 : q32 (n0 : Int)) (h : qH) : qMet L xs yJ7_fill_fb410 cJ7_fill_fb410 4 (none) 0 1 [qr i0, qi a1] h (DJ7_fill_fb410 i0 n0 a1 h) := by
  refine qMet.of (by decide +kernel) (Or.inl ⟨rfl, rfl⟩) (Nat.le_of_ble_eq_true rfl) ?_
  show qS L xs cJ7_fill_fb410 "java/util/Arrays" 4 1 0 0 [(0, qr i0), (1, qi a1)] [] h (DJ7_fill_fb410 i0 n0 a1 h)
  unfold DJ7_fill_fb410
  refine S_iconst (a := 0) dJ7_fill_fb410_0 rfl (by decide) ?_
  refine S_istore_n (lv' := [(2, qi 0), (0, qr i0), (1, qi a1)]) dJ7_fill_fb410_1 rfl (by decide) rfl rfl ?_
  refine S_aload_n 1 dJ7_fill_fb410_2 rfl rfl rfl ?_
  refine S_alen (N := (n0 : Int)) t0 (by decide) (by decide) rfl ut0 dJ7_fill_fb410_3 rfl ?_
  refine S_istore_n (lv' := [(3, qi (n0 : Int)), (2, qi 0), (0, qr i0), (1, qi a1)]) dJ7_fill_fb410_4 rfl (by decide) rfl rfl ?_
  refine S_sub [2, 3, 1, 0] rfl ?_
  exact TJ7_fill_fb410_l5 LF i0 n0 a1 0 (n0 : Int) t0 ut0 h
def DX2_forget_b15 (h : qH) : Option (Int × qH) := (if h.2.2.1 = true then (if h.2.2.1 = true then (qbd (DJ7_fill_fb410 226 12960 0 h) fun r1 h2 => some (0, h2)) else none) else some (0, h))
set_option maxRecDepth 100000 in
theorem TX2_forget_b15 {L : Nat} {xs : Nat → Int32} (h : qH) : qS L xs cX2_forget "BottlePost$Drift" 1 2 0 15 [(0, qr 4)] [] h (DX2_forget_b15 h) := by
  unfold DX2_forget_b15
  refine S_aload_n 0 dX2_forget_15 rfl rfl rfl ?_
  refine S_geto qC_2 tw_244 dX2_forget_16 rfl (fun gf => ?_) (fun gf => ?_)
  · refine S_ifnull_r dX2_forget_19 rfl ?_
    refine S_aload_n 0 dX2_forget_22 rfl rfl rfl ?_
    refine S_geto qC_2 tw_244 dX2_forget_23 rfl (fun gf => ?_) (fun _ => S_none)
    refine S_iconst (a := 0) dX2_forget_26 rfl (by decide) ?_
    refine S_callS_0 (as := [qr 226, qi 0]) (st := []) (fun _ => rfl) (TJ7_fill_fb410 226 12960 0 qk_226 (by decide) h) yv_J7_fill_fb410 tw_741 (by decide) rfl rfl (Nat.le_of_ble_eq_true rfl) dX2_forget_27 rfl (fun r1 h2 e3 => ?_)
    exact S_vret dX2_forget_30
  · refine S_ifnull_n (pc' := 30) dX2_forget_19 (by decide) ?_
    exact S_vret dX2_forget_30
def DX2_forget (h : qH) : Option (Int × qH) := (if h.2.1 = true then (if h.2.1 = true then (qbd (DJ7_fill_031fb 225 6480 0 h) fun r4 h5 => (DX2_forget_b15 h5)) else none) else (DX2_forget_b15 h))
set_option maxRecDepth 100000 in
theorem TX2_forget {L : Nat} {xs : Nat → Int32} (h : qH) : qMet L xs yX2_forget cX2_forget 1 (none) 0 2 [qr 4] h (DX2_forget h) := by
  refine qMet.of (by decide +kernel) (Or.inl ⟨rfl, rfl⟩) (Nat.le_of_ble_eq_true rfl) ?_
  show qS L xs cX2_forget "BottlePost$Drift" 1 2 0 0 [(0, qr 4)] [] h (DX2_forget h)
  unfold DX2_forget
  refine S_aload_n 0 dX2_forget_0 rfl rfl rfl ?_
  refine S_getw qC_2 tw_243 dX2_forget_1 rfl (fun gf => ?_) (fun gf => ?_)
  · refine S_ifnull_r dX2_forget_4 rfl ?_
    refine S_aload_n 0 dX2_forget_7 rfl rfl rfl ?_
    refine S_getw qC_2 tw_243 dX2_forget_8 rfl (fun gf => ?_) (fun _ => S_none)
    refine S_iconst (a := 0) dX2_forget_11 rfl (by decide) ?_
    refine S_callS_0 (as := [qr 225, qi 0]) (st := []) (fun _ => rfl) (TJ7_fill_031fb 225 6480 0 qk_225 (by decide) h) yv_J7_fill_031fb tw_738 (by decide) rfl rfl (Nat.le_of_ble_eq_true rfl) dX2_forget_12 rfl (fun r4 h5 e6 => ?_)
    exact TX2_forget_b15 h5
  · refine S_ifnull_n (pc' := 15) dX2_forget_4 (by decide) ?_
    exact TX2_forget_b15 h
def DX3_clear (h : qH) : Option (Int × qH) := (qlt (qu h 44 1 0) fun h1 => (qlt (qu h1 44 2 0) fun h2 => some (0, h2)))
set_option maxRecDepth 100000 in
theorem TX3_clear {L : Nat} {xs : Nat → Int32} (h : qH) : qMet L xs yX3_clear cX3_clear 1 (none) 0 1 [qr 44] h (DX3_clear h) := by
  refine qMet.of (by decide +kernel) (Or.inl ⟨rfl, rfl⟩) (Nat.le_of_ble_eq_true rfl) ?_
  show qS L xs cX3_clear "BottlePost$Past" 1 1 0 0 [(0, qr 44)] [] h (DX3_clear h)
  unfold DX3_clear
  refine S_aload_n 0 dX3_clear_0 rfl rfl rfl ?_
  refine S_iconst (a := 0) dX3_clear_1 rfl (by decide) ?_
  refine S_puti 1 qC_3 (by decide) (by decide) rfl rfl qk_44 (by decide) tw_294 dX3_clear_2 rfl ?_
  refine S_lh (fun h1 => ?_)
  refine S_aload_n 0 dX3_clear_5 rfl rfl rfl ?_
  refine S_iconst (a := 0) dX3_clear_6 rfl (by decide) ?_
  refine S_puti 2 qC_3 (by decide) (by decide) rfl rfl qk_44 (by decide) tw_295 dX3_clear_7 rfl ?_
  refine S_lh (fun h2 => ?_)
  exact S_vret dX3_clear_10
def DX9_becomeOther (h : qH) : Option (Int × qH) := (qbd (DX2_forget h) fun r1 h2 => (qbd (DX3_clear h2) fun r4 h5 => some (0, h5)))
set_option maxRecDepth 100000 in
theorem TX9_becomeOther {L : Nat} {xs : Nat → Int32} (h : qH) : qMet L xs yX9_becomeOther cX9_becomeOther 1 (none) 0 3 [qr 0] h (DX9_becomeOther h) := by
  refine qMet.of (by decide +kernel) (Or.inl ⟨rfl, rfl⟩) (Nat.le_of_ble_eq_true rfl) ?_
  show qS L xs cX9_becomeOther "BottlePost" 1 3 0 0 [(0, qr 0)] [] h (DX9_becomeOther h)
  unfold DX9_becomeOther
  refine S_aload_n 0 dX9_becomeOther_0 rfl rfl rfl ?_
  refine S_getr (j := 4) (o := 4) 3 qC_9 (by decide) (by decide) qk_0 rfl rfl (by decide) tw_384 dX9_becomeOther_1 rfl ?_
  refine S_callV_0 (as := []) (st := []) (fun _ => rfl) (TX2_forget h) yv_X2_forget tw_734 qC_2 qk_4 (by decide) rfl rfl (Nat.le_of_ble_eq_true rfl) dX9_becomeOther_4 rfl (fun r1 h2 e3 => ?_)
  refine S_aload_n 0 dX9_becomeOther_7 rfl rfl rfl ?_
  refine S_getr (j := 44) (o := 44) 7 qC_9 (by decide) (by decide) qk_0 rfl rfl (by decide) tw_388 dX9_becomeOther_8 rfl ?_
  refine S_callV_0 (as := []) (st := []) (fun _ => rfl) (TX3_clear h2) yv_X3_clear tw_744 qC_3 qk_44 (by decide) rfl rfl (Nat.le_of_ble_eq_true rfl) dX9_becomeOther_11 rfl (fun r4 h5 e6 => ?_)
  exact S_vret dX9_becomeOther_14
def DX1_isShore (i0 : Nat) (a1 : Int) (h : qH) : Option (Int × qH) := (if a1 < 0 then some (0, h) else (if h.1 i0 14 ≤ a1 then some (0, h) else (if 6 ≤ a1 then some (0, h) else some (1, h))))
set_option maxRecDepth 100000 in
theorem TX1_isShore {L : Nat} {xs : Nat → Int32} (i0 : Nat) (a1 : Int) (t0 : qK i0 = (1, 20)) (h : qH) : qMet L xs yX1_isShore cX1_isShore 2 (some .boolean) 4 1 [qr i0, qi a1] h (DX1_isShore i0 a1 h) := by
  refine qMet.of (by decide +kernel) (Or.inr (Or.inr (Or.inr (Or.inr (Or.inl ⟨rfl, rfl⟩))))) (Nat.le_of_ble_eq_true rfl) ?_
  show qS L xs cX1_isShore "BottlePost$Chart" 2 1 4 0 [(0, qr i0), (1, qi a1)] [] h (DX1_isShore i0 a1 h)
  unfold DX1_isShore
  refine S_iload_n 1 dX1_isShore_0 rfl rfl rfl ?_
  refine S_if_lt (tgt := 22) dX1_isShore_1 (by decide) rfl (fun _ => ?_) (fun _ => ?_)
  · refine S_iconst (a := 0) dX1_isShore_22 rfl (by decide) ?_
    exact S_zretl (by decide) dX1_isShore_23
  · refine S_iload_n 1 dX1_isShore_4 rfl rfl rfl ?_
    refine S_aload_n 0 dX1_isShore_5 rfl rfl rfl ?_
    refine S_geti 14 qC_1 (by decide) (by decide) t0 tw_84 dX1_isShore_6 rfl ?_
    refine S_icmp_ge (tgt := 22) dX1_isShore_9 (by decide) rfl (fun _ => ?_) (fun _ => ?_)
    · refine S_iconst (a := 0) dX1_isShore_22 rfl (by decide) ?_
      exact S_zretl (by decide) dX1_isShore_23
    · refine S_iload_n 1 dX1_isShore_12 rfl rfl rfl ?_
      refine S_bipush (a := 6) dX1_isShore_13 rfl (by decide) (by decide) ?_
      refine S_icmp_ge (tgt := 22) dX1_isShore_15 (by decide) rfl (fun _ => ?_) (fun _ => ?_)
      · refine S_iconst (a := 0) dX1_isShore_22 rfl (by decide) ?_
        exact S_zretl (by decide) dX1_isShore_23
      · refine S_iconst (a := 1) dX1_isShore_18 rfl (by decide) ?_
        refine S_goto (pc' := 23) dX1_isShore_19 (by decide) ?_
        exact S_zretl (by decide) dX1_isShore_23
def DX1_throwCell (i0 : Nat) (a1 : Int) (h : qH) : Option (Int × qH) := (if a1 < 0 then some ((-1), h) else (if h.1 i0 14 ≤ a1 then some ((-1), h) else (if 6 ≤ a1 then some ((-1), h) else (if 0 ≤ a1 ∧ a1 < 6 then some (h.1 (i0 + 5) a1.toNat, h) else none))))
set_option maxRecDepth 100000 in
theorem TX1_throwCell {L : Nat} {xs : Nat → Int32} (i0 : Nat) (a1 : Int) (t0 : qK i0 = (1, 20)) (h : qH) : qMet L xs yX1_throwCell cX1_throwCell 2 (some .int) 1 1 [qr i0, qi a1] h (DX1_throwCell i0 a1 h) := by
  refine qMet.of (by decide +kernel) (Or.inr (Or.inl ⟨rfl, rfl⟩)) (Nat.le_of_ble_eq_true rfl) ?_
  show qS L xs cX1_throwCell "BottlePost$Chart" 2 1 1 0 [(0, qr i0), (1, qi a1)] [] h (DX1_throwCell i0 a1 h)
  unfold DX1_throwCell
  refine S_iload_n 1 dX1_throwCell_0 rfl rfl rfl ?_
  refine S_if_lt (tgt := 27) dX1_throwCell_1 (by decide) rfl (fun _ => ?_) (fun _ => ?_)
  · refine S_iconst (a := (-1)) dX1_throwCell_27 rfl (by decide) ?_
    exact S_iret dX1_throwCell_28
  · refine S_iload_n 1 dX1_throwCell_4 rfl rfl rfl ?_
    refine S_aload_n 0 dX1_throwCell_5 rfl rfl rfl ?_
    refine S_geti 14 qC_1 (by decide) (by decide) t0 tw_84 dX1_throwCell_6 rfl ?_
    refine S_icmp_ge (tgt := 27) dX1_throwCell_9 (by decide) rfl (fun _ => ?_) (fun _ => ?_)
    · refine S_iconst (a := (-1)) dX1_throwCell_27 rfl (by decide) ?_
      exact S_iret dX1_throwCell_28
    · refine S_iload_n 1 dX1_throwCell_12 rfl rfl rfl ?_
      refine S_bipush (a := 6) dX1_throwCell_13 rfl (by decide) (by decide) ?_
      refine S_icmp_ge (tgt := 27) dX1_throwCell_15 (by decide) rfl (fun _ => ?_) (fun _ => ?_)
      · refine S_iconst (a := (-1)) dX1_throwCell_27 rfl (by decide) ?_
        exact S_iret dX1_throwCell_28
      · refine S_aload_n 0 dX1_throwCell_18 rfl rfl rfl ?_
        refine S_getr (j := (i0 + 5)) (o := 5) 4 qC_1 (by decide) (by decide) t0 rfl rfl (qf_1_4 t0).2 tw_53 dX1_throwCell_19 rfl ?_
        refine S_iload_n 1 dX1_throwCell_22 rfl rfl rfl ?_
        refine S_iald (N := 6) (qf_1_4 t0).1 rfl dX1_throwCell_23 rfl (fun g1 g2 => ?_)
        refine S_goto (pc' := 28) dX1_throwCell_24 (by decide) ?_
        exact S_iret dX1_throwCell_28
def DX9_throwerCode (a1 : Int) (h : qH) : Option (Int × qH) := (qbd (DX1_isShore 5 a1 h) fun r1 h2 => (if ¬ r1 = 0 then (qbd (DX1_throwCell 5 a1 h2) fun r4 h5 => (if ¬ r4 = (-1) then some (0, h5) else some ((-5), h5))) else some ((-2), h2)))
set_option maxRecDepth 100000 in
theorem TX9_throwerCode {L : Nat} {xs : Nat → Int32} (a1 : Int) (h : qH) : qMet L xs yX9_throwerCode cX9_throwerCode 2 (some .int) 1 2 [qr 0, qi a1] h (DX9_throwerCode a1 h) := by
  refine qMet.of (by decide +kernel) (Or.inr (Or.inl ⟨rfl, rfl⟩)) (Nat.le_of_ble_eq_true rfl) ?_
  show qS L xs cX9_throwerCode "BottlePost" 2 2 1 0 [(0, qr 0), (1, qi a1)] [] h (DX9_throwerCode a1 h)
  unfold DX9_throwerCode
  refine S_aload_n 0 dX9_throwerCode_0 rfl rfl rfl ?_
  refine S_getr (j := 5) (o := 5) 4 qC_9 (by decide) (by decide) qk_0 rfl rfl (by decide) tw_385 dX9_throwerCode_1 rfl ?_
  refine S_iload_n 1 dX9_throwerCode_4 rfl rfl rfl ?_
  refine S_callV_i (as := [qi a1]) (st := []) (fun _ => rfl) (TX1_isShore 5 a1 qk_5 h) yv_X1_isShore tw_761 qC_1 qk_5 (by decide) rfl rfl (Nat.le_of_ble_eq_true rfl) dX9_throwerCode_5 rfl (fun r1 h2 e3 => ?_)
  refine S_if_ne (tgt := 14) dX9_throwerCode_8 (by decide) rfl (fun _ => ?_) (fun _ => ?_)
  · refine S_aload_n 0 dX9_throwerCode_14 rfl rfl rfl ?_
    refine S_getr (j := 5) (o := 5) 4 qC_9 (by decide) (by decide) qk_0 rfl rfl (by decide) tw_385 dX9_throwerCode_15 rfl ?_
    refine S_iload_n 1 dX9_throwerCode_18 rfl rfl rfl ?_
    refine S_callV_i (as := [qi a1]) (st := []) (fun _ => rfl) (TX1_throwCell 5 a1 qk_5 h2) yv_X1_throwCell tw_765 qC_1 qk_5 (by decide) rfl rfl (Nat.le_of_ble_eq_true rfl) dX9_throwerCode_19 rfl (fun r4 h5 e6 => ?_)
    refine S_iconst (a := (-1)) dX9_throwerCode_22 rfl (by decide) ?_
    refine S_icmp_ne (tgt := 31) dX9_throwerCode_23 (by decide) rfl (fun _ => ?_) (fun _ => ?_)
    · refine S_iconst (a := 0) dX9_throwerCode_31 rfl (by decide) ?_
      exact S_iret dX9_throwerCode_32
    · refine S_bipush (a := (-5)) dX9_throwerCode_26 rfl (by decide) (by decide) ?_
      refine S_goto (pc' := 32) dX9_throwerCode_28 (by decide) ?_
      exact S_iret dX9_throwerCode_32
  · refine S_bipush (a := (-2)) dX9_throwerCode_11 rfl (by decide) (by decide) ?_
    exact S_iret dX9_throwerCode_13
def DX9_pairCode (a1 : Int) (a2 : Int) (h : qH) : Option (Int × qH) := (qbd (DX1_isShore 5 a2 h) fun r1 h2 => (if r1 = 0 then some ((-2), h2) else (if ¬ a1 = a2 then (qbd (DX9_throwerCode a1 h2) fun r4 h5 => some (r4, h5)) else some ((-2), h2))))
set_option maxRecDepth 100000 in
theorem TX9_pairCode {L : Nat} {xs : Nat → Int32} (a1 : Int) (a2 : Int) (h : qH) : qMet L xs yX9_pairCode cX9_pairCode 3 (some .int) 1 3 [qr 0, qi a1, qi a2] h (DX9_pairCode a1 a2 h) := by
  refine qMet.of (by decide +kernel) (Or.inr (Or.inl ⟨rfl, rfl⟩)) (Nat.le_of_ble_eq_true rfl) ?_
  show qS L xs cX9_pairCode "BottlePost" 3 3 1 0 [(0, qr 0), (1, qi a1), (2, qi a2)] [] h (DX9_pairCode a1 a2 h)
  unfold DX9_pairCode
  refine S_aload_n 0 dX9_pairCode_0 rfl rfl rfl ?_
  refine S_getr (j := 5) (o := 5) 4 qC_9 (by decide) (by decide) qk_0 rfl rfl (by decide) tw_385 dX9_pairCode_1 rfl ?_
  refine S_iload_n 2 dX9_pairCode_4 rfl rfl rfl ?_
  refine S_callV_i (as := [qi a2]) (st := []) (fun _ => rfl) (TX1_isShore 5 a2 qk_5 h) yv_X1_isShore tw_761 qC_1 qk_5 (by decide) rfl rfl (Nat.le_of_ble_eq_true rfl) dX9_pairCode_5 rfl (fun r1 h2 e3 => ?_)
  refine S_if_eq (tgt := 16) dX9_pairCode_8 (by decide) rfl (fun _ => ?_) (fun _ => ?_)
  · refine S_bipush (a := (-2)) dX9_pairCode_16 rfl (by decide) (by decide) ?_
    exact S_iret dX9_pairCode_18
  · refine S_iload_n 1 dX9_pairCode_11 rfl rfl rfl ?_
    refine S_iload_n 2 dX9_pairCode_12 rfl rfl rfl ?_
    refine S_icmp_ne (tgt := 19) dX9_pairCode_13 (by decide) rfl (fun _ => ?_) (fun _ => ?_)
    · refine S_aload_n 0 dX9_pairCode_19 rfl rfl rfl ?_
      refine S_iload_n 1 dX9_pairCode_20 rfl rfl rfl ?_
      refine S_callV_i (as := [qi a1]) (st := []) (fun _ => rfl) (TX9_throwerCode a1 h2) yv_X9_throwerCode tw_1014 qC_9 qk_0 (by decide) rfl rfl (Nat.le_of_ble_eq_true rfl) dX9_pairCode_21 rfl (fun r4 h5 e6 => ?_)
      exact S_iret dX9_pairCode_24
    · refine S_bipush (a := (-2)) dX9_pairCode_16 rfl (by decide) (by decide) ?_
      exact S_iret dX9_pairCode_18
def DX2_arrivalOf (a0 : Int) (h : qH) : Option (Int × qH) := some (qshr a0 6, h)
set_option maxRecDepth 100000 in
theorem TX2_arrivalOf {L : Nat} {xs : Nat → Int32} (a0 : Int) (h : qH) : qMet L xs yX2_arrivalOf cX2_arrivalOf 1 (some .int) 1 1 [qi a0] h (DX2_arrivalOf a0 h) := by
  refine qMet.of (by decide +kernel) (Or.inr (Or.inl ⟨rfl, rfl⟩)) (Nat.le_of_ble_eq_true rfl) ?_
  show qS L xs cX2_arrivalOf "BottlePost$Drift" 1 1 1 0 [(0, qi a0)] [] h (DX2_arrivalOf a0 h)
  unfold DX2_arrivalOf
  refine S_iload_n 0 dX2_arrivalOf_0 rfl rfl rfl ?_
  refine S_bipush (a := 6) dX2_arrivalOf_1 rfl (by decide) (by decide) ?_
  refine S_ishr dX2_arrivalOf_3 rfl ?_
  exact S_iret dX2_arrivalOf_4
def DX2_keeperOf (a0 : Int) (h : qH) : Option (Int × qH) := some (qw (qand a0 7 - 2), h)
set_option maxRecDepth 100000 in
theorem TX2_keeperOf {L : Nat} {xs : Nat → Int32} (a0 : Int) (h : qH) : qMet L xs yX2_keeperOf cX2_keeperOf 1 (some .int) 1 1 [qi a0] h (DX2_keeperOf a0 h) := by
  refine qMet.of (by decide +kernel) (Or.inr (Or.inl ⟨rfl, rfl⟩)) (Nat.le_of_ble_eq_true rfl) ?_
  show qS L xs cX2_keeperOf "BottlePost$Drift" 1 1 1 0 [(0, qi a0)] [] h (DX2_keeperOf a0 h)
  unfold DX2_keeperOf
  refine S_iload_n 0 dX2_keeperOf_0 rfl rfl rfl ?_
  refine S_bipush (a := 7) dX2_keeperOf_1 rfl (by decide) (by decide) ?_
  refine S_iand dX2_keeperOf_3 rfl ?_
  refine S_iconst (a := 2) dX2_keeperOf_4 rfl (by decide) ?_
  refine S_isub dX2_keeperOf_5 rfl ?_
  exact S_iret dX2_keeperOf_6
def DX0_launch (i0 : Nat) (a1 : Int) (a2 : Int) (a3 : Int) (a4 : Int) (h : qH) : Option (Int × qH) := (qlt (qu h i0 0 0) fun h1 => (qlt (qu h1 i0 1 a4) fun h2 => (qlt (qu h2 i0 2 a1) fun h3 => (qlt (qu h3 i0 3 a2) fun h4 => (if a3 = 0 ∨ a3 = 1 then qlt (qu h4 i0 4 a3) fun h5 => (qlt (qu h5 i0 5 0) fun h6 => (qlt (qu h6 i0 6 0) fun h7 => (qlt (qu h7 i0 7 (-1)) fun h8 => some (0, h8)))) else none)))))
set_option maxRecDepth 100000 in
theorem TX0_launch {L : Nat} {xs : Nat → Int32} (i0 : Nat) (a1 : Int) (a2 : Int) (a3 : Int) (a4 : Int) (t0 : qK i0 = (0, 8)) (h : qH) : qMet L xs yX0_launch cX0_launch 5 (none) 0 1 [qr i0, qi a1, qi a2, qi a3, qi a4] h (DX0_launch i0 a1 a2 a3 a4 h) := by
  refine qMet.of (by decide +kernel) (Or.inl ⟨rfl, rfl⟩) (Nat.le_of_ble_eq_true rfl) ?_
  show qS L xs cX0_launch "BottlePost$Bottle" 5 1 0 0 [(0, qr i0), (1, qi a1), (2, qi a2), (3, qi a3), (4, qi a4)] [] h (DX0_launch i0 a1 a2 a3 a4 h)
  unfold DX0_launch
  refine S_aload_n 0 dX0_launch_0 rfl rfl rfl ?_
  refine S_iconst (a := 0) dX0_launch_1 rfl (by decide) ?_
  refine S_puti 0 qC_0 (by decide) (by decide) rfl rfl t0 (by decide) tw_192 dX0_launch_2 rfl ?_
  refine S_lh (fun h1 => ?_)
  refine S_aload_n 0 dX0_launch_5 rfl rfl rfl ?_
  refine S_iload 4 dX0_launch_6 rfl rfl ?_
  refine S_puti 1 qC_0 (by decide) (by decide) rfl rfl t0 (by decide) tw_196 dX0_launch_8 rfl ?_
  refine S_lh (fun h2 => ?_)
  refine S_aload_n 0 dX0_launch_11 rfl rfl rfl ?_
  refine S_iload_n 1 dX0_launch_12 rfl rfl rfl ?_
  refine S_puti 2 qC_0 (by decide) (by decide) rfl rfl t0 (by decide) tw_200 dX0_launch_13 rfl ?_
  refine S_lh (fun h3 => ?_)
  refine S_aload_n 0 dX0_launch_16 rfl rfl rfl ?_
  refine S_iload_n 2 dX0_launch_17 rfl rfl rfl ?_
  refine S_puti 3 qC_0 (by decide) (by decide) rfl rfl t0 (by decide) tw_203 dX0_launch_18 rfl ?_
  refine S_lh (fun h4 => ?_)
  refine S_aload_n 0 dX0_launch_21 rfl rfl rfl ?_
  refine S_iload_n 3 dX0_launch_22 rfl rfl rfl ?_
  refine S_ite (fun gz => ?_) (fun _ => S_none)
  refine S_putz qC_0 t0 gz tw_206 dX0_launch_23 rfl ?_
  refine S_lh (fun h5 => ?_)
  refine S_aload_n 0 dX0_launch_26 rfl rfl rfl ?_
  refine S_iconst (a := 0) dX0_launch_27 rfl (by decide) ?_
  refine S_puti 5 qC_0 (by decide) (by decide) rfl rfl t0 (by decide) tw_209 dX0_launch_28 rfl ?_
  refine S_lh (fun h6 => ?_)
  refine S_aload_n 0 dX0_launch_31 rfl rfl rfl ?_
  refine S_iconst (a := 0) dX0_launch_32 rfl (by decide) ?_
  refine S_puti 6 qC_0 (by decide) (by decide) rfl rfl t0 (by decide) tw_212 dX0_launch_33 rfl ?_
  refine S_lh (fun h7 => ?_)
  refine S_aload_n 0 dX0_launch_36 rfl rfl rfl ?_
  refine S_iconst (a := (-1)) dX0_launch_37 rfl (by decide) ?_
  refine S_puti 7 qC_0 (by decide) (by decide) rfl rfl t0 (by decide) tw_215 dX0_launch_38 rfl ?_
  refine S_lh (fun h8 => ?_)
  exact S_vret dX0_launch_41
def DX1_moonOf (i0 : Nat) (a1 : Int) (h : qH) : Option (Int × qH) := (if h.1 i0 17 ≤ 0 then some (0, h) else (if h.1 i0 17 = 0 then none else some (qrem a1 (h.1 i0 17), h)))
set_option maxRecDepth 100000 in
theorem TX1_moonOf {L : Nat} {xs : Nat → Int32} (i0 : Nat) (a1 : Int) (t0 : qK i0 = (1, 20)) (h : qH) : qMet L xs yX1_moonOf cX1_moonOf 2 (some .int) 1 1 [qr i0, qi a1] h (DX1_moonOf i0 a1 h) := by
  refine qMet.of (by decide +kernel) (Or.inr (Or.inl ⟨rfl, rfl⟩)) (Nat.le_of_ble_eq_true rfl) ?_
  show qS L xs cX1_moonOf "BottlePost$Chart" 2 1 1 0 [(0, qr i0), (1, qi a1)] [] h (DX1_moonOf i0 a1 h)
  unfold DX1_moonOf
  refine S_aload_n 0 dX1_moonOf_0 rfl rfl rfl ?_
  refine S_geti 17 qC_1 (by decide) (by decide) t0 tw_94 dX1_moonOf_1 rfl ?_
  refine S_if_le (tgt := 16) dX1_moonOf_4 (by decide) rfl (fun _ => ?_) (fun _ => ?_)
  · refine S_iconst (a := 0) dX1_moonOf_16 rfl (by decide) ?_
    exact S_iret dX1_moonOf_17
  · refine S_iload_n 1 dX1_moonOf_7 rfl rfl rfl ?_
    refine S_aload_n 0 dX1_moonOf_8 rfl rfl rfl ?_
    refine S_geti 17 qC_1 (by decide) (by decide) t0 tw_94 dX1_moonOf_9 rfl ?_
    refine S_ite (fun _ => S_none) (fun gz => ?_)
    refine S_irem dX1_moonOf_12 rfl gz ?_
    refine S_goto (pc' := 17) dX1_moonOf_13 (by decide) ?_
    exact S_iret dX1_moonOf_17
def DX1_phaseOf (i0 : Nat) (a1 : Int) (h : qH) : Option (Int × qH) := (if h.1 i0 13 ≤ 0 then some (0, h) else (if h.1 i0 13 = 0 then none else some (qrem a1 (h.1 i0 13), h)))
set_option maxRecDepth 100000 in
theorem TX1_phaseOf {L : Nat} {xs : Nat → Int32} (i0 : Nat) (a1 : Int) (t0 : qK i0 = (1, 20)) (h : qH) : qMet L xs yX1_phaseOf cX1_phaseOf 2 (some .int) 1 1 [qr i0, qi a1] h (DX1_phaseOf i0 a1 h) := by
  refine qMet.of (by decide +kernel) (Or.inr (Or.inl ⟨rfl, rfl⟩)) (Nat.le_of_ble_eq_true rfl) ?_
  show qS L xs cX1_phaseOf "BottlePost$Chart" 2 1 1 0 [(0, qr i0), (1, qi a1)] [] h (DX1_phaseOf i0 a1 h)
  unfold DX1_phaseOf
  refine S_aload_n 0 dX1_phaseOf_0 rfl rfl rfl ?_
  refine S_geti 13 qC_1 (by decide) (by decide) t0 tw_80 dX1_phaseOf_1 rfl ?_
  refine S_if_le (tgt := 16) dX1_phaseOf_4 (by decide) rfl (fun _ => ?_) (fun _ => ?_)
  · refine S_iconst (a := 0) dX1_phaseOf_16 rfl (by decide) ?_
    exact S_iret dX1_phaseOf_17
  · refine S_iload_n 1 dX1_phaseOf_7 rfl rfl rfl ?_
    refine S_aload_n 0 dX1_phaseOf_8 rfl rfl rfl ?_
    refine S_geti 13 qC_1 (by decide) (by decide) t0 tw_80 dX1_phaseOf_9 rfl ?_
    refine S_ite (fun _ => S_none) (fun gz => ?_)
    refine S_irem dX1_phaseOf_12 rfl gz ?_
    refine S_goto (pc' := 17) dX1_phaseOf_13 (by decide) ?_
    exact S_iret dX1_phaseOf_17
def DX1_isCell (i0 : Nat) (a1 : Int) (h : qH) : Option (Int × qH) := (if a1 < 0 then some (0, h) else (if qw (h.1 i0 11 * h.1 i0 12) ≤ a1 then some (0, h) else (if 36 ≤ a1 then some (0, h) else some (1, h))))
set_option maxRecDepth 100000 in
theorem TX1_isCell {L : Nat} {xs : Nat → Int32} (i0 : Nat) (a1 : Int) (t0 : qK i0 = (1, 20)) (h : qH) : qMet L xs yX1_isCell cX1_isCell 2 (some .boolean) 4 1 [qr i0, qi a1] h (DX1_isCell i0 a1 h) := by
  refine qMet.of (by decide +kernel) (Or.inr (Or.inr (Or.inr (Or.inr (Or.inl ⟨rfl, rfl⟩))))) (Nat.le_of_ble_eq_true rfl) ?_
  show qS L xs cX1_isCell "BottlePost$Chart" 2 1 4 0 [(0, qr i0), (1, qi a1)] [] h (DX1_isCell i0 a1 h)
  unfold DX1_isCell
  refine S_iload_n 1 dX1_isCell_0 rfl rfl rfl ?_
  refine S_if_lt (tgt := 27) dX1_isCell_1 (by decide) rfl (fun _ => ?_) (fun _ => ?_)
  · refine S_iconst (a := 0) dX1_isCell_27 rfl (by decide) ?_
    exact S_zretl (by decide) dX1_isCell_28
  · refine S_iload_n 1 dX1_isCell_4 rfl rfl rfl ?_
    refine S_aload_n 0 dX1_isCell_5 rfl rfl rfl ?_
    refine S_geti 11 qC_1 (by decide) (by decide) t0 tw_73 dX1_isCell_6 rfl ?_
    refine S_aload_n 0 dX1_isCell_9 rfl rfl rfl ?_
    refine S_geti 12 qC_1 (by decide) (by decide) t0 tw_77 dX1_isCell_10 rfl ?_
    refine S_imul dX1_isCell_13 rfl ?_
    refine S_icmp_ge (tgt := 27) dX1_isCell_14 (by decide) rfl (fun _ => ?_) (fun _ => ?_)
    · refine S_iconst (a := 0) dX1_isCell_27 rfl (by decide) ?_
      exact S_zretl (by decide) dX1_isCell_28
    · refine S_iload_n 1 dX1_isCell_17 rfl rfl rfl ?_
      refine S_bipush (a := 36) dX1_isCell_18 rfl (by decide) (by decide) ?_
      refine S_icmp_ge (tgt := 27) dX1_isCell_20 (by decide) rfl (fun _ => ?_) (fun _ => ?_)
      · refine S_iconst (a := 0) dX1_isCell_27 rfl (by decide) ?_
        exact S_zretl (by decide) dX1_isCell_28
      · refine S_iconst (a := 1) dX1_isCell_23 rfl (by decide) ?_
        refine S_goto (pc' := 28) dX1_isCell_24 (by decide) ?_
        exact S_zretl (by decide) dX1_isCell_28
def DJ9_max_f86c9 (a0 : Int) (a2 : Int) (h : qH) : Option (Int × qH) := (if qcmp a0 a2 < 0 then some (a2, h) else some (a0, h))
set_option maxRecDepth 100000 in
theorem TJ9_max_f86c9 {L : Nat} {xs : Nat → Int32} (a0 : Int) (a2 : Int) (h : qH) : qMet L xs yJ9_max_f86c9 cJ9_max_f86c9 4 (some .long) 2 1 [ql a0, ql a2] h (DJ9_max_f86c9 a0 a2 h) := by
  refine qMet.ofF (by decide +kernel) (Or.inr (Or.inr (Or.inl ⟨rfl, rfl⟩))) (Nat.le_of_ble_eq_true rfl) ?_
  show qS L xs cJ9_max_f86c9 "java/lang/Math" 4 1 2 0 [(0, ql a0), (2, ql a2)] [] h (DJ9_max_f86c9 a0 a2 h)
  unfold DJ9_max_f86c9
  refine S_lload_n 0 dJ9_max_f86c9_0 rfl rfl rfl ?_
  refine S_lload_n 1 dJ9_max_f86c9_1 rfl rfl rfl ?_
  refine S_lcmp dJ9_max_f86c9_2 rfl ?_
  refine S_if_lt (tgt := 10) dJ9_max_f86c9_3 (by decide) rfl (fun _ => ?_) (fun _ => ?_)
  · refine S_lload_n 1 dJ9_max_f86c9_10 rfl rfl rfl ?_
    exact S_lret dJ9_max_f86c9_11
  · refine S_lload_n 0 dJ9_max_f86c9_6 rfl rfl rfl ?_
    refine S_goto (pc' := 11) dJ9_max_f86c9_7 (by decide) ?_
    exact S_lret dJ9_max_f86c9_11
def DJ9_min_f86c9 (a0 : Int) (a2 : Int) (h : qH) : Option (Int × qH) := (if 0 < qcmp a0 a2 then some (a2, h) else some (a0, h))
set_option maxRecDepth 100000 in
theorem TJ9_min_f86c9 {L : Nat} {xs : Nat → Int32} (a0 : Int) (a2 : Int) (h : qH) : qMet L xs yJ9_min_f86c9 cJ9_min_f86c9 4 (some .long) 2 1 [ql a0, ql a2] h (DJ9_min_f86c9 a0 a2 h) := by
  refine qMet.ofF (by decide +kernel) (Or.inr (Or.inr (Or.inl ⟨rfl, rfl⟩))) (Nat.le_of_ble_eq_true rfl) ?_
  show qS L xs cJ9_min_f86c9 "java/lang/Math" 4 1 2 0 [(0, ql a0), (2, ql a2)] [] h (DJ9_min_f86c9 a0 a2 h)
  unfold DJ9_min_f86c9
  refine S_lload_n 0 dJ9_min_f86c9_0 rfl rfl rfl ?_
  refine S_lload_n 1 dJ9_min_f86c9_1 rfl rfl rfl ?_
  refine S_lcmp dJ9_min_f86c9_2 rfl ?_
  refine S_if_gt (tgt := 10) dJ9_min_f86c9_3 (by decide) rfl (fun _ => ?_) (fun _ => ?_)
  · refine S_lload_n 1 dJ9_min_f86c9_10 rfl rfl rfl ?_
    exact S_lret dJ9_min_f86c9_11
  · refine S_lload_n 0 dJ9_min_f86c9_6 rfl rfl rfl ?_
    refine S_goto (pc' := 11) dJ9_min_f86c9_7 (by decide) ?_
    exact S_lret dJ9_min_f86c9_11
def DX2_lawSays_b367 (a3 : Int) (h : qH) : Option (Int × qH) := (if a3 ≤ 0 then some (0, h) else some (h.1 15 0, h))
set_option maxRecDepth 100000 in
theorem TX2_lawSays_b367 {L : Nat} {xs : Nat → Int32} (a3 : Int) (h : qH) : qS L xs cX2_lawSays "BottlePost$Drift" 13 2 1 367 [(0, qr 4), (3, qi a3)] [] h (DX2_lawSays_b367 a3 h) := by
  unfold DX2_lawSays_b367
  refine S_iload_n 1 dX2_lawSays_367 rfl rfl rfl ?_
  refine S_if_le (tgt := 380) dX2_lawSays_368 (by decide) rfl (fun _ => ?_) (fun _ => ?_)
  · refine S_iconst (a := 0) dX2_lawSays_380 rfl (by decide) ?_
    exact S_iret dX2_lawSays_381
  · refine S_aload_n 0 dX2_lawSays_371 rfl rfl rfl ?_
    refine S_getr (j := 15) (o := 11) 3 qC_2 (by decide) (by decide) qk_4 rfl rfl (by decide) tw_242 dX2_lawSays_372 rfl ?_
    refine S_iconst (a := 0) dX2_lawSays_375 rfl (by decide) ?_
    refine S_pick_t ((0 : Int) ≤ 0 ∧ (0 : Int) < 64) (by decide) ?_
    refine S_iald (N := 64) qk_15 rfl dX2_lawSays_376 rfl (fun g1 g2 => ?_)
    refine S_goto (pc' := 381) dX2_lawSays_377 (by decide) ?_
    exact S_iret dX2_lawSays_381
def DX2_lawSays_b338 (k5 : Int → Int → Int → qH → Option (Int × qH)) (a2 : Int) (a3 : Int) (a4 : Int) (a11 : Int) (h : qH) : Option (Int × qH) := (qbd (DJ9_min_f86c9 1000000 a11 h) fun r3 h4 => (qbd (DJ9_max_f86c9 (-1000000) r3 h4) fun r6 h7 => (if 0 ≤ qw (a3 - 1) ∧ qw (a3 - 1) < 64 then qlt (qu h7 15 (qw (a3 - 1)).toNat (qw r6)) fun h9 => (k5 a2 a3 (qw (a4 + 1)) h9) else none)))
set_option maxRecDepth 100000 in
theorem TX2_lawSays_b338 {L : Nat} {xs : Nat → Int32} (k5 : Int → Int → Int → qH → Option (Int × qH)) (hk5 : ∀ (a2 : Int) (a3 : Int) (a4 : Int) (h : qH), qS L xs cX2_lawSays "BottlePost$Drift" 13 2 1 5 [(0, qr 4), (2, qi a2), (3, qi a3), (4, qi a4)] [] h (k5 a2 a3 a4 h)) (a2 : Int) (a3 : Int) (a4 : Int) (a11 : Int) (h : qH) : qS L xs cX2_lawSays "BottlePost$Drift" 13 2 1 338 [(0, qr 4), (2, qi a2), (3, qi a3), (4, qi a4), (11, ql a11)] [] h (DX2_lawSays_b338 k5 a2 a3 a4 a11 h) := by
  unfold DX2_lawSays_b338
  refine S_aload_n 0 dX2_lawSays_338 rfl rfl rfl ?_
  refine S_getr (j := 15) (o := 11) 3 qC_2 (by decide) (by decide) qk_4 rfl rfl (by decide) tw_242 dX2_lawSays_339 rfl ?_
  refine S_iload_n 2 dX2_lawSays_342 rfl rfl rfl ?_
  refine S_iconst (a := 1) dX2_lawSays_343 rfl (by decide) ?_
  refine S_isub dX2_lawSays_344 rfl ?_
  refine S_ldc2 (a := (-1000000)) dX2_lawSays_345 rfl (by rw [show Int64.ofInt (-1000000) = ((-1000000) : Int64) from by decide]; exact tw_807) (by decide) ?_
  refine S_ldc2 (a := 1000000) dX2_lawSays_348 rfl (by rw [show Int64.ofInt 1000000 = (1000000 : Int64) from by decide]; exact tw_808) (by decide) ?_
  refine S_lload 4 dX2_lawSays_351 rfl rfl ?_
  refine S_callS_l (as := [ql 1000000, ql a11]) (st := [ql (-1000000), qi (qw (a3 - 1)), qr 15]) (fun _ => rfl) (TJ9_min_f86c9 1000000 a11 h) yv_J9_min_f86c9 tw_809 (by decide) rfl rfl (Nat.le_of_ble_eq_true rfl) dX2_lawSays_353 rfl (fun r3 h4 e5 => ?_)
  refine S_callS_l (as := [ql (-1000000), ql r3]) (st := [qi (qw (a3 - 1)), qr 15]) (fun _ => rfl) (TJ9_max_f86c9 (-1000000) r3 h4) yv_J9_max_f86c9 tw_812 (by decide) rfl rfl (Nat.le_of_ble_eq_true rfl) dX2_lawSays_356 rfl (fun r6 h7 e8 => ?_)
  refine S_l2i dX2_lawSays_359 rfl ?_
  refine S_iast (N := 64) qk_15 rfl dX2_lawSays_360 rfl (fun _ _ => ?_)
  refine S_lh (fun h9 => ?_)
  refine S_iinc (lv' := [(4, qi (qw (a4 + 1))), (0, qr 4), (2, qi a2), (3, qi a3), (11, ql a11)]) 3 dX2_lawSays_361 rfl (by decide) rfl rfl ?_
  refine S_goto (pc' := 5) dX2_lawSays_364 (by decide) ?_
  refine S_sub [1, 2, 3, 0] rfl ?_
  exact hk5 a2 a3 (qw (a4 + 1)) h9
def DX2_lawSays_b109 (k5 : Int → Int → Int → qH → Option (Int × qH)) (a2 : Int) (a3 : Int) (a4 : Int) (a5 : Int) (b0 : Int) (h : qH) : Option (Int × qH) := (if b0 ≤ a3 then (if 0 ≤ qw (a3 - 1) ∧ qw (a3 - 1) < 64 then (qlt (h.1 15 (qw (a3 - 1)).toNat) fun v12 => (qlt (qw (a3 - qw (b0 - 1))) fun v13 => (if 0 ≤ qw (v13 - 1) ∧ qw (v13 - 1) < 64 then (qlt (h.1 15 (qw (v13 - 1)).toNat) fun v16 => (if a5 = 2001 then (DX2_lawSays_b338 k5 a2 v13 a4 (qorl v16 v12) h) else (if a5 = 2002 then (DX2_lawSays_b338 k5 a2 v13 a4 (qandl v16 v12) h) else (if a5 = 2042 then (DX2_lawSays_b338 k5 a2 v13 a4 (qwl (v16 * v12)) h) else (if a5 = 2043 then (DX2_lawSays_b338 k5 a2 v13 a4 (qwl (v16 + v12)) h) else (if a5 = 2045 then (DX2_lawSays_b338 k5 a2 v13 a4 (qwl (v16 - v12)) h) else (if a5 = 2060 then (if 0 ≤ qcmp v16 v12 then (DX2_lawSays_b338 k5 a2 v13 a4 0 h) else (DX2_lawSays_b338 k5 a2 v13 a4 1 h)) else (if a5 = 2061 then (if ¬ qcmp v16 v12 = 0 then (DX2_lawSays_b338 k5 a2 v13 a4 0 h) else (DX2_lawSays_b338 k5 a2 v13 a4 1 h)) else (if a5 = 2062 then (if qcmp v16 v12 ≤ 0 then (DX2_lawSays_b338 k5 a2 v13 a4 0 h) else (DX2_lawSays_b338 k5 a2 v13 a4 1 h)) else (DX2_lawSays_b338 k5 a2 v13 a4 (qwl (1 - v16)) h)))))))))) else none))) else none) else some (0, h))
set_option maxRecDepth 100000 in
theorem TX2_lawSays_b109 {L : Nat} {xs : Nat → Int32} (k5 : Int → Int → Int → qH → Option (Int × qH)) (hk5 : ∀ (a2 : Int) (a3 : Int) (a4 : Int) (h : qH), qS L xs cX2_lawSays "BottlePost$Drift" 13 2 1 5 [(0, qr 4), (2, qi a2), (3, qi a3), (4, qi a4)] [] h (k5 a2 a3 a4 h)) (a2 : Int) (a3 : Int) (a4 : Int) (a5 : Int) (b0 : Int) (h : qH) : qS L xs cX2_lawSays "BottlePost$Drift" 13 2 1 109 [(0, qr 4), (2, qi a2), (3, qi a3), (4, qi a4), (5, qi a5)] [qi b0] h (DX2_lawSays_b109 k5 a2 a3 a4 a5 b0 h) := by
  unfold DX2_lawSays_b109
  refine S_istore (lv' := [(6, qi b0), (0, qr 4), (2, qi a2), (3, qi a3), (4, qi a4), (5, qi a5)]) dX2_lawSays_109 (by decide) rfl rfl ?_
  refine S_iload_n 3 dX2_lawSays_111 rfl rfl rfl ?_
  refine S_iload 0 dX2_lawSays_112 rfl rfl ?_
  refine S_icmp_ge (tgt := 119) dX2_lawSays_114 (by decide) rfl (fun _ => ?_) (fun _ => ?_)
  · refine S_aload_n 1 dX2_lawSays_119 rfl rfl rfl ?_
    refine S_getr (j := 15) (o := 11) 3 qC_2 (by decide) (by decide) qk_4 rfl rfl (by decide) tw_242 dX2_lawSays_120 rfl ?_
    refine S_iload_n 3 dX2_lawSays_123 rfl rfl rfl ?_
    refine S_iconst (a := 1) dX2_lawSays_124 rfl (by decide) ?_
    refine S_isub dX2_lawSays_125 rfl ?_
    refine S_iald (N := 64) qk_15 rfl dX2_lawSays_126 rfl (fun g10 g11 => ?_)
    refine S_i2l dX2_lawSays_127 rfl ?_
    refine S_lstore (lv' := [(7, ql (h.1 15 (qw (a3 - 1)).toNat)), (6, qi b0), (0, qr 4), (2, qi a2), (3, qi a3), (4, qi a4), (5, qi a5)]) dX2_lawSays_128 (by decide) rfl rfl ?_
    refine S_lj (fun v12 => ?_)
    refine S_iload_n 4 dX2_lawSays_130 rfl rfl rfl ?_
    refine S_iload 1 dX2_lawSays_131 rfl rfl ?_
    refine S_iconst (a := 1) dX2_lawSays_133 rfl (by decide) ?_
    refine S_isub dX2_lawSays_134 rfl ?_
    refine S_isub dX2_lawSays_135 rfl ?_
    refine S_istore_n (lv' := [(3, qi (qw (a3 - qw (b0 - 1)))), (7, ql v12), (6, qi b0), (0, qr 4), (2, qi a2), (4, qi a4), (5, qi a5)]) dX2_lawSays_136 rfl (by decide) rfl rfl ?_
    refine S_li (fun v13 => ?_)
    refine S_aload_n 3 dX2_lawSays_137 rfl rfl rfl ?_
    refine S_getr (j := 15) (o := 11) 3 qC_2 (by decide) (by decide) qk_4 rfl rfl (by decide) tw_242 dX2_lawSays_138 rfl ?_
    refine S_iload_n 0 dX2_lawSays_141 rfl rfl rfl ?_
    refine S_iconst (a := 1) dX2_lawSays_142 rfl (by decide) ?_
    refine S_isub dX2_lawSays_143 rfl ?_
    refine S_iald (N := 64) qk_15 rfl dX2_lawSays_144 rfl (fun g14 g15 => ?_)
    refine S_i2l dX2_lawSays_145 rfl ?_
    refine S_lstore (lv' := [(9, ql (h.1 15 (qw (v13 - 1)).toNat)), (3, qi v13), (7, ql v12), (6, qi b0), (0, qr 4), (2, qi a2), (4, qi a4), (5, qi a5)]) dX2_lawSays_146 (by decide) rfl rfl ?_
    refine S_lj (fun v16 => ?_)
    refine S_lconst (a := 0) dX2_lawSays_148 rfl (by decide) (by decide) ?_
    refine S_lstore (lv' := [(11, ql 0), (9, ql v16), (3, qi v13), (7, ql v12), (6, qi b0), (0, qr 4), (2, qi a2), (4, qi a4), (5, qi a5)]) dX2_lawSays_149 (by decide) rfl rfl ?_
    refine S_iload 8 dX2_lawSays_151 rfl rfl ?_
    refine S_ite (fun g17 => ?_) (fun g17 => ?_)
    · refine S_look (off := 169) (pc' := 322) dX2_lawSays_153 (by decide) (by rw [g17]; decide) (by decide) ?_
      refine S_lload 1 dX2_lawSays_322 rfl rfl ?_
      refine S_lload 3 dX2_lawSays_324 rfl rfl ?_
      refine S_lor dX2_lawSays_326 rfl ?_
      refine S_lstore (lv' := [(11, ql (qorl v16 v12)), (9, ql v16), (3, qi v13), (7, ql v12), (6, qi b0), (0, qr 4), (2, qi a2), (4, qi a4), (5, qi a5)]) dX2_lawSays_327 (by decide) rfl rfl ?_
      refine S_goto (pc' := 338) dX2_lawSays_329 (by decide) ?_
      refine S_sub [5, 6, 2, 7, 0] rfl ?_
      exact TX2_lawSays_b338 k5 hk5 a2 v13 a4 (qorl v16 v12) h
    · refine S_ite (fun g18 => ?_) (fun g18 => ?_)
      · refine S_look (off := 159) (pc' := 312) dX2_lawSays_153 (by decide) (by rw [g18]; decide) (by decide) ?_
        refine S_lload 1 dX2_lawSays_312 rfl rfl ?_
        refine S_lload 3 dX2_lawSays_314 rfl rfl ?_
        refine S_land dX2_lawSays_316 rfl ?_
        refine S_lstore (lv' := [(11, ql (qandl v16 v12)), (9, ql v16), (3, qi v13), (7, ql v12), (6, qi b0), (0, qr 4), (2, qi a2), (4, qi a4), (5, qi a5)]) dX2_lawSays_317 (by decide) rfl rfl ?_
        refine S_goto (pc' := 338) dX2_lawSays_319 (by decide) ?_
        refine S_sub [5, 6, 2, 7, 0] rfl ?_
        exact TX2_lawSays_b338 k5 hk5 a2 v13 a4 (qandl v16 v12) h
      · refine S_ite (fun g19 => ?_) (fun g19 => ?_)
        · refine S_look (off := 95) (pc' := 248) dX2_lawSays_153 (by decide) (by rw [g19]; decide) (by decide) ?_
          refine S_lload 1 dX2_lawSays_248 rfl rfl ?_
          refine S_lload 3 dX2_lawSays_250 rfl rfl ?_
          refine S_lmul dX2_lawSays_252 rfl ?_
          refine S_lstore (lv' := [(11, ql (qwl (v16 * v12))), (9, ql v16), (3, qi v13), (7, ql v12), (6, qi b0), (0, qr 4), (2, qi a2), (4, qi a4), (5, qi a5)]) dX2_lawSays_253 (by decide) rfl rfl ?_
          refine S_goto (pc' := 338) dX2_lawSays_255 (by decide) ?_
          refine S_sub [5, 6, 2, 7, 0] rfl ?_
          exact TX2_lawSays_b338 k5 hk5 a2 v13 a4 (qwl (v16 * v12)) h
        · refine S_ite (fun g20 => ?_) (fun g20 => ?_)
          · refine S_look (off := 75) (pc' := 228) dX2_lawSays_153 (by decide) (by rw [g20]; decide) (by decide) ?_
            refine S_lload 1 dX2_lawSays_228 rfl rfl ?_
            refine S_lload 3 dX2_lawSays_230 rfl rfl ?_
            refine S_ladd dX2_lawSays_232 rfl ?_
            refine S_lstore (lv' := [(11, ql (qwl (v16 + v12))), (9, ql v16), (3, qi v13), (7, ql v12), (6, qi b0), (0, qr 4), (2, qi a2), (4, qi a4), (5, qi a5)]) dX2_lawSays_233 (by decide) rfl rfl ?_
            refine S_goto (pc' := 338) dX2_lawSays_235 (by decide) ?_
            refine S_sub [5, 6, 2, 7, 0] rfl ?_
            exact TX2_lawSays_b338 k5 hk5 a2 v13 a4 (qwl (v16 + v12)) h
          · refine S_ite (fun g21 => ?_) (fun g21 => ?_)
            · refine S_look (off := 85) (pc' := 238) dX2_lawSays_153 (by decide) (by rw [g21]; decide) (by decide) ?_
              refine S_lload 1 dX2_lawSays_238 rfl rfl ?_
              refine S_lload 3 dX2_lawSays_240 rfl rfl ?_
              refine S_lsub dX2_lawSays_242 rfl ?_
              refine S_lstore (lv' := [(11, ql (qwl (v16 - v12))), (9, ql v16), (3, qi v13), (7, ql v12), (6, qi b0), (0, qr 4), (2, qi a2), (4, qi a4), (5, qi a5)]) dX2_lawSays_243 (by decide) rfl rfl ?_
              refine S_goto (pc' := 338) dX2_lawSays_245 (by decide) ?_
              refine S_sub [5, 6, 2, 7, 0] rfl ?_
              exact TX2_lawSays_b338 k5 hk5 a2 v13 a4 (qwl (v16 - v12)) h
            · refine S_ite (fun g22 => ?_) (fun g22 => ?_)
              · refine S_look (off := 123) (pc' := 276) dX2_lawSays_153 (by decide) (by rw [g22]; decide) (by decide) ?_
                refine S_lload 1 dX2_lawSays_276 rfl rfl ?_
                refine S_lload 3 dX2_lawSays_278 rfl rfl ?_
                refine S_lcmp dX2_lawSays_280 rfl ?_
                refine S_if_ge (tgt := 288) dX2_lawSays_281 (by decide) rfl (fun _ => ?_) (fun _ => ?_)
                · refine S_lconst (a := 0) dX2_lawSays_288 rfl (by decide) (by decide) ?_
                  refine S_lstore (lv' := [(11, ql 0), (9, ql v16), (3, qi v13), (7, ql v12), (6, qi b0), (0, qr 4), (2, qi a2), (4, qi a4), (5, qi a5)]) dX2_lawSays_289 (by decide) rfl rfl ?_
                  refine S_goto (pc' := 338) dX2_lawSays_291 (by decide) ?_
                  refine S_sub [5, 6, 2, 7, 0] rfl ?_
                  exact TX2_lawSays_b338 k5 hk5 a2 v13 a4 0 h
                · refine S_lconst (a := 1) dX2_lawSays_284 rfl (by decide) (by decide) ?_
                  refine S_goto (pc' := 289) dX2_lawSays_285 (by decide) ?_
                  refine S_lstore (lv' := [(11, ql 1), (9, ql v16), (3, qi v13), (7, ql v12), (6, qi b0), (0, qr 4), (2, qi a2), (4, qi a4), (5, qi a5)]) dX2_lawSays_289 (by decide) rfl rfl ?_
                  refine S_goto (pc' := 338) dX2_lawSays_291 (by decide) ?_
                  refine S_sub [5, 6, 2, 7, 0] rfl ?_
                  exact TX2_lawSays_b338 k5 hk5 a2 v13 a4 1 h
              · refine S_ite (fun g23 => ?_) (fun g23 => ?_)
                · refine S_look (off := 105) (pc' := 258) dX2_lawSays_153 (by decide) (by rw [g23]; decide) (by decide) ?_
                  refine S_lload 1 dX2_lawSays_258 rfl rfl ?_
                  refine S_lload 3 dX2_lawSays_260 rfl rfl ?_
                  refine S_lcmp dX2_lawSays_262 rfl ?_
                  refine S_if_ne (tgt := 270) dX2_lawSays_263 (by decide) rfl (fun _ => ?_) (fun _ => ?_)
                  · refine S_lconst (a := 0) dX2_lawSays_270 rfl (by decide) (by decide) ?_
                    refine S_lstore (lv' := [(11, ql 0), (9, ql v16), (3, qi v13), (7, ql v12), (6, qi b0), (0, qr 4), (2, qi a2), (4, qi a4), (5, qi a5)]) dX2_lawSays_271 (by decide) rfl rfl ?_
                    refine S_goto (pc' := 338) dX2_lawSays_273 (by decide) ?_
                    refine S_sub [5, 6, 2, 7, 0] rfl ?_
                    exact TX2_lawSays_b338 k5 hk5 a2 v13 a4 0 h
                  · refine S_lconst (a := 1) dX2_lawSays_266 rfl (by decide) (by decide) ?_
                    refine S_goto (pc' := 271) dX2_lawSays_267 (by decide) ?_
                    refine S_lstore (lv' := [(11, ql 1), (9, ql v16), (3, qi v13), (7, ql v12), (6, qi b0), (0, qr 4), (2, qi a2), (4, qi a4), (5, qi a5)]) dX2_lawSays_271 (by decide) rfl rfl ?_
                    refine S_goto (pc' := 338) dX2_lawSays_273 (by decide) ?_
                    refine S_sub [5, 6, 2, 7, 0] rfl ?_
                    exact TX2_lawSays_b338 k5 hk5 a2 v13 a4 1 h
                · refine S_ite (fun g24 => ?_) (fun g24 => ?_)
                  · refine S_look (off := 141) (pc' := 294) dX2_lawSays_153 (by decide) (by rw [g24]; decide) (by decide) ?_
                    refine S_lload 1 dX2_lawSays_294 rfl rfl ?_
                    refine S_lload 3 dX2_lawSays_296 rfl rfl ?_
                    refine S_lcmp dX2_lawSays_298 rfl ?_
                    refine S_if_le (tgt := 306) dX2_lawSays_299 (by decide) rfl (fun _ => ?_) (fun _ => ?_)
                    · refine S_lconst (a := 0) dX2_lawSays_306 rfl (by decide) (by decide) ?_
                      refine S_lstore (lv' := [(11, ql 0), (9, ql v16), (3, qi v13), (7, ql v12), (6, qi b0), (0, qr 4), (2, qi a2), (4, qi a4), (5, qi a5)]) dX2_lawSays_307 (by decide) rfl rfl ?_
                      refine S_goto (pc' := 338) dX2_lawSays_309 (by decide) ?_
                      refine S_sub [5, 6, 2, 7, 0] rfl ?_
                      exact TX2_lawSays_b338 k5 hk5 a2 v13 a4 0 h
                    · refine S_lconst (a := 1) dX2_lawSays_302 rfl (by decide) (by decide) ?_
                      refine S_goto (pc' := 307) dX2_lawSays_303 (by decide) ?_
                      refine S_lstore (lv' := [(11, ql 1), (9, ql v16), (3, qi v13), (7, ql v12), (6, qi b0), (0, qr 4), (2, qi a2), (4, qi a4), (5, qi a5)]) dX2_lawSays_307 (by decide) rfl rfl ?_
                      refine S_goto (pc' := 338) dX2_lawSays_309 (by decide) ?_
                      refine S_sub [5, 6, 2, 7, 0] rfl ?_
                      exact TX2_lawSays_b338 k5 hk5 a2 v13 a4 1 h
                  · refine S_look (off := 179) (pc' := 332) dX2_lawSays_153 (by decide) (by simp only [Op.lookupswitch.offset_cons, Op.lookupswitch.offset_nil]; rw [if_neg (fun e => g17 e.symm), if_neg (fun e => g18 e.symm), if_neg (fun e => g19 e.symm), if_neg (fun e => g20 e.symm), if_neg (fun e => g21 e.symm), if_neg (fun e => g22 e.symm), if_neg (fun e => g23 e.symm), if_neg (fun e => g24 e.symm)]) (by decide) ?_
                    refine S_lconst (a := 1) dX2_lawSays_332 rfl (by decide) (by decide) ?_
                    refine S_lload 1 dX2_lawSays_333 rfl rfl ?_
                    refine S_lsub dX2_lawSays_335 rfl ?_
                    refine S_lstore (lv' := [(11, ql (qwl (1 - v16))), (9, ql v16), (3, qi v13), (7, ql v12), (6, qi b0), (0, qr 4), (2, qi a2), (4, qi a4), (5, qi a5)]) dX2_lawSays_336 (by decide) rfl rfl ?_
                    refine S_sub [5, 6, 2, 7, 0] rfl ?_
                    exact TX2_lawSays_b338 k5 hk5 a2 v13 a4 (qwl (1 - v16)) h
  · refine S_iconst (a := 0) dX2_lawSays_117 rfl (by decide) ?_
    exact S_iret dX2_lawSays_118
def DX2_lawSays_l5 : Nat → Int → Int → Int → qH → Option (Int × qH)
  | 0, _, _, _, _ => none
  | n + 1, a2, a3, a4, h => (if a4 < 0 then (DX2_lawSays_b367 a3 h) else (if a2 ≤ a4 then (DX2_lawSays_b367 a3 h) else (if 900 ≤ a4 then (DX2_lawSays_b367 a3 h) else (if 0 ≤ a4 ∧ a4 < 900 then (qlt (h.1 12 a4.toNat) fun v27 => (if 2000 ≤ v27 then (if ¬ v27 = 2003 then (DX2_lawSays_b109 (DX2_lawSays_l5 n) a2 a3 a4 v27 2 h) else (DX2_lawSays_b109 (DX2_lawSays_l5 n) a2 a3 a4 v27 1 h)) else (qlt (qw (v27 - 1000)) fun v28 => (if 64 ≤ a3 then some (0, h) else (if v28 < 7 then (if 0 ≤ v28 then (if 0 ≤ v28 ∧ v28 < 7 then (if 0 ≤ a3 ∧ a3 < 64 then qlt (qu h 15 a3.toNat (h.1 14 v28.toNat)) fun h31 => (qlt (qw (a3 + 1)) fun v32 => ((DX2_lawSays_l5 n) a2 v32 (qw (a4 + 1)) h31)) else none) else none) else (if 0 ≤ a3 ∧ a3 < 64 then qlt (qu h 15 a3.toNat v27) fun h33 => (qlt (qw (a3 + 1)) fun v34 => ((DX2_lawSays_l5 n) a2 v34 (qw (a4 + 1)) h33)) else none)) else some (0, h)))))) else none))))
set_option maxRecDepth 100000 in
theorem TX2_lawSays_l5 {L : Nat} {xs : Nat → Int32} : ∀ (n : Nat) (a2 : Int) (a3 : Int) (a4 : Int) (h : qH), qS L xs cX2_lawSays "BottlePost$Drift" 13 2 1 5 [(0, qr 4), (2, qi a2), (3, qi a3), (4, qi a4)] [] h (DX2_lawSays_l5 n a2 a3 a4 h) := by
  intro n
  induction n with
  | zero =>
    intro a2 a3 a4 h
    exact S_none
  | succ n ih =>
    intro a2 a3 a4 h
    rw [DX2_lawSays_l5.eq_2]
    refine S_iload 3 dX2_lawSays_5 rfl rfl ?_
    refine S_if_lt (tgt := 367) dX2_lawSays_7 (by decide) rfl (fun _ => ?_) (fun _ => ?_)
    · refine S_sub [0, 2] rfl ?_
      exact TX2_lawSays_b367 a3 h
    · refine S_iload 3 dX2_lawSays_10 rfl rfl ?_
      refine S_iload_n 1 dX2_lawSays_12 rfl rfl rfl ?_
      refine S_icmp_ge (tgt := 367) dX2_lawSays_13 (by decide) rfl (fun _ => ?_) (fun _ => ?_)
      · refine S_sub [0, 2] rfl ?_
        exact TX2_lawSays_b367 a3 h
      · refine S_iload 3 dX2_lawSays_16 rfl rfl ?_
        refine S_sipush (a := 900) dX2_lawSays_18 rfl (by decide) (by decide) ?_
        refine S_icmp_ge (tgt := 367) dX2_lawSays_21 (by decide) rfl (fun _ => ?_) (fun _ => ?_)
        · refine S_sub [0, 2] rfl ?_
          exact TX2_lawSays_b367 a3 h
        · refine S_aload_n 0 dX2_lawSays_24 rfl rfl rfl ?_
          refine S_getr (j := 5) (o := 1) 0 qC_2 (by decide) (by decide) qk_4 rfl rfl (by decide) tw_236 dX2_lawSays_25 rfl ?_
          refine S_getr (j := 12) (o := 7) 6 qC_1 (by decide) (by decide) qk_5 rfl rfl (by decide) tw_59 dX2_lawSays_28 rfl ?_
          refine S_iload 3 dX2_lawSays_31 rfl rfl ?_
          refine S_iald (N := 900) qk_12 rfl dX2_lawSays_33 rfl (fun g25 g26 => ?_)
          refine S_istore (lv' := [(5, qi (h.1 12 a4.toNat)), (0, qr 4), (2, qi a2), (3, qi a3), (4, qi a4)]) dX2_lawSays_34 (by decide) rfl rfl ?_
          refine S_li (fun v27 => ?_)
          refine S_iload 0 dX2_lawSays_36 rfl rfl ?_
          refine S_sipush (a := 2000) dX2_lawSays_38 rfl (by decide) (by decide) ?_
          refine S_icmp_ge (tgt := 96) dX2_lawSays_41 (by decide) rfl (fun _ => ?_) (fun _ => ?_)
          · refine S_iload 0 dX2_lawSays_96 rfl rfl ?_
            refine S_sipush (a := 2003) dX2_lawSays_98 rfl (by decide) (by decide) ?_
            refine S_icmp_ne (tgt := 108) dX2_lawSays_101 (by decide) rfl (fun _ => ?_) (fun _ => ?_)
            · refine S_iconst (a := 2) dX2_lawSays_108 rfl (by decide) ?_
              refine S_sub [1, 2, 3, 4, 0] rfl ?_
              exact TX2_lawSays_b109 (DX2_lawSays_l5 n) ih a2 a3 a4 v27 2 h
            · refine S_iconst (a := 1) dX2_lawSays_104 rfl (by decide) ?_
              refine S_goto (pc' := 109) dX2_lawSays_105 (by decide) ?_
              refine S_sub [1, 2, 3, 4, 0] rfl ?_
              exact TX2_lawSays_b109 (DX2_lawSays_l5 n) ih a2 a3 a4 v27 1 h
          · refine S_iload 0 dX2_lawSays_44 rfl rfl ?_
            refine S_sipush (a := 1000) dX2_lawSays_46 rfl (by decide) (by decide) ?_
            refine S_isub dX2_lawSays_49 rfl ?_
            refine S_istore (lv' := [(6, qi (qw (v27 - 1000))), (5, qi v27), (0, qr 4), (2, qi a2), (3, qi a3), (4, qi a4)]) dX2_lawSays_50 (by decide) rfl rfl ?_
            refine S_li (fun v28 => ?_)
            refine S_iload_n 4 dX2_lawSays_52 rfl rfl rfl ?_
            refine S_bipush (a := 64) dX2_lawSays_53 rfl (by decide) (by decide) ?_
            refine S_icmp_ge (tgt := 65) dX2_lawSays_55 (by decide) rfl (fun _ => ?_) (fun _ => ?_)
            · refine S_iconst (a := 0) dX2_lawSays_65 rfl (by decide) ?_
              exact S_iret dX2_lawSays_66
            · refine S_iload 0 dX2_lawSays_58 rfl rfl ?_
              refine S_bipush (a := 7) dX2_lawSays_60 rfl (by decide) (by decide) ?_
              refine S_icmp_lt (tgt := 67) dX2_lawSays_62 (by decide) rfl (fun _ => ?_) (fun _ => ?_)
              · refine S_aload_n 2 dX2_lawSays_67 rfl rfl rfl ?_
                refine S_getr (j := 15) (o := 11) 3 qC_2 (by decide) (by decide) qk_4 rfl rfl (by decide) tw_242 dX2_lawSays_68 rfl ?_
                refine S_iload_n 4 dX2_lawSays_71 rfl rfl rfl ?_
                refine S_iload 0 dX2_lawSays_72 rfl rfl ?_
                refine S_if_ge (tgt := 82) dX2_lawSays_74 (by decide) rfl (fun _ => ?_) (fun _ => ?_)
                · refine S_aload_n 2 dX2_lawSays_82 rfl rfl rfl ?_
                  refine S_getr (j := 14) (o := 10) 2 qC_2 (by decide) (by decide) qk_4 rfl rfl (by decide) tw_241 dX2_lawSays_83 rfl ?_
                  refine S_iload 0 dX2_lawSays_86 rfl rfl ?_
                  refine S_iald (N := 7) qk_14 rfl dX2_lawSays_88 rfl (fun g29 g30 => ?_)
                  refine S_iast (N := 64) qk_15 rfl dX2_lawSays_89 rfl (fun _ _ => ?_)
                  refine S_lh (fun h31 => ?_)
                  refine S_iinc (lv' := [(3, qi (qw (a3 + 1))), (6, qi v28), (5, qi v27), (0, qr 4), (2, qi a2), (4, qi a4)]) 4 dX2_lawSays_90 rfl (by decide) rfl rfl ?_
                  refine S_li (fun v32 => ?_)
                  refine S_goto (pc' := 361) dX2_lawSays_93 (by decide) ?_
                  refine S_iinc (lv' := [(4, qi (qw (a4 + 1))), (3, qi v32), (6, qi v28), (5, qi v27), (0, qr 4), (2, qi a2)]) 5 dX2_lawSays_361 rfl (by decide) rfl rfl ?_
                  refine S_goto (pc' := 5) dX2_lawSays_364 (by decide) ?_
                  refine S_sub [4, 5, 1, 0] rfl ?_
                  exact ih a2 v32 (qw (a4 + 1)) h31
                · refine S_iload 1 dX2_lawSays_77 rfl rfl ?_
                  refine S_goto (pc' := 89) dX2_lawSays_79 (by decide) ?_
                  refine S_iast (N := 64) qk_15 rfl dX2_lawSays_89 rfl (fun _ _ => ?_)
                  refine S_lh (fun h33 => ?_)
                  refine S_iinc (lv' := [(3, qi (qw (a3 + 1))), (6, qi v28), (5, qi v27), (0, qr 4), (2, qi a2), (4, qi a4)]) 4 dX2_lawSays_90 rfl (by decide) rfl rfl ?_
                  refine S_li (fun v34 => ?_)
                  refine S_goto (pc' := 361) dX2_lawSays_93 (by decide) ?_
                  refine S_iinc (lv' := [(4, qi (qw (a4 + 1))), (3, qi v34), (6, qi v28), (5, qi v27), (0, qr 4), (2, qi a2)]) 5 dX2_lawSays_361 rfl (by decide) rfl rfl ?_
                  refine S_goto (pc' := 5) dX2_lawSays_364 (by decide) ?_
                  refine S_sub [4, 5, 1, 0] rfl ?_
                  exact ih a2 v34 (qw (a4 + 1)) h33
              · refine S_iconst (a := 0) dX2_lawSays_65 rfl (by decide) ?_
                exact S_iret dX2_lawSays_66
def DX2_lawSays (a1 : Int) (a2 : Int) (h : qH) : Option (Int × qH) := (DX2_lawSays_l5 LF a2 0 a1 h)
set_option maxRecDepth 100000 in
theorem TX2_lawSays {L : Nat} {xs : Nat → Int32} (a1 : Int) (a2 : Int) (h : qH) : qMet L xs yX2_lawSays cX2_lawSays 13 (some .int) 1 2 [qr 4, qi a1, qi a2] h (DX2_lawSays a1 a2 h) := by
  refine qMet.of (by decide +kernel) (Or.inr (Or.inl ⟨rfl, rfl⟩)) (Nat.le_of_ble_eq_true rfl) ?_
  show qS L xs cX2_lawSays "BottlePost$Drift" 13 2 1 0 [(0, qr 4), (1, qi a1), (2, qi a2)] [] h (DX2_lawSays a1 a2 h)
  unfold DX2_lawSays
  refine S_iconst (a := 0) dX2_lawSays_0 rfl (by decide) ?_
  refine S_istore_n (lv' := [(3, qi 0), (0, qr 4), (1, qi a1), (2, qi a2)]) dX2_lawSays_1 rfl (by decide) rfl rfl ?_
  refine S_iload_n 2 dX2_lawSays_2 rfl rfl rfl ?_
  refine S_istore (lv' := [(4, qi a1), (3, qi 0), (0, qr 4), (1, qi a1), (2, qi a2)]) dX2_lawSays_3 (by decide) rfl rfl ?_
  refine S_sub [2, 4, 1, 0] rfl ?_
  exact TX2_lawSays_l5 LF a2 0 a1 h
def DX2_keepsIt_b83 (a3 : Int) (b0 : Int) (b1 : Int) (h : qH) : Option (Int × qH) := (if 0 ≤ b1 ∧ b1 < 7 then qlt (qu h 14 b1.toNat b0) fun h1 => (qlt (qu h1 14 6 a3) fun h2 => (qbd (DX2_lawSays (h2.1 5 9) (h2.1 5 10) h2) fun r3 h4 => (if r3 = 0 then some (0, h4) else some (1, h4)))) else none)
set_option maxRecDepth 100000 in
theorem TX2_keepsIt_b83 {L : Nat} {xs : Nat → Int32} (a3 : Int) (b0 : Int) (b1 : Int) (h : qH) : qS L xs cX2_keepsIt "BottlePost$Drift" 4 3 4 83 [(0, qr 4), (3, qi a3)] [qi b0, qi b1, qr 14] h (DX2_keepsIt_b83 a3 b0 b1 h) := by
  unfold DX2_keepsIt_b83
  refine S_iast (N := 7) qk_14 rfl dX2_keepsIt_83 rfl (fun _ _ => ?_)
  refine S_lh (fun h1 => ?_)
  refine S_aload_n 0 dX2_keepsIt_84 rfl rfl rfl ?_
  refine S_getr (j := 14) (o := 10) 2 qC_2 (by decide) (by decide) qk_4 rfl rfl (by decide) tw_241 dX2_keepsIt_85 rfl ?_
  refine S_bipush (a := 6) dX2_keepsIt_88 rfl (by decide) (by decide) ?_
  refine S_iload_n 1 dX2_keepsIt_90 rfl rfl rfl ?_
  refine S_pick_t ((0 : Int) ≤ 6 ∧ (6 : Int) < 7) (by decide) ?_
  refine S_iast (N := 7) qk_14 rfl dX2_keepsIt_91 rfl (fun _ _ => ?_)
  refine S_lh (fun h2 => ?_)
  refine S_aload_n 0 dX2_keepsIt_92 rfl rfl rfl ?_
  refine S_aload_n 0 dX2_keepsIt_93 rfl rfl rfl ?_
  refine S_getr (j := 5) (o := 1) 0 qC_2 (by decide) (by decide) qk_4 rfl rfl (by decide) tw_236 dX2_keepsIt_94 rfl ?_
  refine S_geti 9 qC_1 (by decide) (by decide) qk_5 tw_68 dX2_keepsIt_97 rfl ?_
  refine S_aload_n 0 dX2_keepsIt_100 rfl rfl rfl ?_
  refine S_getr (j := 5) (o := 1) 0 qC_2 (by decide) (by decide) qk_4 rfl rfl (by decide) tw_236 dX2_keepsIt_101 rfl ?_
  refine S_geti 10 qC_1 (by decide) (by decide) qk_5 tw_71 dX2_keepsIt_104 rfl ?_
  refine S_callV_i (as := [qi (h2.1 5 9), qi (h2.1 5 10)]) (st := []) (fun _ => rfl) (TX2_lawSays (h2.1 5 9) (h2.1 5 10) h2) yv_X2_lawSays tw_803 qC_2 qk_4 (by decide) rfl rfl (Nat.le_of_ble_eq_true rfl) dX2_keepsIt_107 rfl (fun r3 h4 e5 => ?_)
  refine S_if_eq (tgt := 117) dX2_keepsIt_110 (by decide) rfl (fun _ => ?_) (fun _ => ?_)
  · refine S_iconst (a := 0) dX2_keepsIt_117 rfl (by decide) ?_
    exact S_zretl (by decide) dX2_keepsIt_118
  · refine S_iconst (a := 1) dX2_keepsIt_113 rfl (by decide) ?_
    refine S_goto (pc' := 118) dX2_keepsIt_114 (by decide) ?_
    exact S_zretl (by decide) dX2_keepsIt_118
def DX2_keepsIt (i1 : Nat) (a2 : Int) (a3 : Int) (h : qH) : Option (Int × qH) := (if h.1 5 9 < h.1 5 10 then (qlt (qu h 14 0 (h.1 i1 2)) fun h6 => (qlt (qu h6 14 1 (h6.1 i1 3)) fun h7 => (qlt (qu h7 14 2 a2) fun h8 => (qlt (qu h8 14 3 (h8.1 i1 5)) fun h9 => (qlt (qu h9 14 4 (h9.1 i1 6)) fun h10 => (if h10.1 i1 4 = 0 then (DX2_keepsIt_b83 a3 0 5 h10) else (DX2_keepsIt_b83 a3 1 5 h10))))))) else some (0, h))
set_option maxRecDepth 100000 in
theorem TX2_keepsIt {L : Nat} {xs : Nat → Int32} (i1 : Nat) (a2 : Int) (a3 : Int) (t1 : qK i1 = (0, 8)) (h : qH) : qMet L xs yX2_keepsIt cX2_keepsIt 4 (some .boolean) 4 3 [qr 4, qr i1, qi a2, qi a3] h (DX2_keepsIt i1 a2 a3 h) := by
  refine qMet.of (by decide +kernel) (Or.inr (Or.inr (Or.inr (Or.inr (Or.inl ⟨rfl, rfl⟩))))) (Nat.le_of_ble_eq_true rfl) ?_
  show qS L xs cX2_keepsIt "BottlePost$Drift" 4 3 4 0 [(0, qr 4), (1, qr i1), (2, qi a2), (3, qi a3)] [] h (DX2_keepsIt i1 a2 a3 h)
  unfold DX2_keepsIt
  refine S_aload_n 0 dX2_keepsIt_0 rfl rfl rfl ?_
  refine S_getr (j := 5) (o := 1) 0 qC_2 (by decide) (by decide) qk_4 rfl rfl (by decide) tw_236 dX2_keepsIt_1 rfl ?_
  refine S_geti 9 qC_1 (by decide) (by decide) qk_5 tw_68 dX2_keepsIt_4 rfl ?_
  refine S_aload_n 0 dX2_keepsIt_7 rfl rfl rfl ?_
  refine S_getr (j := 5) (o := 1) 0 qC_2 (by decide) (by decide) qk_4 rfl rfl (by decide) tw_236 dX2_keepsIt_8 rfl ?_
  refine S_geti 10 qC_1 (by decide) (by decide) qk_5 tw_71 dX2_keepsIt_11 rfl ?_
  refine S_icmp_lt (tgt := 19) dX2_keepsIt_14 (by decide) rfl (fun _ => ?_) (fun _ => ?_)
  · refine S_aload_n 0 dX2_keepsIt_19 rfl rfl rfl ?_
    refine S_getr (j := 14) (o := 10) 2 qC_2 (by decide) (by decide) qk_4 rfl rfl (by decide) tw_241 dX2_keepsIt_20 rfl ?_
    refine S_iconst (a := 0) dX2_keepsIt_23 rfl (by decide) ?_
    refine S_aload_n 1 dX2_keepsIt_24 rfl rfl rfl ?_
    refine S_geti 2 qC_0 (by decide) (by decide) t1 tw_201 dX2_keepsIt_25 rfl ?_
    refine S_pick_t ((0 : Int) ≤ 0 ∧ (0 : Int) < 7) (by decide) ?_
    refine S_iast (N := 7) qk_14 rfl dX2_keepsIt_28 rfl (fun _ _ => ?_)
    refine S_lh (fun h6 => ?_)
    refine S_aload_n 0 dX2_keepsIt_29 rfl rfl rfl ?_
    refine S_getr (j := 14) (o := 10) 2 qC_2 (by decide) (by decide) qk_4 rfl rfl (by decide) tw_241 dX2_keepsIt_30 rfl ?_
    refine S_iconst (a := 1) dX2_keepsIt_33 rfl (by decide) ?_
    refine S_aload_n 1 dX2_keepsIt_34 rfl rfl rfl ?_
    refine S_geti 3 qC_0 (by decide) (by decide) t1 tw_204 dX2_keepsIt_35 rfl ?_
    refine S_pick_t ((0 : Int) ≤ 1 ∧ (1 : Int) < 7) (by decide) ?_
    refine S_iast (N := 7) qk_14 rfl dX2_keepsIt_38 rfl (fun _ _ => ?_)
    refine S_lh (fun h7 => ?_)
    refine S_aload_n 0 dX2_keepsIt_39 rfl rfl rfl ?_
    refine S_getr (j := 14) (o := 10) 2 qC_2 (by decide) (by decide) qk_4 rfl rfl (by decide) tw_241 dX2_keepsIt_40 rfl ?_
    refine S_iconst (a := 2) dX2_keepsIt_43 rfl (by decide) ?_
    refine S_iload_n 2 dX2_keepsIt_44 rfl rfl rfl ?_
    refine S_pick_t ((0 : Int) ≤ 2 ∧ (2 : Int) < 7) (by decide) ?_
    refine S_iast (N := 7) qk_14 rfl dX2_keepsIt_45 rfl (fun _ _ => ?_)
    refine S_lh (fun h8 => ?_)
    refine S_aload_n 0 dX2_keepsIt_46 rfl rfl rfl ?_
    refine S_getr (j := 14) (o := 10) 2 qC_2 (by decide) (by decide) qk_4 rfl rfl (by decide) tw_241 dX2_keepsIt_47 rfl ?_
    refine S_iconst (a := 3) dX2_keepsIt_50 rfl (by decide) ?_
    refine S_aload_n 1 dX2_keepsIt_51 rfl rfl rfl ?_
    refine S_geti 5 qC_0 (by decide) (by decide) t1 tw_210 dX2_keepsIt_52 rfl ?_
    refine S_pick_t ((0 : Int) ≤ 3 ∧ (3 : Int) < 7) (by decide) ?_
    refine S_iast (N := 7) qk_14 rfl dX2_keepsIt_55 rfl (fun _ _ => ?_)
    refine S_lh (fun h9 => ?_)
    refine S_aload_n 0 dX2_keepsIt_56 rfl rfl rfl ?_
    refine S_getr (j := 14) (o := 10) 2 qC_2 (by decide) (by decide) qk_4 rfl rfl (by decide) tw_241 dX2_keepsIt_57 rfl ?_
    refine S_iconst (a := 4) dX2_keepsIt_60 rfl (by decide) ?_
    refine S_aload_n 1 dX2_keepsIt_61 rfl rfl rfl ?_
    refine S_geti 6 qC_0 (by decide) (by decide) t1 tw_213 dX2_keepsIt_62 rfl ?_
    refine S_pick_t ((0 : Int) ≤ 4 ∧ (4 : Int) < 7) (by decide) ?_
    refine S_iast (N := 7) qk_14 rfl dX2_keepsIt_65 rfl (fun _ _ => ?_)
    refine S_lh (fun h10 => ?_)
    refine S_aload_n 0 dX2_keepsIt_66 rfl rfl rfl ?_
    refine S_getr (j := 14) (o := 10) 2 qC_2 (by decide) (by decide) qk_4 rfl rfl (by decide) tw_241 dX2_keepsIt_67 rfl ?_
    refine S_iconst (a := 5) dX2_keepsIt_70 rfl (by decide) ?_
    refine S_aload_n 1 dX2_keepsIt_71 rfl rfl rfl ?_
    refine S_geti 4 qC_0 (by decide) (by decide) t1 tw_207 dX2_keepsIt_72 rfl ?_
    refine S_if_eq (tgt := 82) dX2_keepsIt_75 (by decide) rfl (fun _ => ?_) (fun _ => ?_)
    · refine S_iconst (a := 0) dX2_keepsIt_82 rfl (by decide) ?_
      refine S_sub [0, 3] rfl ?_
      exact TX2_keepsIt_b83 a3 0 5 h10
    · refine S_iconst (a := 1) dX2_keepsIt_78 rfl (by decide) ?_
      refine S_goto (pc' := 83) dX2_keepsIt_79 (by decide) ?_
      refine S_sub [0, 3] rfl ?_
      exact TX2_keepsIt_b83 a3 1 5 h10
  · refine S_iconst (a := 0) dX2_keepsIt_17 rfl (by decide) ?_
    exact S_zretl (by decide) dX2_keepsIt_18
def DX2_find_b33 (i1 : Nat) (a2 : Int) (b0 : Int) (h : qH) : Option (Int × qH) := (qbd (DX1_phaseOf 5 a2 h) fun r1 h2 => (qbd (DX1_isShore 5 b0 h2) fun r4 h5 => (if r4 = 0 then some (0, h5) else (if b0 = h5.1 4 6 then some (0, h5) else (if 0 ≤ b0 ∧ b0 < 6 then (if ¬ qand (qshr (h5.1 11 b0.toNat) r1) 1 = 0 then (if h5.1 i1 3 = (-1) then (qlt (qu h5 i1 0 2) fun h9 => (qlt (qu h9 i1 7 b0) fun h10 => some (0, h10))) else (if h5.1 i1 3 = b0 then (qlt (qu h5 i1 0 2) fun h11 => (qlt (qu h11 i1 7 b0) fun h12 => some (0, h12))) else (qbd (DX2_keepsIt i1 b0 r1 h5) fun r13 h14 => (if r13 = 0 then (qlt (qu h14 i1 6 (qw (h14.1 i1 6 + 1))) fun h16 => (qbd (DX1_throwCell 5 b0 h16) fun r17 h18 => (if r17 = (-1) then some (0, h18) else (qlt (qu h18 i1 0 0) fun h20 => (qlt (qu h20 i1 1 r17) fun h21 => some (0, h21)))))) else (qlt (qu h14 i1 0 2) fun h22 => (qlt (qu h22 i1 7 b0) fun h23 => some (0, h23))))))) else some (0, h5)) else none)))))
set_option maxRecDepth 100000 in
theorem TX2_find_b33 {L : Nat} {xs : Nat → Int32} (i1 : Nat) (a2 : Int) (b0 : Int) (t1 : qK i1 = (0, 8)) (h : qH) : qS L xs cX2_find "BottlePost$Drift" 6 4 0 33 [(0, qr 4), (1, qr i1), (2, qi a2)] [qi b0] h (DX2_find_b33 i1 a2 b0 h) := by
  unfold DX2_find_b33
  refine S_istore_n (lv' := [(3, qi b0), (0, qr 4), (1, qr i1), (2, qi a2)]) dX2_find_33 rfl (by decide) rfl rfl ?_
  refine S_aload_n 1 dX2_find_34 rfl rfl rfl ?_
  refine S_getr (j := 5) (o := 1) 0 qC_2 (by decide) (by decide) qk_4 rfl rfl (by decide) tw_236 dX2_find_35 rfl ?_
  refine S_iload_n 3 dX2_find_38 rfl rfl rfl ?_
  refine S_callV_i (as := [qi a2]) (st := []) (fun _ => rfl) (TX1_phaseOf 5 a2 qk_5 h) yv_X1_phaseOf tw_795 qC_1 qk_5 (by decide) rfl rfl (Nat.le_of_ble_eq_true rfl) dX2_find_39 rfl (fun r1 h2 e3 => ?_)
  refine S_istore (lv' := [(4, qi r1), (3, qi b0), (0, qr 4), (1, qr i1), (2, qi a2)]) dX2_find_42 (by decide) rfl rfl ?_
  refine S_aload_n 2 dX2_find_44 rfl rfl rfl ?_
  refine S_getr (j := 5) (o := 1) 0 qC_2 (by decide) (by decide) qk_4 rfl rfl (by decide) tw_236 dX2_find_45 rfl ?_
  refine S_iload_n 1 dX2_find_48 rfl rfl rfl ?_
  refine S_callV_i (as := [qi b0]) (st := []) (fun _ => rfl) (TX1_isShore 5 b0 qk_5 h2) yv_X1_isShore tw_900 qC_1 qk_5 (by decide) rfl rfl (Nat.le_of_ble_eq_true rfl) dX2_find_49 rfl (fun r4 h5 e6 => ?_)
  refine S_if_eq (tgt := 80) dX2_find_52 (by decide) rfl (fun _ => ?_) (fun _ => ?_)
  · exact S_vret dX2_find_80
  · refine S_iload_n 1 dX2_find_55 rfl rfl rfl ?_
    refine S_aload_n 2 dX2_find_56 rfl rfl rfl ?_
    refine S_geti 6 qC_2 (by decide) (by decide) qk_4 tw_245 dX2_find_57 rfl ?_
    refine S_icmp_eq (tgt := 80) dX2_find_60 (by decide) rfl (fun _ => ?_) (fun _ => ?_)
    · exact S_vret dX2_find_80
    · refine S_aload_n 2 dX2_find_63 rfl rfl rfl ?_
      refine S_getr (j := 5) (o := 1) 0 qC_2 (by decide) (by decide) qk_4 rfl rfl (by decide) tw_236 dX2_find_64 rfl ?_
      refine S_getr (j := 11) (o := 6) 5 qC_1 (by decide) (by decide) qk_5 rfl rfl (by decide) tw_55 dX2_find_67 rfl ?_
      refine S_iload_n 1 dX2_find_70 rfl rfl rfl ?_
      refine S_iald (N := 6) qk_11 rfl dX2_find_71 rfl (fun g7 g8 => ?_)
      refine S_iload 0 dX2_find_72 rfl rfl ?_
      refine S_ishr dX2_find_74 rfl ?_
      refine S_iconst (a := 1) dX2_find_75 rfl (by decide) ?_
      refine S_iand dX2_find_76 rfl ?_
      refine S_if_ne (tgt := 81) dX2_find_77 (by decide) rfl (fun _ => ?_) (fun _ => ?_)
      · refine S_aload_n 3 dX2_find_81 rfl rfl rfl ?_
        refine S_geti 3 qC_0 (by decide) (by decide) t1 tw_204 dX2_find_82 rfl ?_
        refine S_iconst (a := (-1)) dX2_find_85 rfl (by decide) ?_
        refine S_icmp_eq (tgt := 108) dX2_find_86 (by decide) rfl (fun _ => ?_) (fun _ => ?_)
        · refine S_aload_n 3 dX2_find_108 rfl rfl rfl ?_
          refine S_iconst (a := 2) dX2_find_109 rfl (by decide) ?_
          refine S_puti 0 qC_0 (by decide) (by decide) rfl rfl t1 (by decide) tw_193 dX2_find_110 rfl ?_
          refine S_lh (fun h9 => ?_)
          refine S_aload_n 3 dX2_find_113 rfl rfl rfl ?_
          refine S_iload_n 1 dX2_find_114 rfl rfl rfl ?_
          refine S_puti 7 qC_0 (by decide) (by decide) rfl rfl t1 (by decide) tw_217 dX2_find_115 rfl ?_
          refine S_lh (fun h10 => ?_)
          exact S_vret dX2_find_118
        · refine S_aload_n 3 dX2_find_89 rfl rfl rfl ?_
          refine S_geti 3 qC_0 (by decide) (by decide) t1 tw_204 dX2_find_90 rfl ?_
          refine S_iload_n 1 dX2_find_93 rfl rfl rfl ?_
          refine S_icmp_eq (tgt := 108) dX2_find_94 (by decide) rfl (fun _ => ?_) (fun _ => ?_)
          · refine S_aload_n 3 dX2_find_108 rfl rfl rfl ?_
            refine S_iconst (a := 2) dX2_find_109 rfl (by decide) ?_
            refine S_puti 0 qC_0 (by decide) (by decide) rfl rfl t1 (by decide) tw_193 dX2_find_110 rfl ?_
            refine S_lh (fun h11 => ?_)
            refine S_aload_n 3 dX2_find_113 rfl rfl rfl ?_
            refine S_iload_n 1 dX2_find_114 rfl rfl rfl ?_
            refine S_puti 7 qC_0 (by decide) (by decide) rfl rfl t1 (by decide) tw_217 dX2_find_115 rfl ?_
            refine S_lh (fun h12 => ?_)
            exact S_vret dX2_find_118
          · refine S_aload_n 2 dX2_find_97 rfl rfl rfl ?_
            refine S_aload_n 3 dX2_find_98 rfl rfl rfl ?_
            refine S_iload_n 1 dX2_find_99 rfl rfl rfl ?_
            refine S_iload 0 dX2_find_100 rfl rfl ?_
            refine S_callV_i (as := [qr i1, qi b0, qi r1]) (st := []) (fun _ => rfl) (TX2_keepsIt i1 b0 r1 t1 h5) yv_X2_keepsIt tw_901 qC_2 qk_4 (by decide) rfl rfl (Nat.le_of_ble_eq_true rfl) dX2_find_102 rfl (fun r13 h14 e15 => ?_)
            refine S_if_eq (tgt := 119) dX2_find_105 (by decide) rfl (fun _ => ?_) (fun _ => ?_)
            · refine S_aload_n 3 dX2_find_119 rfl rfl rfl ?_
              refine S_dup dX2_find_120 rfl rfl ?_
              refine S_geti 6 qC_0 (by decide) (by decide) t1 tw_213 dX2_find_121 rfl ?_
              refine S_iconst (a := 1) dX2_find_124 rfl (by decide) ?_
              refine S_iadd dX2_find_125 rfl ?_
              refine S_puti 6 qC_0 (by decide) (by decide) rfl rfl t1 (by decide) tw_213 dX2_find_126 rfl ?_
              refine S_lh (fun h16 => ?_)
              refine S_aload_n 2 dX2_find_129 rfl rfl rfl ?_
              refine S_getr (j := 5) (o := 1) 0 qC_2 (by decide) (by decide) qk_4 rfl rfl (by decide) tw_236 dX2_find_130 rfl ?_
              refine S_iload_n 1 dX2_find_133 rfl rfl rfl ?_
              refine S_callV_i (as := [qi b0]) (st := []) (fun _ => rfl) (TX1_throwCell 5 b0 qk_5 h16) yv_X1_throwCell tw_905 qC_1 qk_5 (by decide) rfl rfl (Nat.le_of_ble_eq_true rfl) dX2_find_134 rfl (fun r17 h18 e19 => ?_)
              refine S_istore (lv' := [(5, qi r17), (4, qi r1), (3, qi b0), (0, qr 4), (1, qr i1), (2, qi a2)]) dX2_find_137 (by decide) rfl rfl ?_
              refine S_iload 0 dX2_find_139 rfl rfl ?_
              refine S_iconst (a := (-1)) dX2_find_141 rfl (by decide) ?_
              refine S_icmp_eq (tgt := 156) dX2_find_142 (by decide) rfl (fun _ => ?_) (fun _ => ?_)
              · exact S_vret dX2_find_156
              · refine S_aload_n 4 dX2_find_145 rfl rfl rfl ?_
                refine S_iconst (a := 0) dX2_find_146 rfl (by decide) ?_
                refine S_puti 0 qC_0 (by decide) (by decide) rfl rfl t1 (by decide) tw_193 dX2_find_147 rfl ?_
                refine S_lh (fun h20 => ?_)
                refine S_aload_n 4 dX2_find_150 rfl rfl rfl ?_
                refine S_iload 0 dX2_find_151 rfl rfl ?_
                refine S_puti 1 qC_0 (by decide) (by decide) rfl rfl t1 (by decide) tw_197 dX2_find_153 rfl ?_
                refine S_lh (fun h21 => ?_)
                exact S_vret dX2_find_156
            · refine S_aload_n 3 dX2_find_108 rfl rfl rfl ?_
              refine S_iconst (a := 2) dX2_find_109 rfl (by decide) ?_
              refine S_puti 0 qC_0 (by decide) (by decide) rfl rfl t1 (by decide) tw_193 dX2_find_110 rfl ?_
              refine S_lh (fun h22 => ?_)
              refine S_aload_n 3 dX2_find_113 rfl rfl rfl ?_
              refine S_iload_n 1 dX2_find_114 rfl rfl rfl ?_
              refine S_puti 7 qC_0 (by decide) (by decide) rfl rfl t1 (by decide) tw_217 dX2_find_115 rfl ?_
              refine S_lh (fun h23 => ?_)
              exact S_vret dX2_find_118
      · exact S_vret dX2_find_80
def DX2_find (i1 : Nat) (a2 : Int) (h : qH) : Option (Int × qH) := (qbd (DX1_isCell 5 (h.1 i1 1) h) fun r24 h25 => (if r24 = 0 then (DX2_find_b33 i1 a2 (-1) h25) else (if 0 ≤ h25.1 i1 1 ∧ h25.1 i1 1 < 36 then (DX2_find_b33 i1 a2 (qw (h25.1 6 (h25.1 i1 1).toNat - 10)) h25) else none)))
set_option maxRecDepth 100000 in
theorem TX2_find {L : Nat} {xs : Nat → Int32} (i1 : Nat) (a2 : Int) (t1 : qK i1 = (0, 8)) (h : qH) : qMet L xs yX2_find cX2_find 6 (none) 0 4 [qr 4, qr i1, qi a2] h (DX2_find i1 a2 h) := by
  refine qMet.of (by decide +kernel) (Or.inl ⟨rfl, rfl⟩) (Nat.le_of_ble_eq_true rfl) ?_
  show qS L xs cX2_find "BottlePost$Drift" 6 4 0 0 [(0, qr 4), (1, qr i1), (2, qi a2)] [] h (DX2_find i1 a2 h)
  unfold DX2_find
  refine S_aload_n 0 dX2_find_0 rfl rfl rfl ?_
  refine S_getr (j := 5) (o := 1) 0 qC_2 (by decide) (by decide) qk_4 rfl rfl (by decide) tw_236 dX2_find_1 rfl ?_
  refine S_aload_n 1 dX2_find_4 rfl rfl rfl ?_
  refine S_geti 1 qC_0 (by decide) (by decide) t1 tw_197 dX2_find_5 rfl ?_
  refine S_callV_i (as := [qi (h.1 i1 1)]) (st := []) (fun _ => rfl) (TX1_isCell 5 (h.1 i1 1) qk_5 h) yv_X1_isCell tw_794 qC_1 qk_5 (by decide) rfl rfl (Nat.le_of_ble_eq_true rfl) dX2_find_8 rfl (fun r24 h25 e26 => ?_)
  refine S_if_eq (tgt := 32) dX2_find_11 (by decide) rfl (fun _ => ?_) (fun _ => ?_)
  · refine S_iconst (a := (-1)) dX2_find_32 rfl (by decide) ?_
    exact TX2_find_b33 i1 a2 (-1) t1 h25
  · refine S_aload_n 0 dX2_find_14 rfl rfl rfl ?_
    refine S_getr (j := 5) (o := 1) 0 qC_2 (by decide) (by decide) qk_4 rfl rfl (by decide) tw_236 dX2_find_15 rfl ?_
    refine S_getr (j := 6) (o := 1) 0 qC_1 (by decide) (by decide) qk_5 rfl rfl (by decide) tw_43 dX2_find_18 rfl ?_
    refine S_aload_n 1 dX2_find_21 rfl rfl rfl ?_
    refine S_geti 1 qC_0 (by decide) (by decide) t1 tw_197 dX2_find_22 rfl ?_
    refine S_iald (N := 36) qk_6 rfl dX2_find_25 rfl (fun g27 g28 => ?_)
    refine S_bipush (a := 10) dX2_find_26 rfl (by decide) (by decide) ?_
    refine S_isub dX2_find_28 rfl ?_
    refine S_goto (pc' := 33) dX2_find_29 (by decide) ?_
    exact TX2_find_b33 i1 a2 (qw (h25.1 6 (h25.1 i1 1).toNat - 10)) t1 h25
def DX1_currentAt_b23 (i0 : Nat) (a1 : Int) (a2 : Int) (b0 : Int) (h : qH) : Option (Int × qH) := (if b0 = 0 then some (0, h) else (if 0 ≤ qw (qw (a1 * 6) + a2) ∧ qw (qw (a1 * 6) + a2) < 216 then some (h.1 (i0 + 2) (qw (qw (a1 * 6) + a2)).toNat, h) else none))
set_option maxRecDepth 100000 in
theorem TX1_currentAt_b23 {L : Nat} {xs : Nat → Int32} (i0 : Nat) (a1 : Int) (a2 : Int) (b0 : Int) (t0 : qK i0 = (1, 20)) (h : qH) : qS L xs cX1_currentAt "BottlePost$Chart" 4 2 1 23 [(0, qr i0), (1, qi a1), (2, qi a2)] [qi b0] h (DX1_currentAt_b23 i0 a1 a2 b0 h) := by
  unfold DX1_currentAt_b23
  refine S_istore_n (lv' := [(3, qi b0), (0, qr i0), (1, qi a1), (2, qi a2)]) dX1_currentAt_23 rfl (by decide) rfl rfl ?_
  refine S_iload_n 0 dX1_currentAt_24 rfl rfl rfl ?_
  refine S_if_eq (tgt := 42) dX1_currentAt_25 (by decide) rfl (fun _ => ?_) (fun _ => ?_)
  · refine S_iconst (a := 0) dX1_currentAt_42 rfl (by decide) ?_
    exact S_iret dX1_currentAt_43
  · refine S_aload_n 1 dX1_currentAt_28 rfl rfl rfl ?_
    refine S_getr (j := (i0 + 2)) (o := 2) 1 qC_1 (by decide) (by decide) t0 rfl rfl (qf_1_1 t0).2 tw_45 dX1_currentAt_29 rfl ?_
    refine S_iload_n 2 dX1_currentAt_32 rfl rfl rfl ?_
    refine S_bipush (a := 6) dX1_currentAt_33 rfl (by decide) (by decide) ?_
    refine S_imul dX1_currentAt_35 rfl ?_
    refine S_iload_n 3 dX1_currentAt_36 rfl rfl rfl ?_
    refine S_iadd dX1_currentAt_37 rfl ?_
    refine S_iald (N := 216) (qf_1_1 t0).1 rfl dX1_currentAt_38 rfl (fun g1 g2 => ?_)
    refine S_goto (pc' := 43) dX1_currentAt_39 (by decide) ?_
    exact S_iret dX1_currentAt_43
def DX1_currentAt (i0 : Nat) (a1 : Int) (a2 : Int) (h : qH) : Option (Int × qH) := (qbd (DX1_isCell i0 a1 h) fun r3 h4 => (if r3 = 0 then (DX1_currentAt_b23 i0 a1 a2 0 h4) else (if a2 < 0 then (DX1_currentAt_b23 i0 a1 a2 0 h4) else (if 6 ≤ a2 then (DX1_currentAt_b23 i0 a1 a2 0 h4) else (DX1_currentAt_b23 i0 a1 a2 1 h4)))))
set_option maxRecDepth 100000 in
theorem TX1_currentAt {L : Nat} {xs : Nat → Int32} (i0 : Nat) (a1 : Int) (a2 : Int) (t0 : qK i0 = (1, 20)) (h : qH) : qMet L xs yX1_currentAt cX1_currentAt 4 (some .int) 1 2 [qr i0, qi a1, qi a2] h (DX1_currentAt i0 a1 a2 h) := by
  refine qMet.of (by decide +kernel) (Or.inr (Or.inl ⟨rfl, rfl⟩)) (Nat.le_of_ble_eq_true rfl) ?_
  show qS L xs cX1_currentAt "BottlePost$Chart" 4 2 1 0 [(0, qr i0), (1, qi a1), (2, qi a2)] [] h (DX1_currentAt i0 a1 a2 h)
  unfold DX1_currentAt
  refine S_aload_n 0 dX1_currentAt_0 rfl rfl rfl ?_
  refine S_iload_n 1 dX1_currentAt_1 rfl rfl rfl ?_
  refine S_callV_i (as := [qi a1]) (st := []) (fun _ => rfl) (TX1_isCell i0 a1 t0 h) yv_X1_isCell tw_785 qC_1 t0 (by decide) rfl rfl (Nat.le_of_ble_eq_true rfl) dX1_currentAt_2 rfl (fun r3 h4 e5 => ?_)
  refine S_if_eq (tgt := 22) dX1_currentAt_5 (by decide) rfl (fun _ => ?_) (fun _ => ?_)
  · refine S_iconst (a := 0) dX1_currentAt_22 rfl (by decide) ?_
    exact TX1_currentAt_b23 i0 a1 a2 0 t0 h4
  · refine S_iload_n 2 dX1_currentAt_8 rfl rfl rfl ?_
    refine S_if_lt (tgt := 22) dX1_currentAt_9 (by decide) rfl (fun _ => ?_) (fun _ => ?_)
    · refine S_iconst (a := 0) dX1_currentAt_22 rfl (by decide) ?_
      exact TX1_currentAt_b23 i0 a1 a2 0 t0 h4
    · refine S_iload_n 2 dX1_currentAt_12 rfl rfl rfl ?_
      refine S_bipush (a := 6) dX1_currentAt_13 rfl (by decide) (by decide) ?_
      refine S_icmp_ge (tgt := 22) dX1_currentAt_15 (by decide) rfl (fun _ => ?_) (fun _ => ?_)
      · refine S_iconst (a := 0) dX1_currentAt_22 rfl (by decide) ?_
        exact TX1_currentAt_b23 i0 a1 a2 0 t0 h4
      · refine S_iconst (a := 1) dX1_currentAt_18 rfl (by decide) ?_
        refine S_goto (pc' := 23) dX1_currentAt_19 (by decide) ?_
        exact TX1_currentAt_b23 i0 a1 a2 1 t0 h4
