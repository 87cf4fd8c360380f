def DX9_toldTo (a0 : Int) (h : qH) : Option (Int × qH) := (qlt (qrem (qdiv a0 10) 10) fun v1 => (if ¬ v1 = 9 then some (v1, h) else some ((-1), h)))
set_option maxRecDepth 100000 in
theorem TX9_toldTo {L : Nat} {xs : Nat → Int32} (a0 : Int) (h : qH) : qMet L xs yX9_toldTo cX9_toldTo 2 (some .int) 1 1 [qi a0] h (DX9_toldTo a0 h) := by
  refine qMet.of (by decide +kernel) (Or.inr (Or.inl ⟨rfl, rfl⟩)) (Nat.le_of_ble_eq_true rfl) ?_
  show qS L xs cX9_toldTo "BottlePost" 2 1 1 0 [(0, qi a0)] [] h (DX9_toldTo a0 h)
  unfold DX9_toldTo
  refine S_iload_n 0 dX9_toldTo_0 rfl rfl rfl ?_
  refine S_bipush (a := 10) dX9_toldTo_1 rfl (by decide) (by decide) ?_
  refine S_idiv dX9_toldTo_3 rfl (by decide) ?_
  refine S_bipush (a := 10) dX9_toldTo_4 rfl (by decide) (by decide) ?_
  refine S_irem dX9_toldTo_6 rfl (by decide) ?_
  refine S_istore_n (lv' := [(1, qi (qrem (qdiv a0 10) 10)), (0, qi a0)]) dX9_toldTo_7 rfl (by decide) rfl rfl ?_
  refine S_li (fun v1 => ?_)
  refine S_iload_n 0 dX9_toldTo_8 rfl rfl rfl ?_
  refine S_bipush (a := 9) dX9_toldTo_9 rfl (by decide) (by decide) ?_
  refine S_icmp_ne (tgt := 18) dX9_toldTo_11 (by decide) rfl (fun _ => ?_) (fun _ => ?_)
  · refine S_iload_n 0 dX9_toldTo_18 rfl rfl rfl ?_
    exact S_iret dX9_toldTo_19
  · refine S_iconst (a := (-1)) dX9_toldTo_14 rfl (by decide) ?_
    refine S_goto (pc' := 19) dX9_toldTo_15 (by decide) ?_
    exact S_iret dX9_toldTo_19
def DX7_ebb_l2 : Nat → Nat → Int → qH → Option (Int × qH)
  | 0, _, _, _ => none
  | n + 1, i0, a2, h => (if h.1 i0 1 ≤ a2 then (qlt (qu h i0 2 (qw (h.1 i0 2 + 1))) fun h1 => some (0, h1)) else (if 8 ≤ a2 then (qlt (qu h i0 2 (qw (h.1 i0 2 + 1))) fun h2 => some (0, h2)) else (if 0 ≤ a2 ∧ a2 < 8 then (qbd (DX2_carry (i0 + 2 + a2.toNat) (h.1 i0 2) h) fun r5 h6 => ((DX7_ebb_l2 n) i0 (qw (a2 + 1)) h6)) else none)))
set_option maxRecDepth 100000 in
theorem TX7_ebb_l2 {L : Nat} {xs : Nat → Int32} : ∀ (n : Nat) (i0 : Nat) (a2 : Int) (t0 : qK i0 = (7, 3)) (h : qH), qS L xs cX7_ebb "BottlePost$Waters" 3 6 0 2 [(0, qr i0), (1, qr 4), (2, qi a2)] [] h (DX7_ebb_l2 n i0 a2 h) := by
  intro n
  induction n with
  | zero =>
    intro i0 a2 t0 h
    exact S_none
  | succ n ih =>
    intro i0 a2 t0 h
    rw [DX7_ebb_l2.eq_2]
    refine S_iload_n 2 dX7_ebb_2 rfl rfl rfl ?_
    refine S_aload_n 0 dX7_ebb_3 rfl rfl rfl ?_
    refine S_geti 1 qC_7 (by decide) (by decide) t0 tw_273 dX7_ebb_4 rfl ?_
    refine S_icmp_ge (tgt := 36) dX7_ebb_7 (by decide) rfl (fun _ => ?_) (fun _ => ?_)
    · refine S_aload_n 0 dX7_ebb_36 rfl rfl rfl ?_
      refine S_dup dX7_ebb_37 rfl rfl ?_
      refine S_geti 2 qC_7 (by decide) (by decide) t0 tw_275 dX7_ebb_38 rfl ?_
      refine S_iconst (a := 1) dX7_ebb_41 rfl (by decide) ?_
      refine S_iadd dX7_ebb_42 rfl ?_
      refine S_puti 2 qC_7 (by decide) (by decide) rfl rfl t0 (by decide) tw_275 dX7_ebb_43 rfl ?_
      refine S_lh (fun h1 => ?_)
      exact S_vret dX7_ebb_46
    · refine S_iload_n 2 dX7_ebb_10 rfl rfl rfl ?_
      refine S_bipush (a := 8) dX7_ebb_11 rfl (by decide) (by decide) ?_
      refine S_icmp_ge (tgt := 36) dX7_ebb_13 (by decide) rfl (fun _ => ?_) (fun _ => ?_)
      · refine S_aload_n 0 dX7_ebb_36 rfl rfl rfl ?_
        refine S_dup dX7_ebb_37 rfl rfl ?_
        refine S_geti 2 qC_7 (by decide) (by decide) t0 tw_275 dX7_ebb_38 rfl ?_
        refine S_iconst (a := 1) dX7_ebb_41 rfl (by decide) ?_
        refine S_iadd dX7_ebb_42 rfl ?_
        refine S_puti 2 qC_7 (by decide) (by decide) rfl rfl t0 (by decide) tw_275 dX7_ebb_43 rfl ?_
        refine S_lh (fun h2 => ?_)
        exact S_vret dX7_ebb_46
      · refine S_aload_n 1 dX7_ebb_16 rfl rfl rfl ?_
        refine S_aload_n 0 dX7_ebb_17 rfl rfl rfl ?_
        refine S_getr (j := (i0 + 1)) (o := 1) 0 qC_7 (by decide) (by decide) t0 rfl rfl (qf_7_0 t0).2 tw_271 dX7_ebb_18 rfl ?_
        refine S_iload_n 2 dX7_ebb_21 rfl rfl rfl ?_
        refine S_aald (j := (i0 + 2 + a2.toNat)) (C := "BottlePost$Bottle") (N := 8) (qf_7_0 t0).1 (by decide) (by decide) (fun _ => rfl) rfl dX7_ebb_22 rfl (fun g3 g4 => (qel_25 (qf_7_0 t0).1 g3 g4).2) (fun g3 g4 => ?_)
        refine S_aload_n 0 dX7_ebb_23 rfl rfl rfl ?_
        refine S_geti 2 qC_7 (by decide) (by decide) t0 tw_275 dX7_ebb_24 rfl ?_
        refine S_callV_0 (as := [qr (i0 + 2 + a2.toNat), qi (h.1 i0 2)]) (st := []) (fun _ => rfl) (TX2_carry (i0 + 2 + a2.toNat) (h.1 i0 2) (qel_25 (qf_7_0 t0).1 g3 g4).1 h) yv_X2_carry tw_877 qC_2 qk_4 (by decide) rfl rfl (Nat.le_of_ble_eq_true rfl) dX7_ebb_27 rfl (fun r5 h6 e7 => ?_)
        refine S_iinc (lv' := [(2, qi (qw (a2 + 1))), (0, qr i0), (1, qr 4)]) 2 dX7_ebb_30 rfl (by decide) rfl rfl ?_
        refine S_goto (pc' := 2) dX7_ebb_33 (by decide) ?_
        refine S_sub [1, 2, 0] rfl ?_
        exact ih i0 (qw (a2 + 1)) t0 h6
def DX7_ebb (i0 : Nat) (h : qH) : Option (Int × qH) := (DX7_ebb_l2 LF i0 0 h)
set_option maxRecDepth 100000 in
theorem TX7_ebb {L : Nat} {xs : Nat → Int32} (i0 : Nat) (t0 : qK i0 = (7, 3)) (h : qH) : qMet L xs yX7_ebb cX7_ebb 3 (none) 0 6 [qr i0, qr 4] h (DX7_ebb i0 h) := by
  refine qMet.of (by decide +kernel) (Or.inl ⟨rfl, rfl⟩) (Nat.le_of_ble_eq_true rfl) ?_
  show qS L xs cX7_ebb "BottlePost$Waters" 3 6 0 0 [(0, qr i0), (1, qr 4)] [] h (DX7_ebb i0 h)
  unfold DX7_ebb
  refine S_iconst (a := 0) dX7_ebb_0 rfl (by decide) ?_
  refine S_istore_n (lv' := [(2, qi 0), (0, qr i0), (1, qr 4)]) dX7_ebb_1 rfl (by decide) rfl rfl ?_
  refine S_sub [1, 2, 0] rfl ?_
  exact TX7_ebb_l2 LF i0 0 t0 h
def DX7_launch (i0 : Nat) (i1 : Nat) (a2 : Int) (a3 : Int) (a4 : Int) (h : qH) : Option (Int × qH) := (if h.1 i0 1 < 0 then some ((-1), h) else (if h.1 i0 1 < 8 then (if 0 ≤ h.1 i0 1 ∧ h.1 i0 1 < 8 then (qbd (DX1_throwCell i1 a2 h) fun r3 h4 => (qbd (DX0_launch (i0 + 2 + (h.1 i0 1).toNat) a2 a3 a4 r3 h4) fun r6 h7 => (qlt (qu h7 i0 1 (qw (h7.1 i0 1 + 1))) fun h9 => some (qw (h9.1 i0 1 - 1), h9)))) else none) else some ((-1), h)))
set_option maxRecDepth 100000 in
theorem TX7_launch {L : Nat} {xs : Nat → Int32} (i0 : Nat) (i1 : Nat) (a2 : Int) (a3 : Int) (a4 : Int) (t0 : qK i0 = (7, 3)) (t1 : qK i1 = (1, 20)) (h : qH) : qMet L xs yX7_launch cX7_launch 5 (some .int) 1 2 [qr i0, qr i1, qi a2, qi a3, qi a4] h (DX7_launch i0 i1 a2 a3 a4 h) := by
  refine qMet.of (by decide +kernel) (Or.inr (Or.inl ⟨rfl, rfl⟩)) (Nat.le_of_ble_eq_true rfl) ?_
  show qS L xs cX7_launch "BottlePost$Waters" 5 2 1 0 [(0, qr i0), (1, qr i1), (2, qi a2), (3, qi a3), (4, qi a4)] [] h (DX7_launch i0 i1 a2 a3 a4 h)
  unfold DX7_launch
  refine S_aload_n 0 dX7_launch_0 rfl rfl rfl ?_
  refine S_geti 1 qC_7 (by decide) (by decide) t0 tw_273 dX7_launch_1 rfl ?_
  refine S_if_lt (tgt := 16) dX7_launch_4 (by decide) rfl (fun _ => ?_) (fun _ => ?_)
  · refine S_iconst (a := (-1)) dX7_launch_16 rfl (by decide) ?_
    exact S_iret dX7_launch_17
  · refine S_aload_n 0 dX7_launch_7 rfl rfl rfl ?_
    refine S_geti 1 qC_7 (by decide) (by decide) t0 tw_273 dX7_launch_8 rfl ?_
    refine S_bipush (a := 8) dX7_launch_11 rfl (by decide) (by decide) ?_
    refine S_icmp_lt (tgt := 18) dX7_launch_13 (by decide) rfl (fun _ => ?_) (fun _ => ?_)
    · refine S_aload_n 0 dX7_launch_18 rfl rfl rfl ?_
      refine S_getr (j := (i0 + 1)) (o := 1) 0 qC_7 (by decide) (by decide) t0 rfl rfl (qf_7_0 t0).2 tw_271 dX7_launch_19 rfl ?_
      refine S_aload_n 0 dX7_launch_22 rfl rfl rfl ?_
      refine S_geti 1 qC_7 (by decide) (by decide) t0 tw_273 dX7_launch_23 rfl ?_
      refine S_aald (j := (i0 + 2 + (h.1 i0 1).toNat)) (C := "BottlePost$Bottle") (N := 8) (qf_7_0 t0).1 (by decide) (by decide) (fun _ => rfl) rfl dX7_launch_26 rfl (fun g1 g2 => (qel_25 (qf_7_0 t0).1 g1 g2).2) (fun g1 g2 => ?_)
      refine S_iload_n 2 dX7_launch_27 rfl rfl rfl ?_
      refine S_iload_n 3 dX7_launch_28 rfl rfl rfl ?_
      refine S_iload 4 dX7_launch_29 rfl rfl ?_
      refine S_aload_n 1 dX7_launch_31 rfl rfl rfl ?_
      refine S_iload_n 2 dX7_launch_32 rfl rfl rfl ?_
      refine S_callV_i (as := [qi a2]) (st := [qi a4, qi a3, qi a2, qr (i0 + 2 + (h.1 i0 1).toNat)]) (fun _ => rfl) (TX1_throwCell i1 a2 t1 h) yv_X1_throwCell tw_835 qC_1 t1 (by decide) rfl rfl (Nat.le_of_ble_eq_true rfl) dX7_launch_33 rfl (fun r3 h4 e5 => ?_)
      refine S_callV_0 (as := [qi a2, qi a3, qi a4, qi r3]) (st := []) (fun _ => rfl) (TX0_launch (i0 + 2 + (h.1 i0 1).toNat) a2 a3 a4 r3 (qel_25 (qf_7_0 t0).1 g1 g2).1 h4) yv_X0_launch tw_861 qC_0 (qel_25 (qf_7_0 t0).1 g1 g2).1 (by decide) rfl rfl (Nat.le_of_ble_eq_true rfl) dX7_launch_36 rfl (fun r6 h7 e8 => ?_)
      refine S_aload_n 0 dX7_launch_39 rfl rfl rfl ?_
      refine S_dup dX7_launch_40 rfl rfl ?_
      refine S_geti 1 qC_7 (by decide) (by decide) t0 tw_273 dX7_launch_41 rfl ?_
      refine S_iconst (a := 1) dX7_launch_44 rfl (by decide) ?_
      refine S_iadd dX7_launch_45 rfl ?_
      refine S_puti 1 qC_7 (by decide) (by decide) rfl rfl t0 (by decide) tw_273 dX7_launch_46 rfl ?_
      refine S_lh (fun h9 => ?_)
      refine S_aload_n 0 dX7_launch_49 rfl rfl rfl ?_
      refine S_geti 1 qC_7 (by decide) (by decide) t0 tw_273 dX7_launch_50 rfl ?_
      refine S_iconst (a := 1) dX7_launch_53 rfl (by decide) ?_
      refine S_isub dX7_launch_54 rfl ?_
      exact S_iret dX7_launch_55
    · refine S_iconst (a := (-1)) dX7_launch_16 rfl (by decide) ?_
      exact S_iret dX7_launch_17
def DX7_raise (i0 : Nat) (a1 : Int) (h : qH) : Option (Int × qH) := (qbd (DX7_has i0 a1 h) fun r1 h2 => (if r1 = 0 then some (0, h2) else (if 0 ≤ a1 ∧ a1 < 8 then (qlt (qu h2 (i0 + 2 + a1.toNat) 0 5) fun h6 => some (0, h6)) else none)))
set_option maxRecDepth 100000 in
theorem TX7_raise {L : Nat} {xs : Nat → Int32} (i0 : Nat) (a1 : Int) (t0 : qK i0 = (7, 3)) (h : qH) : qMet L xs yX7_raise cX7_raise 2 (none) 0 2 [qr i0, qi a1] h (DX7_raise i0 a1 h) := by
  refine qMet.of (by decide +kernel) (Or.inl ⟨rfl, rfl⟩) (Nat.le_of_ble_eq_true rfl) ?_
  show qS L xs cX7_raise "BottlePost$Waters" 2 2 0 0 [(0, qr i0), (1, qi a1)] [] h (DX7_raise i0 a1 h)
  unfold DX7_raise
  refine S_aload_n 0 dX7_raise_0 rfl rfl rfl ?_
  refine S_iload_n 1 dX7_raise_1 rfl rfl rfl ?_
  refine S_callV_i (as := [qi a1]) (st := []) (fun _ => rfl) (TX7_has i0 a1 t0 h) yv_X7_has tw_923 qC_7 t0 (by decide) rfl rfl (Nat.le_of_ble_eq_true rfl) dX7_raise_2 rfl (fun r1 h2 e3 => ?_)
  refine S_if_eq (tgt := 18) dX7_raise_5 (by decide) rfl (fun _ => ?_) (fun _ => ?_)
  · exact S_vret dX7_raise_18
  · refine S_aload_n 0 dX7_raise_8 rfl rfl rfl ?_
    refine S_getr (j := (i0 + 1)) (o := 1) 0 qC_7 (by decide) (by decide) t0 rfl rfl (qf_7_0 t0).2 tw_271 dX7_raise_9 rfl ?_
    refine S_iload_n 1 dX7_raise_12 rfl rfl rfl ?_
    refine S_aald (j := (i0 + 2 + a1.toNat)) (C := "BottlePost$Bottle") (N := 8) (qf_7_0 t0).1 (by decide) (by decide) (fun _ => rfl) rfl dX7_raise_13 rfl (fun g4 g5 => (qel_25 (qf_7_0 t0).1 g4 g5).2) (fun g4 g5 => ?_)
    refine S_iconst (a := 5) dX7_raise_14 rfl (by decide) ?_
    refine S_puti 0 qC_0 (by decide) (by decide) rfl rfl (qel_25 (qf_7_0 t0).1 g4 g5).1 (by decide) tw_194 dX7_raise_15 rfl ?_
    refine S_lh (fun h6 => ?_)
    exact S_vret dX7_raise_18
def DX9_doOne (i1 : Nat) (a2 : Int) (h : qH) : Option (Int × qH) := (if ¬ a2 = (-1) then (if a2 < 1000 then (qbd (DX9_toldTo a2 h) fun r1 h2 => (if ¬ qrem a2 10 = 1 then (qbd (DX7_launch i1 5 (qdiv a2 100) r1 0 h2) fun r4 h5 => some (0, h5)) else (qbd (DX7_launch i1 5 (qdiv a2 100) r1 1 h2) fun r7 h8 => some (0, h8)))) else (qbd (DX7_raise i1 (qw (a2 - 1000)) h) fun r10 h11 => some (0, h11))) else (qbd (DX7_ebb i1 h) fun r13 h14 => some (0, h14)))
set_option maxRecDepth 100000 in
theorem TX9_doOne {L : Nat} {xs : Nat → Int32} (i1 : Nat) (a2 : Int) (t1 : qK i1 = (7, 3)) (h : qH) : qMet L xs yX9_doOne cX9_doOne 3 (none) 0 7 [qr 0, qr i1, qi a2] h (DX9_doOne i1 a2 h) := by
  refine qMet.of (by decide +kernel) (Or.inl ⟨rfl, rfl⟩) (Nat.le_of_ble_eq_true rfl) ?_
  show qS L xs cX9_doOne "BottlePost" 3 7 0 0 [(0, qr 0), (1, qr i1), (2, qi a2)] [] h (DX9_doOne i1 a2 h)
  unfold DX9_doOne
  refine S_iload_n 2 dX9_doOne_0 rfl rfl rfl ?_
  refine S_iconst (a := (-1)) dX9_doOne_1 rfl (by decide) ?_
  refine S_icmp_ne (tgt := 16) dX9_doOne_2 (by decide) rfl (fun _ => ?_) (fun _ => ?_)
  · refine S_iload_n 2 dX9_doOne_16 rfl rfl rfl ?_
    refine S_sipush (a := 1000) dX9_doOne_17 rfl (by decide) (by decide) ?_
    refine S_icmp_lt (tgt := 35) dX9_doOne_20 (by decide) rfl (fun _ => ?_) (fun _ => ?_)
    · refine S_aload_n 1 dX9_doOne_35 rfl rfl rfl ?_
      refine S_aload_n 0 dX9_doOne_36 rfl rfl rfl ?_
      refine S_getr (j := 5) (o := 5) 4 qC_9 (by decide) (by decide) qk_0 rfl rfl (by decide) tw_385 dX9_doOne_37 rfl ?_
      refine S_iload_n 2 dX9_doOne_40 rfl rfl rfl ?_
      refine S_bipush (a := 100) dX9_doOne_41 rfl (by decide) (by decide) ?_
      refine S_idiv dX9_doOne_43 rfl (by decide) ?_
      refine S_iload_n 2 dX9_doOne_44 rfl rfl rfl ?_
      refine S_callS_i (as := [qi a2]) (st := [qi (qdiv a2 100), qr 5, qr i1]) (fun _ => rfl) (TX9_toldTo a2 h) yv_X9_toldTo tw_962 (by decide) rfl rfl (Nat.le_of_ble_eq_true rfl) dX9_doOne_45 rfl (fun r1 h2 e3 => ?_)
      refine S_iload_n 2 dX9_doOne_48 rfl rfl rfl ?_
      refine S_bipush (a := 10) dX9_doOne_49 rfl (by decide) (by decide) ?_
      refine S_irem dX9_doOne_51 rfl (by decide) ?_
      refine S_iconst (a := 1) dX9_doOne_52 rfl (by decide) ?_
      refine S_icmp_ne (tgt := 60) dX9_doOne_53 (by decide) rfl (fun _ => ?_) (fun _ => ?_)
      · refine S_iconst (a := 0) dX9_doOne_60 rfl (by decide) ?_
        refine S_callV_i (as := [qr 5, qi (qdiv a2 100), qi r1, qi 0]) (st := []) (fun _ => rfl) (TX7_launch i1 5 (qdiv a2 100) r1 0 t1 qk_5 h2) yv_X7_launch tw_857 qC_7 t1 (by decide) rfl rfl (Nat.le_of_ble_eq_true rfl) dX9_doOne_61 rfl (fun r4 h5 e6 => ?_)
        refine S_pop dX9_doOne_64 rfl rfl ?_
        exact S_vret dX9_doOne_65
      · refine S_iconst (a := 1) dX9_doOne_56 rfl (by decide) ?_
        refine S_goto (pc' := 61) dX9_doOne_57 (by decide) ?_
        refine S_callV_i (as := [qr 5, qi (qdiv a2 100), qi r1, qi 1]) (st := []) (fun _ => rfl) (TX7_launch i1 5 (qdiv a2 100) r1 1 t1 qk_5 h2) yv_X7_launch tw_857 qC_7 t1 (by decide) rfl rfl (Nat.le_of_ble_eq_true rfl) dX9_doOne_61 rfl (fun r7 h8 e9 => ?_)
        refine S_pop dX9_doOne_64 rfl rfl ?_
        exact S_vret dX9_doOne_65
    · refine S_aload_n 1 dX9_doOne_23 rfl rfl rfl ?_
      refine S_iload_n 2 dX9_doOne_24 rfl rfl rfl ?_
      refine S_sipush (a := 1000) dX9_doOne_25 rfl (by decide) (by decide) ?_
      refine S_isub dX9_doOne_28 rfl ?_
      refine S_callV_0 (as := [qi (qw (a2 - 1000))]) (st := []) (fun _ => rfl) (TX7_raise i1 (qw (a2 - 1000)) t1 h) yv_X7_raise tw_924 qC_7 t1 (by decide) rfl rfl (Nat.le_of_ble_eq_true rfl) dX9_doOne_29 rfl (fun r10 h11 e12 => ?_)
      refine S_goto (pc' := 65) dX9_doOne_32 (by decide) ?_
      exact S_vret dX9_doOne_65
  · refine S_aload_n 1 dX9_doOne_5 rfl rfl rfl ?_
    refine S_aload_n 0 dX9_doOne_6 rfl rfl rfl ?_
    refine S_getr (j := 4) (o := 4) 3 qC_9 (by decide) (by decide) qk_0 rfl rfl (by decide) tw_384 dX9_doOne_7 rfl ?_
    refine S_callV_0 (as := [qr 4]) (st := []) (fun _ => rfl) (TX7_ebb i1 t1 h) yv_X7_ebb tw_873 qC_7 t1 (by decide) rfl rfl (Nat.le_of_ble_eq_true rfl) dX9_doOne_10 rfl (fun r13 h14 e15 => ?_)
    refine S_goto (pc' := 65) dX9_doOne_13 (by decide) ?_
    exact S_vret dX9_doOne_65
def DX7_whyNotLifted (i0 : Nat) (a1 : Int) (h : qH) : Option (Int × qH) := (qbd (DX7_has i0 a1 h) fun r1 h2 => (if ¬ r1 = 0 then (if 0 ≤ a1 ∧ a1 < 8 then (if ¬ h2.1 (i0 + 2 + a1.toNat) 0 = 0 then some (2, h2) else some (0, h2)) else none) else some (1, h2)))
set_option maxRecDepth 100000 in
theorem TX7_whyNotLifted {L : Nat} {xs : Nat → Int32} (i0 : Nat) (a1 : Int) (t0 : qK i0 = (7, 3)) (h : qH) : qMet L xs yX7_whyNotLifted cX7_whyNotLifted 2 (some .int) 1 2 [qr i0, qi a1] h (DX7_whyNotLifted i0 a1 h) := by
  refine qMet.of (by decide +kernel) (Or.inr (Or.inl ⟨rfl, rfl⟩)) (Nat.le_of_ble_eq_true rfl) ?_
  show qS L xs cX7_whyNotLifted "BottlePost$Waters" 2 2 1 0 [(0, qr i0), (1, qi a1)] [] h (DX7_whyNotLifted i0 a1 h)
  unfold DX7_whyNotLifted
  refine S_aload_n 0 dX7_whyNotLifted_0 rfl rfl rfl ?_
  refine S_iload_n 1 dX7_whyNotLifted_1 rfl rfl rfl ?_
  refine S_callV_i (as := [qi a1]) (st := []) (fun _ => rfl) (TX7_has i0 a1 t0 h) yv_X7_has tw_923 qC_7 t0 (by decide) rfl rfl (Nat.le_of_ble_eq_true rfl) dX7_whyNotLifted_2 rfl (fun r1 h2 e3 => ?_)
  refine S_if_ne (tgt := 10) dX7_whyNotLifted_5 (by decide) rfl (fun _ => ?_) (fun _ => ?_)
  · refine S_aload_n 0 dX7_whyNotLifted_10 rfl rfl rfl ?_
    refine S_getr (j := (i0 + 1)) (o := 1) 0 qC_7 (by decide) (by decide) t0 rfl rfl (qf_7_0 t0).2 tw_271 dX7_whyNotLifted_11 rfl ?_
    refine S_iload_n 1 dX7_whyNotLifted_14 rfl rfl rfl ?_
    refine S_aald (j := (i0 + 2 + a1.toNat)) (C := "BottlePost$Bottle") (N := 8) (qf_7_0 t0).1 (by decide) (by decide) (fun _ => rfl) rfl dX7_whyNotLifted_15 rfl (fun g4 g5 => (qel_25 (qf_7_0 t0).1 g4 g5).2) (fun g4 g5 => ?_)
    refine S_geti 0 qC_0 (by decide) (by decide) (qel_25 (qf_7_0 t0).1 g4 g5).1 tw_194 dX7_whyNotLifted_16 rfl ?_
    refine S_if_ne (tgt := 26) dX7_whyNotLifted_19 (by decide) rfl (fun _ => ?_) (fun _ => ?_)
    · refine S_iconst (a := 2) dX7_whyNotLifted_26 rfl (by decide) ?_
      exact S_iret dX7_whyNotLifted_27
    · refine S_iconst (a := 0) dX7_whyNotLifted_22 rfl (by decide) ?_
      refine S_goto (pc' := 27) dX7_whyNotLifted_23 (by decide) ?_
      exact S_iret dX7_whyNotLifted_27
  · refine S_iconst (a := 1) dX7_whyNotLifted_8 rfl (by decide) ?_
    exact S_iret dX7_whyNotLifted_9
def DX7_whyNotThrown_b28 (i0 : Nat) (i1 : Nat) (a2 : Int) (h : qH) : Option (Int × qH) := (qbd (DX1_throwCell i1 a2 h) fun r1 h2 => (if ¬ r1 = (-1) then (if h2.1 i0 1 < 8 then some (0, h2) else some (3, h2)) else some (2, h2)))
set_option maxRecDepth 100000 in
theorem TX7_whyNotThrown_b28 {L : Nat} {xs : Nat → Int32} (i0 : Nat) (i1 : Nat) (a2 : Int) (t0 : qK i0 = (7, 3)) (t1 : qK i1 = (1, 20)) (h : qH) : qS L xs cX7_whyNotThrown "BottlePost$Waters" 4 2 1 28 [(0, qr i0), (1, qr i1), (2, qi a2)] [] h (DX7_whyNotThrown_b28 i0 i1 a2 h) := by
  unfold DX7_whyNotThrown_b28
  refine S_aload_n 1 dX7_whyNotThrown_28 rfl rfl rfl ?_
  refine S_iload_n 2 dX7_whyNotThrown_29 rfl rfl rfl ?_
  refine S_callV_i (as := [qi a2]) (st := []) (fun _ => rfl) (TX1_throwCell i1 a2 t1 h) yv_X1_throwCell tw_835 qC_1 t1 (by decide) rfl rfl (Nat.le_of_ble_eq_true rfl) dX7_whyNotThrown_30 rfl (fun r1 h2 e3 => ?_)
  refine S_iconst (a := (-1)) dX7_whyNotThrown_33 rfl (by decide) ?_
  refine S_icmp_ne (tgt := 39) dX7_whyNotThrown_34 (by decide) rfl (fun _ => ?_) (fun _ => ?_)
  · refine S_aload_n 0 dX7_whyNotThrown_39 rfl rfl rfl ?_
    refine S_geti 1 qC_7 (by decide) (by decide) t0 tw_273 dX7_whyNotThrown_40 rfl ?_
    refine S_bipush (a := 8) dX7_whyNotThrown_43 rfl (by decide) (by decide) ?_
    refine S_icmp_lt (tgt := 52) dX7_whyNotThrown_45 (by decide) rfl (fun _ => ?_) (fun _ => ?_)
    · refine S_iconst (a := 0) dX7_whyNotThrown_52 rfl (by decide) ?_
      exact S_iret dX7_whyNotThrown_53
    · refine S_iconst (a := 3) dX7_whyNotThrown_48 rfl (by decide) ?_
      refine S_goto (pc' := 53) dX7_whyNotThrown_49 (by decide) ?_
      exact S_iret dX7_whyNotThrown_53
  · refine S_iconst (a := 2) dX7_whyNotThrown_37 rfl (by decide) ?_
    exact S_iret dX7_whyNotThrown_38
def DX7_whyNotThrown (i0 : Nat) (i1 : Nat) (a2 : Int) (a3 : Int) (h : qH) : Option (Int × qH) := (qbd (DX1_isShore i1 a2 h) fun r4 h5 => (if r4 = 0 then some (1, h5) else (if a2 = a3 then some (1, h5) else (if a3 = (-1) then (DX7_whyNotThrown_b28 i0 i1 a2 h5) else (qbd (DX1_isShore i1 a3 h5) fun r7 h8 => (if ¬ r7 = 0 then (DX7_whyNotThrown_b28 i0 i1 a2 h8) else some (1, h8)))))))
set_option maxRecDepth 100000 in
theorem TX7_whyNotThrown {L : Nat} {xs : Nat → Int32} (i0 : Nat) (i1 : Nat) (a2 : Int) (a3 : Int) (t0 : qK i0 = (7, 3)) (t1 : qK i1 = (1, 20)) (h : qH) : qMet L xs yX7_whyNotThrown cX7_whyNotThrown 4 (some .int) 1 2 [qr i0, qr i1, qi a2, qi a3] h (DX7_whyNotThrown i0 i1 a2 a3 h) := by
  refine qMet.of (by decide +kernel) (Or.inr (Or.inl ⟨rfl, rfl⟩)) (Nat.le_of_ble_eq_true rfl) ?_
  show qS L xs cX7_whyNotThrown "BottlePost$Waters" 4 2 1 0 [(0, qr i0), (1, qr i1), (2, qi a2), (3, qi a3)] [] h (DX7_whyNotThrown i0 i1 a2 a3 h)
  unfold DX7_whyNotThrown
  refine S_aload_n 1 dX7_whyNotThrown_0 rfl rfl rfl ?_
  refine S_iload_n 2 dX7_whyNotThrown_1 rfl rfl rfl ?_
  refine S_callV_i (as := [qi a2]) (st := []) (fun _ => rfl) (TX1_isShore i1 a2 t1 h) yv_X1_isShore tw_834 qC_1 t1 (by decide) rfl rfl (Nat.le_of_ble_eq_true rfl) dX7_whyNotThrown_2 rfl (fun r4 h5 e6 => ?_)
  refine S_if_eq (tgt := 26) dX7_whyNotThrown_5 (by decide) rfl (fun _ => ?_) (fun _ => ?_)
  · refine S_iconst (a := 1) dX7_whyNotThrown_26 rfl (by decide) ?_
    exact S_iret dX7_whyNotThrown_27
  · refine S_iload_n 2 dX7_whyNotThrown_8 rfl rfl rfl ?_
    refine S_iload_n 3 dX7_whyNotThrown_9 rfl rfl rfl ?_
    refine S_icmp_eq (tgt := 26) dX7_whyNotThrown_10 (by decide) rfl (fun _ => ?_) (fun _ => ?_)
    · refine S_iconst (a := 1) dX7_whyNotThrown_26 rfl (by decide) ?_
      exact S_iret dX7_whyNotThrown_27
    · refine S_iload_n 3 dX7_whyNotThrown_13 rfl rfl rfl ?_
      refine S_iconst (a := (-1)) dX7_whyNotThrown_14 rfl (by decide) ?_
      refine S_icmp_eq (tgt := 28) dX7_whyNotThrown_15 (by decide) rfl (fun _ => ?_) (fun _ => ?_)
      · refine S_sub [0, 1, 2] rfl ?_
        exact TX7_whyNotThrown_b28 i0 i1 a2 t0 t1 h5
      · refine S_aload_n 1 dX7_whyNotThrown_18 rfl rfl rfl ?_
        refine S_iload_n 3 dX7_whyNotThrown_19 rfl rfl rfl ?_
        refine S_callV_i (as := [qi a3]) (st := []) (fun _ => rfl) (TX1_isShore i1 a3 t1 h5) yv_X1_isShore tw_834 qC_1 t1 (by decide) rfl rfl (Nat.le_of_ble_eq_true rfl) dX7_whyNotThrown_20 rfl (fun r7 h8 e9 => ?_)
        refine S_if_ne (tgt := 28) dX7_whyNotThrown_23 (by decide) rfl (fun _ => ?_) (fun _ => ?_)
        · refine S_sub [0, 1, 2] rfl ?_
          exact TX7_whyNotThrown_b28 i0 i1 a2 t0 t1 h8
        · refine S_iconst (a := 1) dX7_whyNotThrown_26 rfl (by decide) ?_
          exact S_iret dX7_whyNotThrown_27
def DX9_whyNotDone (i1 : Nat) (a2 : Int) (h : qH) : Option (Int × qH) := (if ¬ qcmp a2 (-1) = 0 then (if qcmp a2 0 < 0 then some (1, h) else (if qcmp a2 1008 < 0 then (qlt (qw a2) fun v1 => (if v1 < 1000 then (if qrem v1 10 ≤ 1 then (qbd (DX9_toldTo v1 h) fun r2 h3 => (qbd (DX7_whyNotThrown i1 5 (qdiv v1 100) r2 h3) fun r5 h6 => some (r5, h6))) else some (1, h)) else (qbd (DX7_whyNotLifted i1 (qw (v1 - 1000)) h) fun r8 h9 => some (r8, h9)))) else some (1, h))) else some (0, h))
set_option maxRecDepth 100000 in
theorem TX9_whyNotDone {L : Nat} {xs : Nat → Int32} (i1 : Nat) (a2 : Int) (t1 : qK i1 = (7, 3)) (h : qH) : qMet L xs yX9_whyNotDone cX9_whyNotDone 5 (some .int) 1 3 [qr 0, qr i1, ql a2] h (DX9_whyNotDone i1 a2 h) := by
  refine qMet.of (by decide +kernel) (Or.inr (Or.inl ⟨rfl, rfl⟩)) (Nat.le_of_ble_eq_true rfl) ?_
  show qS L xs cX9_whyNotDone "BottlePost" 5 3 1 0 [(0, qr 0), (1, qr i1), (2, ql a2)] [] h (DX9_whyNotDone i1 a2 h)
  unfold DX9_whyNotDone
  refine S_lload_n 2 dX9_whyNotDone_0 rfl rfl rfl ?_
  refine S_ldc2 (a := (-1)) dX9_whyNotDone_1 rfl (by rw [show Int64.ofInt (-1) = ((-1) : Int64) from by decide]; exact tw_960) (by decide) ?_
  refine S_lcmp dX9_whyNotDone_4 rfl ?_
  refine S_if_ne (tgt := 10) dX9_whyNotDone_5 (by decide) rfl (fun _ => ?_) (fun _ => ?_)
  · refine S_lload_n 2 dX9_whyNotDone_10 rfl rfl rfl ?_
    refine S_lconst (a := 0) dX9_whyNotDone_11 rfl (by decide) (by decide) ?_
    refine S_lcmp dX9_whyNotDone_12 rfl ?_
    refine S_if_lt (tgt := 24) dX9_whyNotDone_13 (by decide) rfl (fun _ => ?_) (fun _ => ?_)
    · refine S_iconst (a := 1) dX9_whyNotDone_24 rfl (by decide) ?_
      exact S_iret dX9_whyNotDone_25
    · refine S_lload_n 2 dX9_whyNotDone_16 rfl rfl rfl ?_
      refine S_ldc2 (a := 1008) dX9_whyNotDone_17 rfl (by rw [show Int64.ofInt 1008 = (1008 : Int64) from by decide]; exact tw_961) (by decide) ?_
      refine S_lcmp dX9_whyNotDone_20 rfl ?_
      refine S_if_lt (tgt := 26) dX9_whyNotDone_21 (by decide) rfl (fun _ => ?_) (fun _ => ?_)
      · refine S_lload_n 2 dX9_whyNotDone_26 rfl rfl rfl ?_
        refine S_l2i dX9_whyNotDone_27 rfl ?_
        refine S_istore (lv' := [(4, qi (qw a2)), (0, qr 0), (1, qr i1), (2, ql a2)]) dX9_whyNotDone_28 (by decide) rfl rfl ?_
        refine S_li (fun v1 => ?_)
        refine S_iload 0 dX9_whyNotDone_30 rfl rfl ?_
        refine S_sipush (a := 1000) dX9_whyNotDone_32 rfl (by decide) (by decide) ?_
        refine S_icmp_lt (tgt := 49) dX9_whyNotDone_35 (by decide) rfl (fun _ => ?_) (fun _ => ?_)
        · refine S_iload 0 dX9_whyNotDone_49 rfl rfl ?_
          refine S_bipush (a := 10) dX9_whyNotDone_51 rfl (by decide) (by decide) ?_
          refine S_irem dX9_whyNotDone_53 rfl (by decide) ?_
          refine S_iconst (a := 1) dX9_whyNotDone_54 rfl (by decide) ?_
          refine S_icmp_le (tgt := 60) dX9_whyNotDone_55 (by decide) rfl (fun _ => ?_) (fun _ => ?_)
          · refine S_aload_n 2 dX9_whyNotDone_60 rfl rfl rfl ?_
            refine S_aload_n 1 dX9_whyNotDone_61 rfl rfl rfl ?_
            refine S_getr (j := 5) (o := 5) 4 qC_9 (by decide) (by decide) qk_0 rfl rfl (by decide) tw_385 dX9_whyNotDone_62 rfl ?_
            refine S_iload 0 dX9_whyNotDone_65 rfl rfl ?_
            refine S_bipush (a := 100) dX9_whyNotDone_67 rfl (by decide) (by decide) ?_
            refine S_idiv dX9_whyNotDone_69 rfl (by decide) ?_
            refine S_iload 0 dX9_whyNotDone_70 rfl rfl ?_
            refine S_callS_i (as := [qi v1]) (st := [qi (qdiv v1 100), qr 5, qr i1]) (fun _ => rfl) (TX9_toldTo v1 h) yv_X9_toldTo tw_962 (by decide) rfl rfl (Nat.le_of_ble_eq_true rfl) dX9_whyNotDone_72 rfl (fun r2 h3 e4 => ?_)
            refine S_callV_i (as := [qr 5, qi (qdiv v1 100), qi r2]) (st := []) (fun _ => rfl) (TX7_whyNotThrown i1 5 (qdiv v1 100) r2 t1 qk_5 h3) yv_X7_whyNotThrown tw_830 qC_7 t1 (by decide) rfl rfl (Nat.le_of_ble_eq_true rfl) dX9_whyNotDone_75 rfl (fun r5 h6 e7 => ?_)
            exact S_iret dX9_whyNotDone_78
          · refine S_iconst (a := 1) dX9_whyNotDone_58 rfl (by decide) ?_
            exact S_iret dX9_whyNotDone_59
        · refine S_aload_n 2 dX9_whyNotDone_38 rfl rfl rfl ?_
          refine S_iload 0 dX9_whyNotDone_39 rfl rfl ?_
          refine S_sipush (a := 1000) dX9_whyNotDone_41 rfl (by decide) (by decide) ?_
          refine S_isub dX9_whyNotDone_44 rfl ?_
          refine S_callV_i (as := [qi (qw (v1 - 1000))]) (st := []) (fun _ => rfl) (TX7_whyNotLifted i1 (qw (v1 - 1000)) t1 h) yv_X7_whyNotLifted tw_919 qC_7 t1 (by decide) rfl rfl (Nat.le_of_ble_eq_true rfl) dX9_whyNotDone_45 rfl (fun r8 h9 e10 => ?_)
          exact S_iret dX9_whyNotDone_48
      · refine S_iconst (a := 1) dX9_whyNotDone_24 rfl (by decide) ?_
        exact S_iret dX9_whyNotDone_25
  · refine S_iconst (a := 0) dX9_whyNotDone_8 rfl (by decide) ?_
    exact S_iret dX9_whyNotDone_9
def DX6_numberAt (i0 : Nat) (a1 : Int) (h : qH) : Option (Int × qH) := (if a1 < 0 then some (0, h) else (if 40 ≤ a1 then some (0, h) else (if 0 ≤ a1 ∧ a1 < 40 then some (h.1 (i0 + 1) a1.toNat, h) else none)))
set_option maxRecDepth 100000 in
theorem TX6_numberAt {L : Nat} {xs : Nat → Int32} (i0 : Nat) (a1 : Int) (t0 : qK i0 = (6, 3)) (h : qH) : qMet L xs yX6_numberAt cX6_numberAt 2 (some .long) 2 1 [qr i0, qi a1] h (DX6_numberAt i0 a1 h) := by
  refine qMet.of (by decide +kernel) (Or.inr (Or.inr (Or.inl ⟨rfl, rfl⟩))) (Nat.le_of_ble_eq_true rfl) ?_
  show qS L xs cX6_numberAt "BottlePost$Tray" 2 1 2 0 [(0, qr i0), (1, qi a1)] [] h (DX6_numberAt i0 a1 h)
  unfold DX6_numberAt
  refine S_iload_n 1 dX6_numberAt_0 rfl rfl rfl ?_
  refine S_if_lt (tgt := 22) dX6_numberAt_1 (by decide) rfl (fun _ => ?_) (fun _ => ?_)
  · refine S_lconst (a := 0) dX6_numberAt_22 rfl (by decide) (by decide) ?_
    exact S_lret dX6_numberAt_23
  · refine S_iload_n 1 dX6_numberAt_4 rfl rfl rfl ?_
    refine S_aload_n 0 dX6_numberAt_5 rfl rfl rfl ?_
    refine S_getr (j := (i0 + 1)) (o := 1) 0 qC_6 (by decide) (by decide) t0 rfl rfl (qf_6_0 t0).2 tw_366 dX6_numberAt_6 rfl ?_
    refine S_alen (N := 40) (qf_6_0 t0).1 (by decide) (by decide) rfl (by decide) dX6_numberAt_9 rfl ?_
    refine S_icmp_ge (tgt := 22) dX6_numberAt_10 (by decide) rfl (fun _ => ?_) (fun _ => ?_)
    · refine S_lconst (a := 0) dX6_numberAt_22 rfl (by decide) (by decide) ?_
      exact S_lret dX6_numberAt_23
    · refine S_aload_n 0 dX6_numberAt_13 rfl rfl rfl ?_
      refine S_getr (j := (i0 + 1)) (o := 1) 0 qC_6 (by decide) (by decide) t0 rfl rfl (qf_6_0 t0).2 tw_366 dX6_numberAt_14 rfl ?_
      refine S_iload_n 1 dX6_numberAt_17 rfl rfl rfl ?_
      refine S_lald (N := 40) (qf_6_0 t0).1 rfl dX6_numberAt_18 rfl (fun g1 g2 => ?_)
      refine S_goto (pc' := 23) dX6_numberAt_19 (by decide) ?_
      exact S_lret dX6_numberAt_23
def DX9_doAll_l2 : Nat → Nat → Nat → Int → qH → Option (Int × qH)
  | 0, _, _, _, _ => none
  | n + 1, i1, i2, a3, h => (if h.1 i2 2 ≤ a3 then some (h.1 i2 2, h) else (qbd (DX6_numberAt i2 a3 h) fun r1 h2 => (qbd (DX9_whyNotDone i1 r1 h2) fun r4 h5 => (if r4 = 0 then (qbd (DX9_doOne i1 (qw r1) h5) fun r7 h8 => ((DX9_doAll_l2 n) i1 i2 (qw (a3 + 1)) h8)) else some (a3, h5)))))
set_option maxRecDepth 100000 in
theorem TX9_doAll_l2 {L : Nat} {xs : Nat → Int32} : ∀ (n : Nat) (i1 : Nat) (i2 : Nat) (a3 : Int) (t1 : qK i1 = (7, 3)) (t2 : qK i2 = (6, 3)) (h : qH), qS L xs cX9_doAll "BottlePost" 6 8 1 2 [(0, qr 0), (1, qr i1), (2, qr i2), (3, qi a3)] [] h (DX9_doAll_l2 n i1 i2 a3 h) := by
  intro n
  induction n with
  | zero =>
    intro i1 i2 a3 t1 t2 h
    exact S_none
  | succ n ih =>
    intro i1 i2 a3 t1 t2 h
    rw [DX9_doAll_l2.eq_2]
    refine S_iload_n 3 dX9_doAll_2 rfl rfl rfl ?_
    refine S_aload_n 2 dX9_doAll_3 rfl rfl rfl ?_
    refine S_geti 2 qC_6 (by decide) (by decide) t2 tw_370 dX9_doAll_4 rfl ?_
    refine S_icmp_ge (tgt := 43) dX9_doAll_7 (by decide) rfl (fun _ => ?_) (fun _ => ?_)
    · refine S_aload_n 2 dX9_doAll_43 rfl rfl rfl ?_
      refine S_geti 2 qC_6 (by decide) (by decide) t2 tw_370 dX9_doAll_44 rfl ?_
      exact S_iret dX9_doAll_47
    · refine S_aload_n 2 dX9_doAll_10 rfl rfl rfl ?_
      refine S_iload_n 3 dX9_doAll_11 rfl rfl rfl ?_
      refine S_callV_l (as := [qi a3]) (st := []) (fun _ => rfl) (TX6_numberAt i2 a3 t2 h) yv_X6_numberAt tw_952 qC_6 t2 (by decide) rfl rfl (Nat.le_of_ble_eq_true rfl) dX9_doAll_12 rfl (fun r1 h2 e3 => ?_)
      refine S_lstore (lv' := [(4, ql r1), (0, qr 0), (1, qr i1), (2, qr i2), (3, qi a3)]) dX9_doAll_15 (by decide) rfl rfl ?_
      refine S_aload_n 1 dX9_doAll_17 rfl rfl rfl ?_
      refine S_aload_n 2 dX9_doAll_18 rfl rfl rfl ?_
      refine S_lload 0 dX9_doAll_19 rfl rfl ?_
      refine S_callV_i (as := [qr i1, ql r1]) (st := []) (fun _ => rfl) (TX9_whyNotDone i1 r1 t1 h2) yv_X9_whyNotDone tw_956 qC_9 qk_0 (by decide) rfl rfl (Nat.le_of_ble_eq_true rfl) dX9_doAll_21 rfl (fun r4 h5 e6 => ?_)
      refine S_if_eq (tgt := 29) dX9_doAll_24 (by decide) rfl (fun _ => ?_) (fun _ => ?_)
      · refine S_aload_n 1 dX9_doAll_29 rfl rfl rfl ?_
        refine S_aload_n 2 dX9_doAll_30 rfl rfl rfl ?_
        refine S_lload 0 dX9_doAll_31 rfl rfl ?_
        refine S_l2i dX9_doAll_33 rfl ?_
        refine S_callV_0 (as := [qr i1, qi (qw r1)]) (st := []) (fun _ => rfl) (TX9_doOne i1 (qw r1) t1 h5) yv_X9_doOne tw_965 qC_9 qk_0 (by decide) rfl rfl (Nat.le_of_ble_eq_true rfl) dX9_doAll_34 rfl (fun r7 h8 e9 => ?_)
        refine S_iinc (lv' := [(3, qi (qw (a3 + 1))), (4, ql r1), (0, qr 0), (1, qr i1), (2, qr i2)]) 4 dX9_doAll_37 rfl (by decide) rfl rfl ?_
        refine S_goto (pc' := 2) dX9_doAll_40 (by decide) ?_
        refine S_sub [2, 3, 4, 0] rfl ?_
        exact ih i1 i2 (qw (a3 + 1)) t1 t2 h8
      · refine S_iload_n 4 dX9_doAll_27 rfl rfl rfl ?_
        exact S_iret dX9_doAll_28
def DX9_doAll (i1 : Nat) (i2 : Nat) (h : qH) : Option (Int × qH) := (DX9_doAll_l2 LF i1 i2 0 h)
set_option maxRecDepth 100000 in
theorem TX9_doAll {L : Nat} {xs : Nat → Int32} (i1 : Nat) (i2 : Nat) (t1 : qK i1 = (7, 3)) (t2 : qK i2 = (6, 3)) (h : qH) : qMet L xs yX9_doAll cX9_doAll 6 (some .int) 1 8 [qr 0, qr i1, qr i2] h (DX9_doAll i1 i2 h) := by
  refine qMet.of (by decide +kernel) (Or.inr (Or.inl ⟨rfl, rfl⟩)) (Nat.le_of_ble_eq_true rfl) ?_
  show qS L xs cX9_doAll "BottlePost" 6 8 1 0 [(0, qr 0), (1, qr i1), (2, qr i2)] [] h (DX9_doAll i1 i2 h)
  unfold DX9_doAll
  refine S_iconst (a := 0) dX9_doAll_0 rfl (by decide) ?_
  refine S_istore_n (lv' := [(3, qi 0), (0, qr 0), (1, qr i1), (2, qr i2)]) dX9_doAll_1 rfl (by decide) rfl rfl ?_
  refine S_sub [1, 2, 3, 0] rfl ?_
  exact TX9_doAll_l2 LF i1 i2 0 t1 t2 h
def DX9_drawn (a0 : Int) (h : qH) : Option (Int × qH) := some (qush a0 16, h)
set_option maxRecDepth 100000 in
theorem TX9_drawn {L : Nat} {xs : Nat → Int32} (a0 : Int) (h : qH) : qMet L xs yX9_drawn cX9_drawn 1 (some .int) 1 1 [qi a0] h (DX9_drawn a0 h) := by
  refine qMet.of (by decide +kernel) (Or.inr (Or.inl ⟨rfl, rfl⟩)) (Nat.le_of_ble_eq_true rfl) ?_
  show qS L xs cX9_drawn "BottlePost" 1 1 1 0 [(0, qi a0)] [] h (DX9_drawn a0 h)
  unfold DX9_drawn
  refine S_iload_n 0 dX9_drawn_0 rfl rfl rfl ?_
  refine S_bipush (a := 16) dX9_drawn_1 rfl (by decide) (by decide) ?_
  refine S_iushr dX9_drawn_3 rfl ?_
  exact S_iret dX9_drawn_4
def DX9_eddy_l41 : Nat → Int → Int → qH → Option (Int × qH)
  | 0, _, _, _ => none
  | n + 1, a1, a3, h => (if 200 < a3 then some ((-1), h) else (qbd (DX2_go 156 (qw (qw (h.1 24 2 + a3) - 1)) h) fun r1 h2 => (if h2.1 156 0 = 0 then (if ¬ h2.1 156 1 = a1 then ((DX9_eddy_l41 n) a1 (qw (a3 + 1)) h2) else (qbd (DX1_phaseOf 5 a3 h2) fun r4 h5 => (if ¬ r4 = 0 then ((DX9_eddy_l41 n) a1 (qw (a3 + 1)) h5) else (qbd (DX1_moonOf 5 a3 h5) fun r7 h8 => (if ¬ r7 = 0 then ((DX9_eddy_l41 n) a1 (qw (a3 + 1)) h8) else some (a3, h8)))))) else some ((-1), h2))))
set_option maxRecDepth 100000 in
theorem TX9_eddy_l41 {L : Nat} {xs : Nat → Int32} : ∀ (n : Nat) (a1 : Int) (a3 : Int) (h : qH), qS L xs cX9_eddy "BottlePost" 4 5 1 41 [(0, qr 0), (1, qi a1), (3, qi a3)] [] h (DX9_eddy_l41 n a1 a3 h) := by
  intro n
  induction n with
  | zero =>
    intro a1 a3 h
    exact S_none
  | succ n ih =>
    intro a1 a3 h
    rw [DX9_eddy_l41.eq_2]
    refine S_iload_n 2 dX9_eddy_41 rfl rfl rfl ?_
    refine S_sipush (a := 200) dX9_eddy_42 rfl (by decide) (by decide) ?_
    refine S_icmp_gt (tgt := 123) dX9_eddy_45 (by decide) rfl (fun _ => ?_) (fun _ => ?_)
    · refine S_iconst (a := (-1)) dX9_eddy_123 rfl (by decide) ?_
      exact S_iret dX9_eddy_124
    · refine S_aload_n 0 dX9_eddy_48 rfl rfl rfl ?_
      refine S_getr (j := 4) (o := 4) 3 qC_9 (by decide) (by decide) qk_0 rfl rfl (by decide) tw_384 dX9_eddy_49 rfl ?_
      refine S_aload_n 0 dX9_eddy_52 rfl rfl rfl ?_
      refine S_getr (j := 156) (o := 156) 8 qC_9 (by decide) (by decide) qk_0 rfl rfl (by decide) tw_389 dX9_eddy_53 rfl ?_
      refine S_aload_n 0 dX9_eddy_56 rfl rfl rfl ?_
      refine S_getr (j := 24) (o := 24) 5 qC_9 (by decide) (by decide) qk_0 rfl rfl (by decide) tw_386 dX9_eddy_57 rfl ?_
      refine S_geti 2 qC_7 (by decide) (by decide) qk_24 tw_276 dX9_eddy_60 rfl ?_
      refine S_iload_n 2 dX9_eddy_63 rfl rfl rfl ?_
      refine S_iadd dX9_eddy_64 rfl ?_
      refine S_iconst (a := 1) dX9_eddy_65 rfl (by decide) ?_
      refine S_isub dX9_eddy_66 rfl ?_
      refine S_callV_0 (as := [qr 156, qi (qw (qw (h.1 24 2 + a3) - 1))]) (st := []) (fun _ => rfl) (TX2_go 156 (qw (qw (h.1 24 2 + a3) - 1)) qk_156 h) yv_X2_go tw_1138 qC_2 qk_4 (by decide) rfl rfl (Nat.le_of_ble_eq_true rfl) dX9_eddy_67 rfl (fun r1 h2 e3 => ?_)
      refine S_aload_n 0 dX9_eddy_70 rfl rfl rfl ?_
      refine S_getr (j := 156) (o := 156) 8 qC_9 (by decide) (by decide) qk_0 rfl rfl (by decide) tw_389 dX9_eddy_71 rfl ?_
      refine S_geti 0 qC_0 (by decide) (by decide) qk_156 tw_195 dX9_eddy_74 rfl ?_
      refine S_if_eq (tgt := 82) dX9_eddy_77 (by decide) rfl (fun _ => ?_) (fun _ => ?_)
      · refine S_aload_n 0 dX9_eddy_82 rfl rfl rfl ?_
        refine S_getr (j := 156) (o := 156) 8 qC_9 (by decide) (by decide) qk_0 rfl rfl (by decide) tw_389 dX9_eddy_83 rfl ?_
        refine S_geti 1 qC_0 (by decide) (by decide) qk_156 tw_199 dX9_eddy_86 rfl ?_
        refine S_iload_n 1 dX9_eddy_89 rfl rfl rfl ?_
        refine S_icmp_ne (tgt := 117) dX9_eddy_90 (by decide) rfl (fun _ => ?_) (fun _ => ?_)
        · refine S_iinc (lv' := [(3, qi (qw (a3 + 1))), (0, qr 0), (1, qi a1)]) 2 dX9_eddy_117 rfl (by decide) rfl rfl ?_
          refine S_goto (pc' := 41) dX9_eddy_120 (by decide) ?_
          refine S_sub [1, 2, 0] rfl ?_
          exact ih a1 (qw (a3 + 1)) h2
        · refine S_aload_n 0 dX9_eddy_93 rfl rfl rfl ?_
          refine S_getr (j := 5) (o := 5) 4 qC_9 (by decide) (by decide) qk_0 rfl rfl (by decide) tw_385 dX9_eddy_94 rfl ?_
          refine S_iload_n 2 dX9_eddy_97 rfl rfl rfl ?_
          refine S_callV_i (as := [qi a3]) (st := []) (fun _ => rfl) (TX1_phaseOf 5 a3 qk_5 h2) yv_X1_phaseOf tw_1139 qC_1 qk_5 (by decide) rfl rfl (Nat.le_of_ble_eq_true rfl) dX9_eddy_98 rfl (fun r4 h5 e6 => ?_)
          refine S_if_ne (tgt := 117) dX9_eddy_101 (by decide) rfl (fun _ => ?_) (fun _ => ?_)
          · refine S_iinc (lv' := [(3, qi (qw (a3 + 1))), (0, qr 0), (1, qi a1)]) 2 dX9_eddy_117 rfl (by decide) rfl rfl ?_
            refine S_goto (pc' := 41) dX9_eddy_120 (by decide) ?_
            refine S_sub [1, 2, 0] rfl ?_
            exact ih a1 (qw (a3 + 1)) h5
          · refine S_aload_n 0 dX9_eddy_104 rfl rfl rfl ?_
            refine S_getr (j := 5) (o := 5) 4 qC_9 (by decide) (by decide) qk_0 rfl rfl (by decide) tw_385 dX9_eddy_105 rfl ?_
            refine S_iload_n 2 dX9_eddy_108 rfl rfl rfl ?_
            refine S_callV_i (as := [qi a3]) (st := []) (fun _ => rfl) (TX1_moonOf 5 a3 qk_5 h5) yv_X1_moonOf tw_1140 qC_1 qk_5 (by decide) rfl rfl (Nat.le_of_ble_eq_true rfl) dX9_eddy_109 rfl (fun r7 h8 e9 => ?_)
            refine S_if_ne (tgt := 117) dX9_eddy_112 (by decide) rfl (fun _ => ?_) (fun _ => ?_)
            · refine S_iinc (lv' := [(3, qi (qw (a3 + 1))), (0, qr 0), (1, qi a1)]) 2 dX9_eddy_117 rfl (by decide) rfl rfl ?_
              refine S_goto (pc' := 41) dX9_eddy_120 (by decide) ?_
              refine S_sub [1, 2, 0] rfl ?_
              exact ih a1 (qw (a3 + 1)) h8
            · refine S_iload_n 2 dX9_eddy_115 rfl rfl rfl ?_
              exact S_iret dX9_eddy_116
      · refine S_iconst (a := (-1)) dX9_eddy_80 rfl (by decide) ?_
        exact S_iret dX9_eddy_81
def DX9_eddy (a1 : Int) (a2 : Int) (h : qH) : Option (Int × qH) := (qbd (DX1_isCell 5 a1 h) fun r10 h11 => (if ¬ r10 = 0 then (qbd (DX1_isOpen 5 a1 h11) fun r13 h14 => (if ¬ r13 = 0 then (qbd (DX0_launch 156 (-1) (-1) a2 a1 h14) fun r16 h17 => (DX9_eddy_l41 LF a1 1 h17)) else some ((-5), h14))) else some ((-2), h11)))
set_option maxRecDepth 100000 in
theorem TX9_eddy {L : Nat} {xs : Nat → Int32} (a1 : Int) (a2 : Int) (h : qH) : qMet L xs yX9_eddy cX9_eddy 4 (some .int) 1 5 [qr 0, qi a1, qi a2] h (DX9_eddy a1 a2 h) := by
  refine qMet.of (by decide +kernel) (Or.inr (Or.inl ⟨rfl, rfl⟩)) (Nat.le_of_ble_eq_true rfl) ?_
  show qS L xs cX9_eddy "BottlePost" 4 5 1 0 [(0, qr 0), (1, qi a1), (2, qi a2)] [] h (DX9_eddy a1 a2 h)
  unfold DX9_eddy
  refine S_aload_n 0 dX9_eddy_0 rfl rfl rfl ?_
  refine S_getr (j := 5) (o := 5) 4 qC_9 (by decide) (by decide) qk_0 rfl rfl (by decide) tw_385 dX9_eddy_1 rfl ?_
  refine S_iload_n 1 dX9_eddy_4 rfl rfl rfl ?_
  refine S_callV_i (as := [qi a1]) (st := []) (fun _ => rfl) (TX1_isCell 5 a1 qk_5 h) yv_X1_isCell tw_756 qC_1 qk_5 (by decide) rfl rfl (Nat.le_of_ble_eq_true rfl) dX9_eddy_5 rfl (fun r10 h11 e12 => ?_)
  refine S_if_ne (tgt := 14) dX9_eddy_8 (by decide) rfl (fun _ => ?_) (fun _ => ?_)
  · refine S_aload_n 0 dX9_eddy_14 rfl rfl rfl ?_
    refine S_getr (j := 5) (o := 5) 4 qC_9 (by decide) (by decide) qk_0 rfl rfl (by decide) tw_385 dX9_eddy_15 rfl ?_
    refine S_iload_n 1 dX9_eddy_18 rfl rfl rfl ?_
    refine S_callV_i (as := [qi a1]) (st := []) (fun _ => rfl) (TX1_isOpen 5 a1 qk_5 h11) yv_X1_isOpen tw_910 qC_1 qk_5 (by decide) rfl rfl (Nat.le_of_ble_eq_true rfl) dX9_eddy_19 rfl (fun r13 h14 e15 => ?_)
    refine S_if_ne (tgt := 28) dX9_eddy_22 (by decide) rfl (fun _ => ?_) (fun _ => ?_)
    · refine S_aload_n 0 dX9_eddy_28 rfl rfl rfl ?_
      refine S_getr (j := 156) (o := 156) 8 qC_9 (by decide) (by decide) qk_0 rfl rfl (by decide) tw_389 dX9_eddy_29 rfl ?_
      refine S_iconst (a := (-1)) dX9_eddy_32 rfl (by decide) ?_
      refine S_iconst (a := (-1)) dX9_eddy_33 rfl (by decide) ?_
      refine S_iload_n 2 dX9_eddy_34 rfl rfl rfl ?_
      refine S_iload_n 1 dX9_eddy_35 rfl rfl rfl ?_
      refine S_callV_0 (as := [qi (-1), qi (-1), qi a2, qi a1]) (st := []) (fun _ => rfl) (TX0_launch 156 (-1) (-1) a2 a1 qk_156 h14) yv_X0_launch tw_1133 qC_0 qk_156 (by decide) rfl rfl (Nat.le_of_ble_eq_true rfl) dX9_eddy_36 rfl (fun r16 h17 e18 => ?_)
      refine S_iconst (a := 1) dX9_eddy_39 rfl (by decide) ?_
      refine S_istore_n (lv' := [(3, qi 1), (0, qr 0), (1, qi a1), (2, qi a2)]) dX9_eddy_40 rfl (by decide) rfl rfl ?_
      refine S_sub [1, 2, 0] rfl ?_
      exact TX9_eddy_l41 LF a1 1 h17
    · refine S_bipush (a := (-5)) dX9_eddy_25 rfl (by decide) (by decide) ?_
      exact S_iret dX9_eddy_27
  · refine S_bipush (a := (-2)) dX9_eddy_11 rfl (by decide) (by decide) ?_
    exact S_iret dX9_eddy_13
def DX9_fate (a1 : Int) (a2 : Int) (h : qH) : Option (Int × qH) := (qbd (DX7_has 24 a1 h) fun r1 h2 => (if r1 = 0 then some ((-8), h2) else (if a2 < 0 then some ((-8), h2) else (if a2 ≤ 2 then (if 0 ≤ a1 ∧ a1 < 8 then (qbd (DX0_takeFrom 156 (26 + a1.toNat) h2) fun r6 h7 => (qbd (DX2_settle 156 (h7.1 24 2) h7) fun r9 h10 => (if ¬ a2 = 0 then (if ¬ a2 = 1 then some (h10.1 156 7, h10) else some (r9, h10)) else some (h10.1 156 0, h10)))) else none) else some ((-8), h2)))))
set_option maxRecDepth 100000 in
theorem TX9_fate {L : Nat} {xs : Nat → Int32} (a1 : Int) (a2 : Int) (h : qH) : qMet L xs yX9_fate cX9_fate 4 (some .int) 1 7 [qr 0, qi a1, qi a2] h (DX9_fate a1 a2 h) := by
  refine qMet.of (by decide +kernel) (Or.inr (Or.inl ⟨rfl, rfl⟩)) (Nat.le_of_ble_eq_true rfl) ?_
  show qS L xs cX9_fate "BottlePost" 4 7 1 0 [(0, qr 0), (1, qi a1), (2, qi a2)] [] h (DX9_fate a1 a2 h)
  unfold DX9_fate
  refine S_aload_n 0 dX9_fate_0 rfl rfl rfl ?_
  refine S_getr (j := 24) (o := 24) 5 qC_9 (by decide) (by decide) qk_0 rfl rfl (by decide) tw_386 dX9_fate_1 rfl ?_
  refine S_iload_n 1 dX9_fate_4 rfl rfl rfl ?_
  refine S_callV_i (as := [qi a1]) (st := []) (fun _ => rfl) (TX7_has 24 a1 qk_24 h) yv_X7_has tw_822 qC_7 qk_24 (by decide) rfl rfl (Nat.le_of_ble_eq_true rfl) dX9_fate_5 rfl (fun r1 h2 e3 => ?_)
  refine S_if_eq (tgt := 20) dX9_fate_8 (by decide) rfl (fun _ => ?_) (fun _ => ?_)
  · refine S_bipush (a := (-8)) dX9_fate_20 rfl (by decide) (by decide) ?_
    exact S_iret dX9_fate_22
  · refine S_iload_n 2 dX9_fate_11 rfl rfl rfl ?_
    refine S_if_lt (tgt := 20) dX9_fate_12 (by decide) rfl (fun _ => ?_) (fun _ => ?_)
    · refine S_bipush (a := (-8)) dX9_fate_20 rfl (by decide) (by decide) ?_
      exact S_iret dX9_fate_22
    · refine S_iload_n 2 dX9_fate_15 rfl rfl rfl ?_
      refine S_iconst (a := 2) dX9_fate_16 rfl (by decide) ?_
      refine S_icmp_le (tgt := 23) dX9_fate_17 (by decide) rfl (fun _ => ?_) (fun _ => ?_)
      · refine S_aload_n 0 dX9_fate_23 rfl rfl rfl ?_
        refine S_getr (j := 156) (o := 156) 8 qC_9 (by decide) (by decide) qk_0 rfl rfl (by decide) tw_389 dX9_fate_24 rfl ?_
        refine S_aload_n 0 dX9_fate_27 rfl rfl rfl ?_
        refine S_getr (j := 24) (o := 24) 5 qC_9 (by decide) (by decide) qk_0 rfl rfl (by decide) tw_386 dX9_fate_28 rfl ?_
        refine S_getr (j := 25) (o := 1) 0 qC_7 (by decide) (by decide) qk_24 rfl rfl (by decide) tw_272 dX9_fate_31 rfl ?_
        refine S_iload_n 1 dX9_fate_34 rfl rfl rfl ?_
        refine S_aald (j := (26 + a1.toNat)) (C := "BottlePost$Bottle") (N := 8) qk_25 (by decide) (by decide) (fun _ => rfl) rfl dX9_fate_35 rfl (fun g4 g5 => (qel_25 qk_25 g4 g5).2) (fun g4 g5 => ?_)
        refine S_callV_0 (as := [qr (26 + a1.toNat)]) (st := []) (fun _ => rfl) (TX0_takeFrom 156 (26 + a1.toNat) qk_156 (qel_25 qk_25 g4 g5).1 h2) yv_X0_takeFrom tw_991 qC_0 qk_156 (by decide) rfl rfl (Nat.le_of_ble_eq_true rfl) dX9_fate_36 rfl (fun r6 h7 e8 => ?_)
        refine S_aload_n 0 dX9_fate_39 rfl rfl rfl ?_
        refine S_getr (j := 4) (o := 4) 3 qC_9 (by decide) (by decide) qk_0 rfl rfl (by decide) tw_384 dX9_fate_40 rfl ?_
        refine S_aload_n 0 dX9_fate_43 rfl rfl rfl ?_
        refine S_getr (j := 156) (o := 156) 8 qC_9 (by decide) (by decide) qk_0 rfl rfl (by decide) tw_389 dX9_fate_44 rfl ?_
        refine S_aload_n 0 dX9_fate_47 rfl rfl rfl ?_
        refine S_getr (j := 24) (o := 24) 5 qC_9 (by decide) (by decide) qk_0 rfl rfl (by decide) tw_386 dX9_fate_48 rfl ?_
        refine S_geti 2 qC_7 (by decide) (by decide) qk_24 tw_276 dX9_fate_51 rfl ?_
        refine S_callV_i (as := [qr 156, qi (h7.1 24 2)]) (st := []) (fun _ => rfl) (TX2_settle 156 (h7.1 24 2) qk_156 h7) yv_X2_settle tw_992 qC_2 qk_4 (by decide) rfl rfl (Nat.le_of_ble_eq_true rfl) dX9_fate_54 rfl (fun r9 h10 e11 => ?_)
        refine S_istore_n (lv' := [(3, qi r9), (0, qr 0), (1, qi a1), (2, qi a2)]) dX9_fate_57 rfl (by decide) rfl rfl ?_
        refine S_iload_n 3 dX9_fate_58 rfl rfl rfl ?_
        refine S_if_ne (tgt := 70) dX9_fate_59 (by decide) rfl (fun _ => ?_) (fun _ => ?_)
        · refine S_iload_n 3 dX9_fate_70 rfl rfl rfl ?_
          refine S_iconst (a := 1) dX9_fate_71 rfl (by decide) ?_
          refine S_icmp_ne (tgt := 79) dX9_fate_72 (by decide) rfl (fun _ => ?_) (fun _ => ?_)
          · refine S_aload_n 1 dX9_fate_79 rfl rfl rfl ?_
            refine S_getr (j := 156) (o := 156) 8 qC_9 (by decide) (by decide) qk_0 rfl rfl (by decide) tw_389 dX9_fate_80 rfl ?_
            refine S_geti 7 qC_0 (by decide) (by decide) qk_156 tw_218 dX9_fate_83 rfl ?_
            exact S_iret dX9_fate_86
          · refine S_iload_n 0 dX9_fate_75 rfl rfl rfl ?_
            refine S_goto (pc' := 86) dX9_fate_76 (by decide) ?_
            exact S_iret dX9_fate_86
        · refine S_aload_n 1 dX9_fate_62 rfl rfl rfl ?_
          refine S_getr (j := 156) (o := 156) 8 qC_9 (by decide) (by decide) qk_0 rfl rfl (by decide) tw_389 dX9_fate_63 rfl ?_
          refine S_geti 0 qC_0 (by decide) (by decide) qk_156 tw_195 dX9_fate_66 rfl ?_
          exact S_iret dX9_fate_69
      · refine S_bipush (a := (-8)) dX9_fate_20 rfl (by decide) (by decide) ?_
        exact S_iret dX9_fate_22
def DX9_fault (a1 : Int) (h : qH) : Option (Int × qH) := (if ¬ a1 = 0 then (if ¬ a1 = 1 then some ((-1), h) else some (h.1 2 2, h)) else some (h.1 2 1, h))
set_option maxRecDepth 100000 in
theorem TX9_fault {L : Nat} {xs : Nat → Int32} (a1 : Int) (h : qH) : qMet L xs yX9_fault cX9_fault 2 (some .int) 1 1 [qr 0, qi a1] h (DX9_fault a1 h) := by
  refine qMet.of (by decide +kernel) (Or.inr (Or.inl ⟨rfl, rfl⟩)) (Nat.le_of_ble_eq_true rfl) ?_
  show qS L xs cX9_fault "BottlePost" 2 1 1 0 [(0, qr 0), (1, qi a1)] [] h (DX9_fault a1 h)
  unfold DX9_fault
  refine S_iload_n 1 dX9_fault_0 rfl rfl rfl ?_
  refine S_if_ne (tgt := 12) dX9_fault_1 (by decide) rfl (fun _ => ?_) (fun _ => ?_)
  · refine S_iload_n 1 dX9_fault_12 rfl rfl rfl ?_
    refine S_iconst (a := 1) dX9_fault_13 rfl (by decide) ?_
    refine S_icmp_ne (tgt := 27) dX9_fault_14 (by decide) rfl (fun _ => ?_) (fun _ => ?_)
    · refine S_iconst (a := (-1)) dX9_fault_27 rfl (by decide) ?_
      exact S_iret dX9_fault_28
    · refine S_aload_n 0 dX9_fault_17 rfl rfl rfl ?_
      refine S_getr (j := 2) (o := 2) 2 qC_9 (by decide) (by decide) qk_0 rfl rfl (by decide) tw_383 dX9_fault_18 rfl ?_
      refine S_geti 2 qC_4 (by decide) (by decide) qk_2 tw_149 dX9_fault_21 rfl ?_
      refine S_goto (pc' := 28) dX9_fault_24 (by decide) ?_
      exact S_iret dX9_fault_28
  · refine S_aload_n 0 dX9_fault_4 rfl rfl rfl ?_
    refine S_getr (j := 2) (o := 2) 2 qC_9 (by decide) (by decide) qk_0 rfl rfl (by decide) tw_383 dX9_fault_5 rfl ?_
    refine S_geti 1 qC_4 (by decide) (by decide) qk_2 tw_147 dX9_fault_8 rfl ?_
    exact S_iret dX9_fault_11
def DX9_tapeFour_l3 : Nat → Int → Int → qH → Option (Int × qH)
  | 0, _, _, _ => none
  | n + 1, a1, a2, h => (if a2 < 0 then some (0, h) else (if h.1 0 1 < 0 then ((DX9_tapeFour_l3 n) a1 (qw (a2 + (-8))) h) else (if 900 ≤ h.1 0 1 then ((DX9_tapeFour_l3 n) a1 (qw (a2 + (-8))) h) else (if 0 ≤ h.1 0 1 ∧ h.1 0 1 < 900 then qlt (qu h 1 (h.1 0 1).toNat (qb8 (qb8 (qshr a1 a2)))) fun h1 => (qlt (qu h1 0 1 (qw (h1.1 0 1 + 1))) fun h2 => ((DX9_tapeFour_l3 n) a1 (qw (a2 + (-8))) h2)) else none))))
set_option maxRecDepth 100000 in
theorem TX9_tapeFour_l3 {L : Nat} {xs : Nat → Int32} : ∀ (n : Nat) (a1 : Int) (a2 : Int) (h : qH), qS L xs cX9_tapeFour "BottlePost" 3 1 0 3 [(0, qr 0), (1, qi a1), (2, qi a2)] [] h (DX9_tapeFour_l3 n a1 a2 h) := by
  intro n
  induction n with
  | zero =>
    intro a1 a2 h
    exact S_none
  | succ n ih =>
    intro a1 a2 h
    rw [DX9_tapeFour_l3.eq_2]
    refine S_iload_n 2 dX9_tapeFour_3 rfl rfl rfl ?_
    refine S_if_lt (tgt := 55) dX9_tapeFour_4 (by decide) rfl (fun _ => ?_) (fun _ => ?_)
    · exact S_vret dX9_tapeFour_55
    · refine S_aload_n 0 dX9_tapeFour_7 rfl rfl rfl ?_
      refine S_geti 1 qC_9 (by decide) (by decide) qk_0 tw_382 dX9_tapeFour_8 rfl ?_
      refine S_if_lt (tgt := 49) dX9_tapeFour_11 (by decide) rfl (fun _ => ?_) (fun _ => ?_)
      · refine S_iinc (lv' := [(2, qi (qw (a2 + (-8)))), (0, qr 0), (1, qi a1)]) 2 dX9_tapeFour_49 rfl (by decide) rfl rfl ?_
        refine S_goto (pc' := 3) dX9_tapeFour_52 (by decide) ?_
        refine S_sub [1, 2, 0] rfl ?_
        exact ih a1 (qw (a2 + (-8))) h
      · refine S_aload_n 0 dX9_tapeFour_14 rfl rfl rfl ?_
        refine S_geti 1 qC_9 (by decide) (by decide) qk_0 tw_382 dX9_tapeFour_15 rfl ?_
        refine S_aload_n 0 dX9_tapeFour_18 rfl rfl rfl ?_
        refine S_getr (j := 1) (o := 1) 0 qC_9 (by decide) (by decide) qk_0 rfl rfl (by decide) tw_381 dX9_tapeFour_19 rfl ?_
        refine S_alen (N := 900) qk_1 (by decide) (by decide) rfl (by decide) dX9_tapeFour_22 rfl ?_
        refine S_icmp_ge (tgt := 49) dX9_tapeFour_23 (by decide) rfl (fun _ => ?_) (fun _ => ?_)
        · refine S_iinc (lv' := [(2, qi (qw (a2 + (-8)))), (0, qr 0), (1, qi a1)]) 2 dX9_tapeFour_49 rfl (by decide) rfl rfl ?_
          refine S_goto (pc' := 3) dX9_tapeFour_52 (by decide) ?_
          refine S_sub [1, 2, 0] rfl ?_
          exact ih a1 (qw (a2 + (-8))) h
        · refine S_aload_n 0 dX9_tapeFour_26 rfl rfl rfl ?_
          refine S_getr (j := 1) (o := 1) 0 qC_9 (by decide) (by decide) qk_0 rfl rfl (by decide) tw_381 dX9_tapeFour_27 rfl ?_
          refine S_aload_n 0 dX9_tapeFour_30 rfl rfl rfl ?_
          refine S_geti 1 qC_9 (by decide) (by decide) qk_0 tw_382 dX9_tapeFour_31 rfl ?_
          refine S_iload_n 1 dX9_tapeFour_34 rfl rfl rfl ?_
          refine S_iload_n 2 dX9_tapeFour_35 rfl rfl rfl ?_
          refine S_ishr dX9_tapeFour_36 rfl ?_
          refine S_i2b dX9_tapeFour_37 rfl ?_
          refine S_bast (N := 900) qk_1 rfl dX9_tapeFour_38 rfl (fun _ _ => ?_)
          refine S_lh (fun h1 => ?_)
          refine S_aload_n 0 dX9_tapeFour_39 rfl rfl rfl ?_
          refine S_dup dX9_tapeFour_40 rfl rfl ?_
          refine S_geti 1 qC_9 (by decide) (by decide) qk_0 tw_382 dX9_tapeFour_41 rfl ?_
          refine S_iconst (a := 1) dX9_tapeFour_44 rfl (by decide) ?_
          refine S_iadd dX9_tapeFour_45 rfl ?_
          refine S_puti 1 qC_9 (by decide) (by decide) rfl rfl qk_0 (by decide) tw_382 dX9_tapeFour_46 rfl ?_
          refine S_lh (fun h2 => ?_)
          refine S_iinc (lv' := [(2, qi (qw (a2 + (-8)))), (0, qr 0), (1, qi a1)]) 2 dX9_tapeFour_49 rfl (by decide) rfl rfl ?_
          refine S_goto (pc' := 3) dX9_tapeFour_52 (by decide) ?_
          refine S_sub [1, 2, 0] rfl ?_
          exact ih a1 (qw (a2 + (-8))) h2
def DX9_tapeFour (a1 : Int) (h : qH) : Option (Int × qH) := (DX9_tapeFour_l3 LF a1 24 h)
set_option maxRecDepth 100000 in
theorem TX9_tapeFour {L : Nat} {xs : Nat → Int32} (a1 : Int) (h : qH) : qMet L xs yX9_tapeFour cX9_tapeFour 3 (none) 0 1 [qr 0, qi a1] h (DX9_tapeFour a1 h) := by
  refine qMet.of (by decide +kernel) (Or.inl ⟨rfl, rfl⟩) (Nat.le_of_ble_eq_true rfl) ?_
  show qS L xs cX9_tapeFour "BottlePost" 3 1 0 0 [(0, qr 0), (1, qi a1)] [] h (DX9_tapeFour a1 h)
  unfold DX9_tapeFour
  refine S_bipush (a := 24) dX9_tapeFour_0 rfl (by decide) (by decide) ?_
  refine S_istore_n (lv' := [(2, qi 24), (0, qr 0), (1, qi a1)]) dX9_tapeFour_2 rfl (by decide) rfl rfl ?_
  refine S_sub [1, 2, 0] rfl ?_
  exact TX9_tapeFour_l3 LF a1 24 h
def DX9_feed (a1 : Int) (a2 : Int) (a3 : Int) (a4 : Int) (a5 : Int) (h : qH) : Option (Int × qH) := (if qw (h.1 0 1 + 20) ≤ 900 then (qbd (DX9_tapeFour a1 h) fun r1 h2 => (qbd (DX9_tapeFour a2 h2) fun r4 h5 => (qbd (DX9_tapeFour a3 h5) fun r7 h8 => (qbd (DX9_tapeFour a4 h8) fun r10 h11 => (qbd (DX9_tapeFour a5 h11) fun r13 h14 => some (h14.1 0 1, h14)))))) else some ((-5), h))
set_option maxRecDepth 100000 in
theorem TX9_feed {L : Nat} {xs : Nat → Int32} (a1 : Int) (a2 : Int) (a3 : Int) (a4 : Int) (a5 : Int) (h : qH) : qMet L xs yX9_feed cX9_feed 6 (some .int) 1 2 [qr 0, qi a1, qi a2, qi a3, qi a4, qi a5] h (DX9_feed a1 a2 a3 a4 a5 h) := by
  refine qMet.of (by decide +kernel) (Or.inr (Or.inl ⟨rfl, rfl⟩)) (Nat.le_of_ble_eq_true rfl) ?_
  show qS L xs cX9_feed "BottlePost" 6 2 1 0 [(0, qr 0), (1, qi a1), (2, qi a2), (3, qi a3), (4, qi a4), (5, qi a5)] [] h (DX9_feed a1 a2 a3 a4 a5 h)
  unfold DX9_feed
  refine S_aload_n 0 dX9_feed_0 rfl rfl rfl ?_
  refine S_geti 1 qC_9 (by decide) (by decide) qk_0 tw_382 dX9_feed_1 rfl ?_
  refine S_bipush (a := 20) dX9_feed_4 rfl (by decide) (by decide) ?_
  refine S_iadd dX9_feed_6 rfl ?_
  refine S_sipush (a := 900) dX9_feed_7 rfl (by decide) (by decide) ?_
  refine S_icmp_le (tgt := 16) dX9_feed_10 (by decide) rfl (fun _ => ?_) (fun _ => ?_)
  · refine S_aload_n 0 dX9_feed_16 rfl rfl rfl ?_
    refine S_iload_n 1 dX9_feed_17 rfl rfl rfl ?_
    refine S_callV_0 (as := [qi a1]) (st := []) (fun _ => rfl) (TX9_tapeFour a1 h) yv_X9_tapeFour tw_434 qC_9 qk_0 (by decide) rfl rfl (Nat.le_of_ble_eq_true rfl) dX9_feed_18 rfl (fun r1 h2 e3 => ?_)
    refine S_aload_n 0 dX9_feed_21 rfl rfl rfl ?_
    refine S_iload_n 2 dX9_feed_22 rfl rfl rfl ?_
    refine S_callV_0 (as := [qi a2]) (st := []) (fun _ => rfl) (TX9_tapeFour a2 h2) yv_X9_tapeFour tw_434 qC_9 qk_0 (by decide) rfl rfl (Nat.le_of_ble_eq_true rfl) dX9_feed_23 rfl (fun r4 h5 e6 => ?_)
    refine S_aload_n 0 dX9_feed_26 rfl rfl rfl ?_
    refine S_iload_n 3 dX9_feed_27 rfl rfl rfl ?_
    refine S_callV_0 (as := [qi a3]) (st := []) (fun _ => rfl) (TX9_tapeFour a3 h5) yv_X9_tapeFour tw_434 qC_9 qk_0 (by decide) rfl rfl (Nat.le_of_ble_eq_true rfl) dX9_feed_28 rfl (fun r7 h8 e9 => ?_)
    refine S_aload_n 0 dX9_feed_31 rfl rfl rfl ?_
    refine S_iload 4 dX9_feed_32 rfl rfl ?_
    refine S_callV_0 (as := [qi a4]) (st := []) (fun _ => rfl) (TX9_tapeFour a4 h8) yv_X9_tapeFour tw_434 qC_9 qk_0 (by decide) rfl rfl (Nat.le_of_ble_eq_true rfl) dX9_feed_34 rfl (fun r10 h11 e12 => ?_)
    refine S_aload_n 0 dX9_feed_37 rfl rfl rfl ?_
    refine S_iload 5 dX9_feed_38 rfl rfl ?_
    refine S_callV_0 (as := [qi a5]) (st := []) (fun _ => rfl) (TX9_tapeFour a5 h11) yv_X9_tapeFour tw_434 qC_9 qk_0 (by decide) rfl rfl (Nat.le_of_ble_eq_true rfl) dX9_feed_40 rfl (fun r13 h14 e15 => ?_)
    refine S_aload_n 0 dX9_feed_43 rfl rfl rfl ?_
    refine S_geti 1 qC_9 (by decide) (by decide) qk_0 tw_382 dX9_feed_44 rfl ?_
    exact S_iret dX9_feed_47
  · refine S_bipush (a := (-5)) dX9_feed_13 rfl (by decide) (by decide) ?_
    exact S_iret dX9_feed_15
def DX1_takeFrom (i0 : Nat) (i1 : Nat) (h : qH) : Option (Int × qH) := (qlt (qcp h (i1 + 1) (i0 + 1) 36) fun h1 => (qlt (qcp h1 (i1 + 2) (i0 + 2) 216) fun h2 => (qlt (qcp h2 (i1 + 3) (i0 + 3) 6) fun h3 => (qlt (qcp h3 (i1 + 4) (i0 + 4) 6) fun h4 => (qlt (qcp h4 (i1 + 5) (i0 + 5) 6) fun h5 => (qlt (qcp h5 (i1 + 6) (i0 + 6) 6) fun h6 => (qlt (qcp h6 (i1 + 7) (i0 + 7) 900) fun h7 => (qlt (qu h7 i0 7 (h7.1 i1 7)) fun h8 => (qlt (qu h8 i0 8 (h8.1 i1 8)) fun h9 => (qlt (qu h9 i0 9 (h9.1 i1 9)) fun h10 => (qlt (qu h10 i0 10 (h10.1 i1 10)) fun h11 => (qlt (qu h11 i0 11 (h11.1 i1 11)) fun h12 => (qlt (qu h12 i0 12 (h12.1 i1 12)) fun h13 => (qlt (qu h13 i0 13 (h13.1 i1 13)) fun h14 => (qlt (qu h14 i0 14 (h14.1 i1 14)) fun h15 => (qlt (qu h15 i0 15 (h15.1 i1 15)) fun h16 => (qlt (qu h16 i0 16 (h16.1 i1 16)) fun h17 => (qlt (qu h17 i0 17 (h17.1 i1 17)) fun h18 => (qlt (qu h18 i0 18 (h18.1 i1 18)) fun h19 => (qlt (qu h19 i0 19 (h19.1 i1 19)) fun h20 => some (0, h20)))))))))))))))))))))
set_option maxRecDepth 100000 in
theorem TX1_takeFrom {L : Nat} {xs : Nat → Int32} (i0 : Nat) (i1 : Nat) (t0 : qK i0 = (1, 20)) (t1 : qK i1 = (1, 20)) (h : qH) : qMet L xs yX1_takeFrom cX1_takeFrom 2 (none) 0 2 [qr i0, qr i1] h (DX1_takeFrom i0 i1 h) := by
  refine qMet.of (by decide +kernel) (Or.inl ⟨rfl, rfl⟩) (Nat.le_of_ble_eq_true rfl) ?_
  show qS L xs cX1_takeFrom "BottlePost$Chart" 2 2 0 0 [(0, qr i0), (1, qr i1)] [] h (DX1_takeFrom i0 i1 h)
  unfold DX1_takeFrom
  refine S_aload_n 1 dX1_takeFrom_0 rfl rfl rfl ?_
  refine S_getr (j := (i1 + 1)) (o := 1) 0 qC_1 (by decide) (by decide) t1 rfl rfl (qf_1_0 t1).2 tw_41 dX1_takeFrom_1 rfl ?_
  refine S_iconst (a := 0) dX1_takeFrom_4 rfl (by decide) ?_
  refine S_aload_n 0 dX1_takeFrom_5 rfl rfl rfl ?_
  refine S_getr (j := (i0 + 1)) (o := 1) 0 qC_1 (by decide) (by decide) t0 rfl rfl (qf_1_0 t0).2 tw_41 dX1_takeFrom_6 rfl ?_
  refine S_iconst (a := 0) dX1_takeFrom_9 rfl (by decide) ?_
  refine S_bipush (a := 36) dX1_takeFrom_10 rfl (by decide) (by decide) ?_
  refine S_acopy (n := 36) (qf_1_0 t1).1 (qf_1_0 t0).1 rfl (by decide) (by decide) (by decide) (by decide) (Nat.le_of_ble_eq_true rfl) tw_723 tw_725 tw_724 tw_19 dX1_takeFrom_12 rfl ?_
  refine S_lh (fun h1 => ?_)
  refine S_aload_n 1 dX1_takeFrom_15 rfl rfl rfl ?_
  refine S_getr (j := (i1 + 2)) (o := 2) 1 qC_1 (by decide) (by decide) t1 rfl rfl (qf_1_1 t1).2 tw_45 dX1_takeFrom_16 rfl ?_
  refine S_iconst (a := 0) dX1_takeFrom_19 rfl (by decide) ?_
  refine S_aload_n 0 dX1_takeFrom_20 rfl rfl rfl ?_
  refine S_getr (j := (i0 + 2)) (o := 2) 1 qC_1 (by decide) (by decide) t0 rfl rfl (qf_1_1 t0).2 tw_45 dX1_takeFrom_21 rfl ?_
  refine S_iconst (a := 0) dX1_takeFrom_24 rfl (by decide) ?_
  refine S_sipush (a := 216) dX1_takeFrom_25 rfl (by decide) (by decide) ?_
  refine S_acopy (n := 216) (qf_1_1 t1).1 (qf_1_1 t0).1 rfl (by decide) (by decide) (by decide) (by decide) (Nat.le_of_ble_eq_true rfl) tw_723 tw_725 tw_724 tw_19 dX1_takeFrom_28 rfl ?_
  refine S_lh (fun h2 => ?_)
  refine S_aload_n 1 dX1_takeFrom_31 rfl rfl rfl ?_
  refine S_getr (j := (i1 + 3)) (o := 3) 2 qC_1 (by decide) (by decide) t1 rfl rfl (qf_1_2 t1).2 tw_47 dX1_takeFrom_32 rfl ?_
  refine S_iconst (a := 0) dX1_takeFrom_35 rfl (by decide) ?_
  refine S_aload_n 0 dX1_takeFrom_36 rfl rfl rfl ?_
  refine S_getr (j := (i0 + 3)) (o := 3) 2 qC_1 (by decide) (by decide) t0 rfl rfl (qf_1_2 t0).2 tw_47 dX1_takeFrom_37 rfl ?_
  refine S_iconst (a := 0) dX1_takeFrom_40 rfl (by decide) ?_
  refine S_bipush (a := 6) dX1_takeFrom_41 rfl (by decide) (by decide) ?_
  refine S_acopy (n := 6) (qf_1_2 t1).1 (qf_1_2 t0).1 rfl (by decide) (by decide) (by decide) (by decide) (Nat.le_of_ble_eq_true rfl) tw_723 tw_725 tw_724 tw_19 dX1_takeFrom_43 rfl ?_
  refine S_lh (fun h3 => ?_)
  refine S_aload_n 1 dX1_takeFrom_46 rfl rfl rfl ?_
  refine S_getr (j := (i1 + 4)) (o := 4) 3 qC_1 (by decide) (by decide) t1 rfl rfl (qf_1_3 t1).2 tw_50 dX1_takeFrom_47 rfl ?_
  refine S_iconst (a := 0) dX1_takeFrom_50 rfl (by decide) ?_
  refine S_aload_n 0 dX1_takeFrom_51 rfl rfl rfl ?_
  refine S_getr (j := (i0 + 4)) (o := 4) 3 qC_1 (by decide) (by decide) t0 rfl rfl (qf_1_3 t0).2 tw_50 dX1_takeFrom_52 rfl ?_
  refine S_iconst (a := 0) dX1_takeFrom_55 rfl (by decide) ?_
  refine S_bipush (a := 6) dX1_takeFrom_56 rfl (by decide) (by decide) ?_
  refine S_acopy (n := 6) (qf_1_3 t1).1 (qf_1_3 t0).1 rfl (by decide) (by decide) (by decide) (by decide) (Nat.le_of_ble_eq_true rfl) tw_723 tw_725 tw_724 tw_19 dX1_takeFrom_58 rfl ?_
  refine S_lh (fun h4 => ?_)
  refine S_aload_n 1 dX1_takeFrom_61 rfl rfl rfl ?_
  refine S_getr (j := (i1 + 5)) (o := 5) 4 qC_1 (by decide) (by decide) t1 rfl rfl (qf_1_4 t1).2 tw_53 dX1_takeFrom_62 rfl ?_
  refine S_iconst (a := 0) dX1_takeFrom_65 rfl (by decide) ?_
  refine S_aload_n 0 dX1_takeFrom_66 rfl rfl rfl ?_
  refine S_getr (j := (i0 + 5)) (o := 5) 4 qC_1 (by decide) (by decide) t0 rfl rfl (qf_1_4 t0).2 tw_53 dX1_takeFrom_67 rfl ?_
  refine S_iconst (a := 0) dX1_takeFrom_70 rfl (by decide) ?_
  refine S_bipush (a := 6) dX1_takeFrom_71 rfl (by decide) (by decide) ?_
  refine S_acopy (n := 6) (qf_1_4 t1).1 (qf_1_4 t0).1 rfl (by decide) (by decide) (by decide) (by decide) (Nat.le_of_ble_eq_true rfl) tw_723 tw_725 tw_724 tw_19 dX1_takeFrom_73 rfl ?_
  refine S_lh (fun h5 => ?_)
  refine S_aload_n 1 dX1_takeFrom_76 rfl rfl rfl ?_
  refine S_getr (j := (i1 + 6)) (o := 6) 5 qC_1 (by decide) (by decide) t1 rfl rfl (qf_1_5 t1).2 tw_54 dX1_takeFrom_77 rfl ?_
  refine S_iconst (a := 0) dX1_takeFrom_80 rfl (by decide) ?_
  refine S_aload_n 0 dX1_takeFrom_81 rfl rfl rfl ?_
  refine S_getr (j := (i0 + 6)) (o := 6) 5 qC_1 (by decide) (by decide) t0 rfl rfl (qf_1_5 t0).2 tw_54 dX1_takeFrom_82 rfl ?_
  refine S_iconst (a := 0) dX1_takeFrom_85 rfl (by decide) ?_
  refine S_bipush (a := 6) dX1_takeFrom_86 rfl (by decide) (by decide) ?_
  refine S_acopy (n := 6) (qf_1_5 t1).1 (qf_1_5 t0).1 rfl (by decide) (by decide) (by decide) (by decide) (Nat.le_of_ble_eq_true rfl) tw_723 tw_725 tw_724 tw_19 dX1_takeFrom_88 rfl ?_
  refine S_lh (fun h6 => ?_)
  refine S_aload_n 1 dX1_takeFrom_91 rfl rfl rfl ?_
  refine S_getr (j := (i1 + 7)) (o := 7) 6 qC_1 (by decide) (by decide) t1 rfl rfl (qf_1_6 t1).2 tw_58 dX1_takeFrom_92 rfl ?_
  refine S_iconst (a := 0) dX1_takeFrom_95 rfl (by decide) ?_
  refine S_aload_n 0 dX1_takeFrom_96 rfl rfl rfl ?_
  refine S_getr (j := (i0 + 7)) (o := 7) 6 qC_1 (by decide) (by decide) t0 rfl rfl (qf_1_6 t0).2 tw_58 dX1_takeFrom_97 rfl ?_
  refine S_iconst (a := 0) dX1_takeFrom_100 rfl (by decide) ?_
  refine S_sipush (a := 900) dX1_takeFrom_101 rfl (by decide) (by decide) ?_
  refine S_acopy (n := 900) (qf_1_6 t1).1 (qf_1_6 t0).1 rfl (by decide) (by decide) (by decide) (by decide) (Nat.le_of_ble_eq_true rfl) tw_723 tw_725 tw_724 tw_19 dX1_takeFrom_104 rfl ?_
  refine S_lh (fun h7 => ?_)
  refine S_aload_n 0 dX1_takeFrom_107 rfl rfl rfl ?_
  refine S_aload_n 1 dX1_takeFrom_108 rfl rfl rfl ?_
  refine S_geti 7 qC_1 (by decide) (by decide) t1 tw_61 dX1_takeFrom_109 rfl ?_
  refine S_puti 7 qC_1 (by decide) (by decide) rfl rfl t0 (by decide) tw_61 dX1_takeFrom_112 rfl ?_
  refine S_lh (fun h8 => ?_)
  refine S_aload_n 0 dX1_takeFrom_115 rfl rfl rfl ?_
  refine S_aload_n 1 dX1_takeFrom_116 rfl rfl rfl ?_
  refine S_geti 8 qC_1 (by decide) (by decide) t1 tw_64 dX1_takeFrom_117 rfl ?_
  refine S_puti 8 qC_1 (by decide) (by decide) rfl rfl t0 (by decide) tw_64 dX1_takeFrom_120 rfl ?_
  refine S_lh (fun h9 => ?_)
  refine S_aload_n 0 dX1_takeFrom_123 rfl rfl rfl ?_
  refine S_aload_n 1 dX1_takeFrom_124 rfl rfl rfl ?_
  refine S_geti 9 qC_1 (by decide) (by decide) t1 tw_67 dX1_takeFrom_125 rfl ?_
  refine S_puti 9 qC_1 (by decide) (by decide) rfl rfl t0 (by decide) tw_67 dX1_takeFrom_128 rfl ?_
  refine S_lh (fun h10 => ?_)
  refine S_aload_n 0 dX1_takeFrom_131 rfl rfl rfl ?_
  refine S_aload_n 1 dX1_takeFrom_132 rfl rfl rfl ?_
  refine S_geti 10 qC_1 (by decide) (by decide) t1 tw_70 dX1_takeFrom_133 rfl ?_
  refine S_puti 10 qC_1 (by decide) (by decide) rfl rfl t0 (by decide) tw_70 dX1_takeFrom_136 rfl ?_
  refine S_lh (fun h11 => ?_)
  refine S_aload_n 0 dX1_takeFrom_139 rfl rfl rfl ?_
  refine S_aload_n 1 dX1_takeFrom_140 rfl rfl rfl ?_
  refine S_geti 11 qC_1 (by decide) (by decide) t1 tw_73 dX1_takeFrom_141 rfl ?_
  refine S_puti 11 qC_1 (by decide) (by decide) rfl rfl t0 (by decide) tw_73 dX1_takeFrom_144 rfl ?_
  refine S_lh (fun h12 => ?_)
  refine S_aload_n 0 dX1_takeFrom_147 rfl rfl rfl ?_
  refine S_aload_n 1 dX1_takeFrom_148 rfl rfl rfl ?_
  refine S_geti 12 qC_1 (by decide) (by decide) t1 tw_77 dX1_takeFrom_149 rfl ?_
  refine S_puti 12 qC_1 (by decide) (by decide) rfl rfl t0 (by decide) tw_77 dX1_takeFrom_152 rfl ?_
  refine S_lh (fun h13 => ?_)
  refine S_aload_n 0 dX1_takeFrom_155 rfl rfl rfl ?_
  refine S_aload_n 1 dX1_takeFrom_156 rfl rfl rfl ?_
  refine S_geti 13 qC_1 (by decide) (by decide) t1 tw_80 dX1_takeFrom_157 rfl ?_
  refine S_puti 13 qC_1 (by decide) (by decide) rfl rfl t0 (by decide) tw_80 dX1_takeFrom_160 rfl ?_
  refine S_lh (fun h14 => ?_)
  refine S_aload_n 0 dX1_takeFrom_163 rfl rfl rfl ?_
  refine S_aload_n 1 dX1_takeFrom_164 rfl rfl rfl ?_
  refine S_geti 14 qC_1 (by decide) (by decide) t1 tw_84 dX1_takeFrom_165 rfl ?_
  refine S_puti 14 qC_1 (by decide) (by decide) rfl rfl t0 (by decide) tw_84 dX1_takeFrom_168 rfl ?_
  refine S_lh (fun h15 => ?_)
  refine S_aload_n 0 dX1_takeFrom_171 rfl rfl rfl ?_
  refine S_aload_n 1 dX1_takeFrom_172 rfl rfl rfl ?_
  refine S_geti 15 qC_1 (by decide) (by decide) t1 tw_88 dX1_takeFrom_173 rfl ?_
  refine S_puti 15 qC_1 (by decide) (by decide) rfl rfl t0 (by decide) tw_88 dX1_takeFrom_176 rfl ?_
  refine S_lh (fun h16 => ?_)
  refine S_aload_n 0 dX1_takeFrom_179 rfl rfl rfl ?_
  refine S_aload_n 1 dX1_takeFrom_180 rfl rfl rfl ?_
  refine S_geti 16 qC_1 (by decide) (by decide) t1 tw_91 dX1_takeFrom_181 rfl ?_
  refine S_puti 16 qC_1 (by decide) (by decide) rfl rfl t0 (by decide) tw_91 dX1_takeFrom_184 rfl ?_
  refine S_lh (fun h17 => ?_)
  refine S_aload_n 0 dX1_takeFrom_187 rfl rfl rfl ?_
  refine S_aload_n 1 dX1_takeFrom_188 rfl rfl rfl ?_
  refine S_geti 17 qC_1 (by decide) (by decide) t1 tw_94 dX1_takeFrom_189 rfl ?_
  refine S_puti 17 qC_1 (by decide) (by decide) rfl rfl t0 (by decide) tw_94 dX1_takeFrom_192 rfl ?_
  refine S_lh (fun h18 => ?_)
  refine S_aload_n 0 dX1_takeFrom_195 rfl rfl rfl ?_
  refine S_aload_n 1 dX1_takeFrom_196 rfl rfl rfl ?_
  refine S_geti 18 qC_1 (by decide) (by decide) t1 tw_96 dX1_takeFrom_197 rfl ?_
  refine S_puti 18 qC_1 (by decide) (by decide) rfl rfl t0 (by decide) tw_96 dX1_takeFrom_200 rfl ?_
  refine S_lh (fun h19 => ?_)
  refine S_aload_n 0 dX1_takeFrom_203 rfl rfl rfl ?_
  refine S_aload_n 1 dX1_takeFrom_204 rfl rfl rfl ?_
  refine S_geti 19 qC_1 (by decide) (by decide) t1 tw_98 dX1_takeFrom_205 rfl ?_
  refine S_puti 19 qC_1 (by decide) (by decide) rfl rfl t0 (by decide) tw_98 dX1_takeFrom_208 rfl ?_
  refine S_lh (fun h20 => ?_)
  exact S_vret dX1_takeFrom_211
def DX7_takeFrom_l18 : Nat → Nat → Nat → Int → qH → Option (Int × qH)
  | 0, _, _, _, _ => none
  | n + 1, i0, i1, a2, h => (if h.1 i0 1 ≤ a2 then some (0, h) else (if 8 ≤ a2 then some (0, h) else (if 0 ≤ a2 ∧ a2 < 8 then (if 0 ≤ a2 ∧ a2 < 8 then (qbd (DX0_takeFrom (i0 + 2 + a2.toNat) (i1 + 2 + a2.toNat) h) fun r5 h6 => ((DX7_takeFrom_l18 n) i0 i1 (qw (a2 + 1)) h6)) else none) else none)))
set_option maxRecDepth 100000 in
theorem TX7_takeFrom_l18 {L : Nat} {xs : Nat → Int32} : ∀ (n : Nat) (i0 : Nat) (i1 : Nat) (a2 : Int) (t0 : qK i0 = (7, 3)) (t1 : qK i1 = (7, 3)) (h : qH), qS L xs cX7_takeFrom "BottlePost$Waters" 3 2 0 18 [(0, qr i0), (1, qr i1), (2, qi a2)] [] h (DX7_takeFrom_l18 n i0 i1 a2 h) := by
  intro n
  induction n with
  | zero =>
    intro i0 i1 a2 t0 t1 h
    exact S_none
  | succ n ih =>
    intro i0 i1 a2 t0 t1 h
    rw [DX7_takeFrom_l18.eq_2]
    refine S_iload_n 2 dX7_takeFrom_18 rfl rfl rfl ?_
    refine S_aload_n 0 dX7_takeFrom_19 rfl rfl rfl ?_
    refine S_geti 1 qC_7 (by decide) (by decide) t0 tw_273 dX7_takeFrom_20 rfl ?_
    refine S_icmp_ge (tgt := 53) dX7_takeFrom_23 (by decide) rfl (fun _ => ?_) (fun _ => ?_)
    · exact S_vret dX7_takeFrom_53
    · refine S_iload_n 2 dX7_takeFrom_26 rfl rfl rfl ?_
      refine S_bipush (a := 8) dX7_takeFrom_27 rfl (by decide) (by decide) ?_
      refine S_icmp_ge (tgt := 53) dX7_takeFrom_29 (by decide) rfl (fun _ => ?_) (fun _ => ?_)
      · exact S_vret dX7_takeFrom_53
      · refine S_aload_n 0 dX7_takeFrom_32 rfl rfl rfl ?_
        refine S_getr (j := (i0 + 1)) (o := 1) 0 qC_7 (by decide) (by decide) t0 rfl rfl (qf_7_0 t0).2 tw_271 dX7_takeFrom_33 rfl ?_
        refine S_iload_n 2 dX7_takeFrom_36 rfl rfl rfl ?_
        refine S_aald (j := (i0 + 2 + a2.toNat)) (C := "BottlePost$Bottle") (N := 8) (qf_7_0 t0).1 (by decide) (by decide) (fun _ => rfl) rfl dX7_takeFrom_37 rfl (fun g1 g2 => (qel_25 (qf_7_0 t0).1 g1 g2).2) (fun g1 g2 => ?_)
        refine S_aload_n 1 dX7_takeFrom_38 rfl rfl rfl ?_
        refine S_getr (j := (i1 + 1)) (o := 1) 0 qC_7 (by decide) (by decide) t1 rfl rfl (qf_7_0 t1).2 tw_271 dX7_takeFrom_39 rfl ?_
        refine S_iload_n 2 dX7_takeFrom_42 rfl rfl rfl ?_
        refine S_aald (j := (i1 + 2 + a2.toNat)) (C := "BottlePost$Bottle") (N := 8) (qf_7_0 t1).1 (by decide) (by decide) (fun _ => rfl) rfl dX7_takeFrom_43 rfl (fun g3 g4 => (qel_25 (qf_7_0 t1).1 g3 g4).2) (fun g3 g4 => ?_)
        refine S_callV_0 (as := [qr (i1 + 2 + a2.toNat)]) (st := []) (fun _ => rfl) (TX0_takeFrom (i0 + 2 + a2.toNat) (i1 + 2 + a2.toNat) (qel_25 (qf_7_0 t0).1 g1 g2).1 (qel_25 (qf_7_0 t1).1 g3 g4).1 h) yv_X0_takeFrom tw_849 qC_0 (qel_25 (qf_7_0 t0).1 g1 g2).1 (by decide) rfl rfl (Nat.le_of_ble_eq_true rfl) dX7_takeFrom_44 rfl (fun r5 h6 e7 => ?_)
        refine S_iinc (lv' := [(2, qi (qw (a2 + 1))), (0, qr i0), (1, qr i1)]) 2 dX7_takeFrom_47 rfl (by decide) rfl rfl ?_
        refine S_goto (pc' := 18) dX7_takeFrom_50 (by decide) ?_
        refine S_sub [1, 2, 0] rfl ?_
        exact ih i0 i1 (qw (a2 + 1)) t0 t1 h6
def DX7_takeFrom (i0 : Nat) (i1 : Nat) (h : qH) : Option (Int × qH) := (qlt (qu h i0 1 (h.1 i1 1)) fun h8 => (qlt (qu h8 i0 2 (h8.1 i1 2)) fun h9 => (DX7_takeFrom_l18 LF i0 i1 0 h9)))
set_option maxRecDepth 100000 in
theorem TX7_takeFrom {L : Nat} {xs : Nat → Int32} (i0 : Nat) (i1 : Nat) (t0 : qK i0 = (7, 3)) (t1 : qK i1 = (7, 3)) (h : qH) : qMet L xs yX7_takeFrom cX7_takeFrom 3 (none) 0 2 [qr i0, qr i1] h (DX7_takeFrom i0 i1 h) := by
  refine qMet.of (by decide +kernel) (Or.inl ⟨rfl, rfl⟩) (Nat.le_of_ble_eq_true rfl) ?_
  show qS L xs cX7_takeFrom "BottlePost$Waters" 3 2 0 0 [(0, qr i0), (1, qr i1)] [] h (DX7_takeFrom i0 i1 h)
  unfold DX7_takeFrom
  refine S_aload_n 0 dX7_takeFrom_0 rfl rfl rfl ?_
  refine S_aload_n 1 dX7_takeFrom_1 rfl rfl rfl ?_
  refine S_geti 1 qC_7 (by decide) (by decide) t1 tw_273 dX7_takeFrom_2 rfl ?_
  refine S_puti 1 qC_7 (by decide) (by decide) rfl rfl t0 (by decide) tw_273 dX7_takeFrom_5 rfl ?_
  refine S_lh (fun h8 => ?_)
  refine S_aload_n 0 dX7_takeFrom_8 rfl rfl rfl ?_
  refine S_aload_n 1 dX7_takeFrom_9 rfl rfl rfl ?_
  refine S_geti 2 qC_7 (by decide) (by decide) t1 tw_275 dX7_takeFrom_10 rfl ?_
  refine S_puti 2 qC_7 (by decide) (by decide) rfl rfl t0 (by decide) tw_275 dX7_takeFrom_13 rfl ?_
  refine S_lh (fun h9 => ?_)
  refine S_iconst (a := 0) dX7_takeFrom_16 rfl (by decide) ?_
  refine S_istore_n (lv' := [(2, qi 0), (0, qr i0), (1, qr i1)]) dX7_takeFrom_17 rfl (by decide) rfl rfl ?_
  refine S_sub [1, 2, 0] rfl ?_
  exact TX7_takeFrom_l18 LF i0 i1 0 t0 t1 h9
def DX9_image (a1 : Int) (h : qH) : Option (Int × qH) := (if a1 < 0 then some ((-2), h) else (if a1 < 2 then (if 0 ≤ a1 ∧ a1 < 2 then (qbd (DX1_takeFrom (176 + 18 * a1.toNat) 5 h) fun r3 h4 => (if 0 ≤ a1 ∧ a1 < 2 then (qbd (DX7_takeFrom (184 + 18 * a1.toNat) 24 h4) fun r8 h9 => (if 0 ≤ a1 ∧ a1 < 2 then qlt (qu h9 167 a1.toNat (qand 1 1)) fun h11 => some (0, h11) else none)) else none)) else none) else some ((-2), h)))
set_option maxRecDepth 100000 in
theorem TX9_image {L : Nat} {xs : Nat → Int32} (a1 : Int) (h : qH) : qMet L xs yX9_image cX9_image 2 (some .int) 1 3 [qr 0, qi a1] h (DX9_image a1 h) := by
  refine qMet.of (by decide +kernel) (Or.inr (Or.inl ⟨rfl, rfl⟩)) (Nat.le_of_ble_eq_true rfl) ?_
  show qS L xs cX9_image "BottlePost" 2 3 1 0 [(0, qr 0), (1, qi a1)] [] h (DX9_image a1 h)
  unfold DX9_image
  refine S_iload_n 1 dX9_image_0 rfl rfl rfl ?_
  refine S_if_lt (tgt := 9) dX9_image_1 (by decide) rfl (fun _ => ?_) (fun _ => ?_)
  · refine S_bipush (a := (-2)) dX9_image_9 rfl (by decide) (by decide) ?_
    exact S_iret dX9_image_11
  · refine S_iload_n 1 dX9_image_4 rfl rfl rfl ?_
    refine S_iconst (a := 2) dX9_image_5 rfl (by decide) ?_
    refine S_icmp_lt (tgt := 12) dX9_image_6 (by decide) rfl (fun _ => ?_) (fun _ => ?_)
    · refine S_aload_n 0 dX9_image_12 rfl rfl rfl ?_
      refine S_getr (j := 165) (o := 165) 13 qC_9 (by decide) (by decide) qk_0 rfl rfl (by decide) tw_394 dX9_image_13 rfl ?_
      refine S_iload_n 1 dX9_image_16 rfl rfl rfl ?_
      refine S_aald (j := (176 + 18 * a1.toNat)) (C := "BottlePost$Chart") (N := 2) qk_165 (by decide) (by decide) (fun _ => rfl) rfl dX9_image_17 rfl (fun g1 g2 => (qel_165 g1 g2).2) (fun g1 g2 => ?_)
      refine S_aload_n 0 dX9_image_18 rfl rfl rfl ?_
      refine S_getr (j := 5) (o := 5) 4 qC_9 (by decide) (by decide) qk_0 rfl rfl (by decide) tw_385 dX9_image_19 rfl ?_
      refine S_callV_0 (as := [qr 5]) (st := []) (fun _ => rfl) (TX1_takeFrom (176 + 18 * a1.toNat) 5 (qel_165 g1 g2).1 qk_5 h) yv_X1_takeFrom tw_719 qC_1 (qel_165 g1 g2).1 (by decide) rfl rfl (Nat.le_of_ble_eq_true rfl) dX9_image_22 rfl (fun r3 h4 e5 => ?_)
      refine S_aload_n 0 dX9_image_25 rfl rfl rfl ?_
      refine S_getr (j := 166) (o := 166) 14 qC_9 (by decide) (by decide) qk_0 rfl rfl (by decide) tw_395 dX9_image_26 rfl ?_
      refine S_iload_n 1 dX9_image_29 rfl rfl rfl ?_
      refine S_aald (j := (184 + 18 * a1.toNat)) (C := "BottlePost$Waters") (N := 2) qk_166 (by decide) (by decide) (fun _ => rfl) rfl dX9_image_30 rfl (fun g6 g7 => (qel_166 g6 g7).2) (fun g6 g7 => ?_)
      refine S_aload_n 0 dX9_image_31 rfl rfl rfl ?_
      refine S_getr (j := 24) (o := 24) 5 qC_9 (by decide) (by decide) qk_0 rfl rfl (by decide) tw_386 dX9_image_32 rfl ?_
      refine S_callV_0 (as := [qr 24]) (st := []) (fun _ => rfl) (TX7_takeFrom (184 + 18 * a1.toNat) 24 (qel_166 g6 g7).1 qk_24 h4) yv_X7_takeFrom tw_947 qC_7 (qel_166 g6 g7).1 (by decide) rfl rfl (Nat.le_of_ble_eq_true rfl) dX9_image_35 rfl (fun r8 h9 e10 => ?_)
      refine S_aload_n 0 dX9_image_38 rfl rfl rfl ?_
      refine S_getr (j := 167) (o := 167) 15 qC_9 (by decide) (by decide) qk_0 rfl rfl (by decide) tw_396 dX9_image_39 rfl ?_
      refine S_iload_n 1 dX9_image_42 rfl rfl rfl ?_
      refine S_iconst (a := 1) dX9_image_43 rfl (by decide) ?_
      refine S_zast (N := 2) qk_167 rfl dX9_image_44 rfl (fun _ _ => ?_)
      refine S_lh (fun h11 => ?_)
      refine S_iconst (a := 0) dX9_image_45 rfl (by decide) ?_
      exact S_iret dX9_image_46
    · refine S_bipush (a := (-2)) dX9_image_9 rfl (by decide) (by decide) ?_
      exact S_iret dX9_image_11
def DX9_isTray (a0 : Int) (h : qH) : Option (Int × qH) := (if a0 < 0 then some (0, h) else (if 4 ≤ a0 then some (0, h) else some (1, h)))
set_option maxRecDepth 100000 in
theorem TX9_isTray {L : Nat} {xs : Nat → Int32} (a0 : Int) (h : qH) : qMet L xs yX9_isTray cX9_isTray 1 (some .boolean) 4 1 [qi a0] h (DX9_isTray a0 h) := by
  refine qMet.of (by decide +kernel) (Or.inr (Or.inr (Or.inr (Or.inr (Or.inl ⟨rfl, rfl⟩))))) (Nat.le_of_ble_eq_true rfl) ?_
  show qS L xs cX9_isTray "BottlePost" 1 1 4 0 [(0, qi a0)] [] h (DX9_isTray a0 h)
  unfold DX9_isTray
  refine S_iload_n 0 dX9_isTray_0 rfl rfl rfl ?_
  refine S_if_lt (tgt := 13) dX9_isTray_1 (by decide) rfl (fun _ => ?_) (fun _ => ?_)
  · refine S_iconst (a := 0) dX9_isTray_13 rfl (by decide) ?_
    exact S_zretl (by decide) dX9_isTray_14
  · refine S_iload_n 0 dX9_isTray_4 rfl rfl rfl ?_
    refine S_iconst (a := 4) dX9_isTray_5 rfl (by decide) ?_
    refine S_icmp_ge (tgt := 13) dX9_isTray_6 (by decide) rfl (fun _ => ?_) (fun _ => ?_)
    · refine S_iconst (a := 0) dX9_isTray_13 rfl (by decide) ?_
      exact S_zretl (by decide) dX9_isTray_14
    · refine S_iconst (a := 1) dX9_isTray_9 rfl (by decide) ?_
      refine S_goto (pc' := 14) dX9_isTray_10 (by decide) ?_
      exact S_zretl (by decide) dX9_isTray_14
