def DX9_throwsIt (a1 : Int) (a2 : Int) (a3 : Int) (h : qH) : Option (Int × qH) := (qbd (DX7_whyNotThrown 24 5 a1 a2 h) fun r1 h2 => (if r1 = 0 then (qbd (DX3_draft 24 h2) fun r4 h5 => (qbd (DX3_commit h5) fun r7 h8 => (qbd (DX7_launch 24 5 a1 a2 a3 h8) fun r10 h11 => some (r10, h11)))) else some (qw ((-10) - r1), h2)))
set_option maxRecDepth 100000 in
theorem TX9_throwsIt {L : Nat} {xs : Nat → Int32} (a1 : Int) (a2 : Int) (a3 : Int) (h : qH) : qMet L xs yX9_throwsIt cX9_throwsIt 5 (some .int) 1 4 [qr 0, qi a1, qi a2, qi a3] h (DX9_throwsIt a1 a2 a3 h) := by
  refine qMet.of (by decide +kernel) (Or.inr (Or.inl ⟨rfl, rfl⟩)) (Nat.le_of_ble_eq_true rfl) ?_
  show qS L xs cX9_throwsIt "BottlePost" 5 4 1 0 [(0, qr 0), (1, qi a1), (2, qi a2), (3, qi a3)] [] h (DX9_throwsIt a1 a2 a3 h)
  unfold DX9_throwsIt
  refine S_aload_n 0 dX9_throwsIt_0 rfl rfl rfl ?_
  refine S_getr (j := 24) (o := 24) 5 qC_9 (by decide) (by decide) qk_0 rfl rfl (by decide) tw_386 dX9_throwsIt_1 rfl ?_
  refine S_aload_n 0 dX9_throwsIt_4 rfl rfl rfl ?_
  refine S_getr (j := 5) (o := 5) 4 qC_9 (by decide) (by decide) qk_0 rfl rfl (by decide) tw_385 dX9_throwsIt_5 rfl ?_
  refine S_iload_n 1 dX9_throwsIt_8 rfl rfl rfl ?_
  refine S_iload_n 2 dX9_throwsIt_9 rfl rfl rfl ?_
  refine S_callV_i (as := [qr 5, qi a1, qi a2]) (st := []) (fun _ => rfl) (TX7_whyNotThrown 24 5 a1 a2 qk_24 qk_5 h) yv_X7_whyNotThrown tw_830 qC_7 qk_24 (by decide) rfl rfl (Nat.le_of_ble_eq_true rfl) dX9_throwsIt_10 rfl (fun r1 h2 e3 => ?_)
  refine S_istore (lv' := [(4, qi r1), (0, qr 0), (1, qi a1), (2, qi a2), (3, qi a3)]) dX9_throwsIt_13 (by decide) rfl rfl ?_
  refine S_iload 0 dX9_throwsIt_15 rfl rfl ?_
  refine S_if_eq (tgt := 26) dX9_throwsIt_17 (by decide) rfl (fun _ => ?_) (fun _ => ?_)
  · refine S_aload_n 1 dX9_throwsIt_26 rfl rfl rfl ?_
    refine S_getr (j := 44) (o := 44) 7 qC_9 (by decide) (by decide) qk_0 rfl rfl (by decide) tw_388 dX9_throwsIt_27 rfl ?_
    refine S_aload_n 1 dX9_throwsIt_30 rfl rfl rfl ?_
    refine S_getr (j := 24) (o := 24) 5 qC_9 (by decide) (by decide) qk_0 rfl rfl (by decide) tw_386 dX9_throwsIt_31 rfl ?_
    refine S_callV_0 (as := [qr 24]) (st := []) (fun _ => rfl) (TX3_draft 24 qk_24 h2) yv_X3_draft tw_836 qC_3 qk_44 (by decide) rfl rfl (Nat.le_of_ble_eq_true rfl) dX9_throwsIt_34 rfl (fun r4 h5 e6 => ?_)
    refine S_aload_n 1 dX9_throwsIt_37 rfl rfl rfl ?_
    refine S_getr (j := 44) (o := 44) 7 qC_9 (by decide) (by decide) qk_0 rfl rfl (by decide) tw_388 dX9_throwsIt_38 rfl ?_
    refine S_callV_0 (as := []) (st := []) (fun _ => rfl) (TX3_commit h5) yv_X3_commit tw_853 qC_3 qk_44 (by decide) rfl rfl (Nat.le_of_ble_eq_true rfl) dX9_throwsIt_41 rfl (fun r7 h8 e9 => ?_)
    refine S_aload_n 1 dX9_throwsIt_44 rfl rfl rfl ?_
    refine S_getr (j := 24) (o := 24) 5 qC_9 (by decide) (by decide) qk_0 rfl rfl (by decide) tw_386 dX9_throwsIt_45 rfl ?_
    refine S_aload_n 1 dX9_throwsIt_48 rfl rfl rfl ?_
    refine S_getr (j := 5) (o := 5) 4 qC_9 (by decide) (by decide) qk_0 rfl rfl (by decide) tw_385 dX9_throwsIt_49 rfl ?_
    refine S_iload_n 2 dX9_throwsIt_52 rfl rfl rfl ?_
    refine S_iload_n 3 dX9_throwsIt_53 rfl rfl rfl ?_
    refine S_iload_n 4 dX9_throwsIt_54 rfl rfl rfl ?_
    refine S_callV_i (as := [qr 5, qi a1, qi a2, qi a3]) (st := []) (fun _ => rfl) (TX7_launch 24 5 a1 a2 a3 qk_24 qk_5 h8) yv_X7_launch tw_857 qC_7 qk_24 (by decide) rfl rfl (Nat.le_of_ble_eq_true rfl) dX9_throwsIt_55 rfl (fun r10 h11 e12 => ?_)
    exact S_iret dX9_throwsIt_58
  · refine S_bipush (a := (-10)) dX9_throwsIt_20 rfl (by decide) (by decide) ?_
    refine S_iload 0 dX9_throwsIt_22 rfl rfl ?_
    refine S_isub dX9_throwsIt_24 rfl ?_
    exact S_iret dX9_throwsIt_25
def DX9_tides_l43 : Nat → Int → Int → Int → qH → Option (Int × qH)
  | 0, _, _, _, _ => none
  | n + 1, a1, a2, a3, h => (if a1 ≤ a3 then (qbd (DX7_countOf 24 2 h) fun r1 h2 => some (qw (r1 - a2), h2)) else (qbd (DX7_ebb 24 h) fun r4 h5 => ((DX9_tides_l43 n) a1 a2 (qw (a3 + 1)) h5)))
set_option maxRecDepth 100000 in
theorem TX9_tides_l43 {L : Nat} {xs : Nat → Int32} : ∀ (n : Nat) (a1 : Int) (a2 : Int) (a3 : Int) (h : qH), qS L xs cX9_tides "BottlePost" 4 7 1 43 [(0, qr 0), (1, qi a1), (2, qi a2), (3, qi a3)] [] h (DX9_tides_l43 n a1 a2 a3 h) := by
  intro n
  induction n with
  | zero =>
    intro a1 a2 a3 h
    exact S_none
  | succ n ih =>
    intro a1 a2 a3 h
    rw [DX9_tides_l43.eq_2]
    refine S_iload_n 3 dX9_tides_43 rfl rfl rfl ?_
    refine S_iload_n 1 dX9_tides_44 rfl rfl rfl ?_
    refine S_icmp_ge (tgt := 65) dX9_tides_45 (by decide) rfl (fun _ => ?_) (fun _ => ?_)
    · refine S_aload_n 0 dX9_tides_65 rfl rfl rfl ?_
      refine S_getr (j := 24) (o := 24) 5 qC_9 (by decide) (by decide) qk_0 rfl rfl (by decide) tw_386 dX9_tides_66 rfl ?_
      refine S_iconst (a := 2) dX9_tides_69 rfl (by decide) ?_
      refine S_callV_i (as := [qi 2]) (st := []) (fun _ => rfl) (TX7_countOf 24 2 qk_24 h) yv_X7_countOf tw_869 qC_7 qk_24 (by decide) rfl rfl (Nat.le_of_ble_eq_true rfl) dX9_tides_70 rfl (fun r1 h2 e3 => ?_)
      refine S_iload_n 2 dX9_tides_73 rfl rfl rfl ?_
      refine S_isub dX9_tides_74 rfl ?_
      exact S_iret dX9_tides_75
    · refine S_aload_n 0 dX9_tides_48 rfl rfl rfl ?_
      refine S_getr (j := 24) (o := 24) 5 qC_9 (by decide) (by decide) qk_0 rfl rfl (by decide) tw_386 dX9_tides_49 rfl ?_
      refine S_aload_n 0 dX9_tides_52 rfl rfl rfl ?_
      refine S_getr (j := 4) (o := 4) 3 qC_9 (by decide) (by decide) qk_0 rfl rfl (by decide) tw_384 dX9_tides_53 rfl ?_
      refine S_callV_0 (as := [qr 4]) (st := []) (fun _ => rfl) (TX7_ebb 24 qk_24 h) yv_X7_ebb tw_873 qC_7 qk_24 (by decide) rfl rfl (Nat.le_of_ble_eq_true rfl) dX9_tides_56 rfl (fun r4 h5 e6 => ?_)
      refine S_iinc (lv' := [(3, qi (qw (a3 + 1))), (0, qr 0), (1, qi a1), (2, qi a2)]) 3 dX9_tides_59 rfl (by decide) rfl rfl ?_
      refine S_goto (pc' := 43) dX9_tides_62 (by decide) ?_
      refine S_sub [1, 2, 3, 0] rfl ?_
      exact ih a1 a2 (qw (a3 + 1)) h5
def DX9_tides (a1 : Int) (h : qH) : Option (Int × qH) := (if a1 < 1 then some ((-3), h) else (if a1 ≤ 99 then (qbd (DX3_draft 24 h) fun r7 h8 => (qbd (DX3_commit h8) fun r10 h11 => (qbd (DX7_countOf 24 2 h11) fun r13 h14 => (DX9_tides_l43 LF a1 r13 0 h14)))) else some ((-3), h)))
set_option maxRecDepth 100000 in
theorem TX9_tides {L : Nat} {xs : Nat → Int32} (a1 : Int) (h : qH) : qMet L xs yX9_tides cX9_tides 4 (some .int) 1 7 [qr 0, qi a1] h (DX9_tides a1 h) := by
  refine qMet.of (by decide +kernel) (Or.inr (Or.inl ⟨rfl, rfl⟩)) (Nat.le_of_ble_eq_true rfl) ?_
  show qS L xs cX9_tides "BottlePost" 4 7 1 0 [(0, qr 0), (1, qi a1)] [] h (DX9_tides a1 h)
  unfold DX9_tides
  refine S_iload_n 1 dX9_tides_0 rfl rfl rfl ?_
  refine S_iconst (a := 1) dX9_tides_1 rfl (by decide) ?_
  refine S_icmp_lt (tgt := 11) dX9_tides_2 (by decide) rfl (fun _ => ?_) (fun _ => ?_)
  · refine S_bipush (a := (-3)) dX9_tides_11 rfl (by decide) (by decide) ?_
    exact S_iret dX9_tides_13
  · refine S_iload_n 1 dX9_tides_5 rfl rfl rfl ?_
    refine S_bipush (a := 99) dX9_tides_6 rfl (by decide) (by decide) ?_
    refine S_icmp_le (tgt := 14) dX9_tides_8 (by decide) rfl (fun _ => ?_) (fun _ => ?_)
    · refine S_aload_n 0 dX9_tides_14 rfl rfl rfl ?_
      refine S_getr (j := 44) (o := 44) 7 qC_9 (by decide) (by decide) qk_0 rfl rfl (by decide) tw_388 dX9_tides_15 rfl ?_
      refine S_aload_n 0 dX9_tides_18 rfl rfl rfl ?_
      refine S_getr (j := 24) (o := 24) 5 qC_9 (by decide) (by decide) qk_0 rfl rfl (by decide) tw_386 dX9_tides_19 rfl ?_
      refine S_callV_0 (as := [qr 24]) (st := []) (fun _ => rfl) (TX3_draft 24 qk_24 h) yv_X3_draft tw_836 qC_3 qk_44 (by decide) rfl rfl (Nat.le_of_ble_eq_true rfl) dX9_tides_22 rfl (fun r7 h8 e9 => ?_)
      refine S_aload_n 0 dX9_tides_25 rfl rfl rfl ?_
      refine S_getr (j := 44) (o := 44) 7 qC_9 (by decide) (by decide) qk_0 rfl rfl (by decide) tw_388 dX9_tides_26 rfl ?_
      refine S_callV_0 (as := []) (st := []) (fun _ => rfl) (TX3_commit h8) yv_X3_commit tw_853 qC_3 qk_44 (by decide) rfl rfl (Nat.le_of_ble_eq_true rfl) dX9_tides_29 rfl (fun r10 h11 e12 => ?_)
      refine S_aload_n 0 dX9_tides_32 rfl rfl rfl ?_
      refine S_getr (j := 24) (o := 24) 5 qC_9 (by decide) (by decide) qk_0 rfl rfl (by decide) tw_386 dX9_tides_33 rfl ?_
      refine S_iconst (a := 2) dX9_tides_36 rfl (by decide) ?_
      refine S_callV_i (as := [qi 2]) (st := []) (fun _ => rfl) (TX7_countOf 24 2 qk_24 h11) yv_X7_countOf tw_869 qC_7 qk_24 (by decide) rfl rfl (Nat.le_of_ble_eq_true rfl) dX9_tides_37 rfl (fun r13 h14 e15 => ?_)
      refine S_istore_n (lv' := [(2, qi r13), (0, qr 0), (1, qi a1)]) dX9_tides_40 rfl (by decide) rfl rfl ?_
      refine S_iconst (a := 0) dX9_tides_41 rfl (by decide) ?_
      refine S_istore_n (lv' := [(3, qi 0), (2, qi r13), (0, qr 0), (1, qi a1)]) dX9_tides_42 rfl (by decide) rfl rfl ?_
      refine S_sub [2, 3, 1, 0] rfl ?_
      exact TX9_tides_l43 LF a1 r13 0 h14
    · refine S_bipush (a := (-3)) dX9_tides_11 rfl (by decide) (by decide) ?_
      exact S_iret dX9_tides_13
def DX3_bringBack (a1 : Int) (i2 : Nat) (h : qH) : Option (Int × qH) := (qlt (qu h 44 2 (qw (h.1 44 2 - a1))) fun h1 => (qbd (DX3_slot (h1.1 44 2) h1) fun r2 h3 => (qbd (DX7_takeFrom i2 r2.toNat h3) fun r5 h6 => some (0, h6))))
set_option maxRecDepth 100000 in
theorem TX3_bringBack {L : Nat} {xs : Nat → Int32} (a1 : Int) (i2 : Nat) (t2 : qK i2 = (7, 3)) (h : qH) : qMet L xs yX3_bringBack cX3_bringBack 3 (none) 0 3 [qr 44, qi a1, qr i2] h (DX3_bringBack a1 i2 h) := by
  refine qMet.of (by decide +kernel) (Or.inl ⟨rfl, rfl⟩) (Nat.le_of_ble_eq_true rfl) ?_
  show qS L xs cX3_bringBack "BottlePost$Past" 3 3 0 0 [(0, qr 44), (1, qi a1), (2, qr i2)] [] h (DX3_bringBack a1 i2 h)
  unfold DX3_bringBack
  refine S_aload_n 0 dX3_bringBack_0 rfl rfl rfl ?_
  refine S_dup dX3_bringBack_1 rfl rfl ?_
  refine S_geti 2 qC_3 (by decide) (by decide) qk_44 tw_295 dX3_bringBack_2 rfl ?_
  refine S_iload_n 1 dX3_bringBack_5 rfl rfl rfl ?_
  refine S_isub dX3_bringBack_6 rfl ?_
  refine S_puti 2 qC_3 (by decide) (by decide) rfl rfl qk_44 (by decide) tw_295 dX3_bringBack_7 rfl ?_
  refine S_lh (fun h1 => ?_)
  refine S_aload_n 2 dX3_bringBack_10 rfl rfl rfl ?_
  refine S_aload_n 0 dX3_bringBack_11 rfl rfl rfl ?_
  refine S_aload_n 0 dX3_bringBack_12 rfl rfl rfl ?_
  refine S_geti 2 qC_3 (by decide) (by decide) qk_44 tw_295 dX3_bringBack_13 rfl ?_
  refine S_callV_r (as := [qi (h1.1 44 2)]) (st := [qr i2]) (fun _ => rfl) (TX3_slot (h1.1 44 2) h1) yv_X3_slot tw_840 qC_3 qk_44 (by decide) rfl rfl (Nat.le_of_ble_eq_true rfl) dX3_bringBack_16 rfl (fun r2 h3 e4 => ?_)
  refine S_callV_0 (as := [qr r2.toNat]) (st := []) (fun _ => rfl) (TX7_takeFrom i2 r2.toNat t2 (TX3_slot_ty e4) h3) yv_X7_takeFrom tw_845 qC_7 t2 (by decide) rfl rfl (Nat.le_of_ble_eq_true rfl) dX3_bringBack_19 rfl (fun r5 h6 e7 => ?_)
  exact S_vret dX3_bringBack_22
def DX9_undo (a1 : Int) (h : qH) : Option (Int × qH) := (if a1 < 1 then some ((-3), h) else (if 10 < a1 then some ((-3), h) else (if a1 ≤ h.1 44 2 then (qbd (DX3_bringBack a1 24 h) fun r1 h2 => some (h2.1 44 2, h2)) else some ((-3), h))))
set_option maxRecDepth 100000 in
theorem TX9_undo {L : Nat} {xs : Nat → Int32} (a1 : Int) (h : qH) : qMet L xs yX9_undo cX9_undo 2 (some .int) 1 4 [qr 0, qi a1] h (DX9_undo a1 h) := by
  refine qMet.of (by decide +kernel) (Or.inr (Or.inl ⟨rfl, rfl⟩)) (Nat.le_of_ble_eq_true rfl) ?_
  show qS L xs cX9_undo "BottlePost" 2 4 1 0 [(0, qr 0), (1, qi a1)] [] h (DX9_undo a1 h)
  unfold DX9_undo
  refine S_iload_n 1 dX9_undo_0 rfl rfl rfl ?_
  refine S_iconst (a := 1) dX9_undo_1 rfl (by decide) ?_
  refine S_icmp_lt (tgt := 22) dX9_undo_2 (by decide) rfl (fun _ => ?_) (fun _ => ?_)
  · refine S_bipush (a := (-3)) dX9_undo_22 rfl (by decide) (by decide) ?_
    exact S_iret dX9_undo_24
  · refine S_iload_n 1 dX9_undo_5 rfl rfl rfl ?_
    refine S_bipush (a := 10) dX9_undo_6 rfl (by decide) (by decide) ?_
    refine S_icmp_gt (tgt := 22) dX9_undo_8 (by decide) rfl (fun _ => ?_) (fun _ => ?_)
    · refine S_bipush (a := (-3)) dX9_undo_22 rfl (by decide) (by decide) ?_
      exact S_iret dX9_undo_24
    · refine S_iload_n 1 dX9_undo_11 rfl rfl rfl ?_
      refine S_aload_n 0 dX9_undo_12 rfl rfl rfl ?_
      refine S_getr (j := 44) (o := 44) 7 qC_9 (by decide) (by decide) qk_0 rfl rfl (by decide) tw_388 dX9_undo_13 rfl ?_
      refine S_geti 2 qC_3 (by decide) (by decide) qk_44 tw_296 dX9_undo_16 rfl ?_
      refine S_icmp_le (tgt := 25) dX9_undo_19 (by decide) rfl (fun _ => ?_) (fun _ => ?_)
      · refine S_aload_n 0 dX9_undo_25 rfl rfl rfl ?_
        refine S_getr (j := 44) (o := 44) 7 qC_9 (by decide) (by decide) qk_0 rfl rfl (by decide) tw_388 dX9_undo_26 rfl ?_
        refine S_iload_n 1 dX9_undo_29 rfl rfl rfl ?_
        refine S_aload_n 0 dX9_undo_30 rfl rfl rfl ?_
        refine S_getr (j := 24) (o := 24) 5 qC_9 (by decide) (by decide) qk_0 rfl rfl (by decide) tw_386 dX9_undo_31 rfl ?_
        refine S_callV_0 (as := [qi a1, qr 24]) (st := []) (fun _ => rfl) (TX3_bringBack a1 24 qk_24 h) yv_X3_bringBack tw_932 qC_3 qk_44 (by decide) rfl rfl (Nat.le_of_ble_eq_true rfl) dX9_undo_34 rfl (fun r1 h2 e3 => ?_)
        refine S_aload_n 0 dX9_undo_37 rfl rfl rfl ?_
        refine S_getr (j := 44) (o := 44) 7 qC_9 (by decide) (by decide) qk_0 rfl rfl (by decide) tw_388 dX9_undo_38 rfl ?_
        refine S_geti 2 qC_3 (by decide) (by decide) qk_44 tw_296 dX9_undo_41 rfl ?_
        exact S_iret dX9_undo_44
      · refine S_bipush (a := (-3)) dX9_undo_22 rfl (by decide) (by decide) ?_
        exact S_iret dX9_undo_24
def DX9_whereIn_l46 : Nat → Int → Int → qH → Option (Int × qH)
  | 0, _, _, _ => none
  | n + 1, a2, a3, h => (if a2 ≤ a3 then (qbd (DX0_place 156 h) fun r1 h2 => some (r1, h2)) else (qbd (DX2_carry 156 (qw (h.1 24 2 + a3)) h) fun r4 h5 => ((DX9_whereIn_l46 n) a2 (qw (a3 + 1)) h5)))
set_option maxRecDepth 100000 in
theorem TX9_whereIn_l46 {L : Nat} {xs : Nat → Int32} : ∀ (n : Nat) (a2 : Int) (a3 : Int) (h : qH), qS L xs cX9_whereIn "BottlePost" 4 6 1 46 [(0, qr 0), (2, qi a2), (3, qi a3)] [] h (DX9_whereIn_l46 n a2 a3 h) := by
  intro n
  induction n with
  | zero =>
    intro a2 a3 h
    exact S_none
  | succ n ih =>
    intro a2 a3 h
    rw [DX9_whereIn_l46.eq_2]
    refine S_iload_n 2 dX9_whereIn_46 rfl rfl rfl ?_
    refine S_iload_n 1 dX9_whereIn_47 rfl rfl rfl ?_
    refine S_icmp_ge (tgt := 77) dX9_whereIn_48 (by decide) rfl (fun _ => ?_) (fun _ => ?_)
    · refine S_aload_n 0 dX9_whereIn_77 rfl rfl rfl ?_
      refine S_getr (j := 156) (o := 156) 8 qC_9 (by decide) (by decide) qk_0 rfl rfl (by decide) tw_389 dX9_whereIn_78 rfl ?_
      refine S_callV_i (as := []) (st := []) (fun _ => rfl) (TX0_place 156 qk_156 h) yv_X0_place tw_1002 qC_0 qk_156 (by decide) rfl rfl (Nat.le_of_ble_eq_true rfl) dX9_whereIn_81 rfl (fun r1 h2 e3 => ?_)
      exact S_iret dX9_whereIn_84
    · refine S_aload_n 0 dX9_whereIn_51 rfl rfl rfl ?_
      refine S_getr (j := 4) (o := 4) 3 qC_9 (by decide) (by decide) qk_0 rfl rfl (by decide) tw_384 dX9_whereIn_52 rfl ?_
      refine S_aload_n 0 dX9_whereIn_55 rfl rfl rfl ?_
      refine S_getr (j := 156) (o := 156) 8 qC_9 (by decide) (by decide) qk_0 rfl rfl (by decide) tw_389 dX9_whereIn_56 rfl ?_
      refine S_aload_n 0 dX9_whereIn_59 rfl rfl rfl ?_
      refine S_getr (j := 24) (o := 24) 5 qC_9 (by decide) (by decide) qk_0 rfl rfl (by decide) tw_386 dX9_whereIn_60 rfl ?_
      refine S_geti 2 qC_7 (by decide) (by decide) qk_24 tw_276 dX9_whereIn_63 rfl ?_
      refine S_iload_n 2 dX9_whereIn_66 rfl rfl rfl ?_
      refine S_iadd dX9_whereIn_67 rfl ?_
      refine S_callV_0 (as := [qr 156, qi (qw (h.1 24 2 + a3))]) (st := []) (fun _ => rfl) (TX2_carry 156 (qw (h.1 24 2 + a3)) qk_156 h) yv_X2_carry tw_1001 qC_2 qk_4 (by decide) rfl rfl (Nat.le_of_ble_eq_true rfl) dX9_whereIn_68 rfl (fun r4 h5 e6 => ?_)
      refine S_iinc (lv' := [(3, qi (qw (a3 + 1))), (0, qr 0), (2, qi a2)]) 2 dX9_whereIn_71 rfl (by decide) rfl rfl ?_
      refine S_goto (pc' := 46) dX9_whereIn_74 (by decide) ?_
      refine S_sub [1, 2, 0] rfl ?_
      exact ih a2 (qw (a3 + 1)) h5
def DX9_whereIn (a1 : Int) (a2 : Int) (h : qH) : Option (Int × qH) := (qbd (DX7_has 24 a1 h) fun r7 h8 => (if ¬ r7 = 0 then (if a2 < 0 then some ((-3), h8) else (if a2 ≤ 200 then (if 0 ≤ a1 ∧ a1 < 8 then (qbd (DX0_takeFrom 156 (26 + a1.toNat) h8) fun r12 h13 => (DX9_whereIn_l46 LF a2 0 h13)) else none) else some ((-3), h8))) else some ((-2), h8)))
set_option maxRecDepth 100000 in
theorem TX9_whereIn {L : Nat} {xs : Nat → Int32} (a1 : Int) (a2 : Int) (h : qH) : qMet L xs yX9_whereIn cX9_whereIn 4 (some .int) 1 6 [qr 0, qi a1, qi a2] h (DX9_whereIn a1 a2 h) := by
  refine qMet.of (by decide +kernel) (Or.inr (Or.inl ⟨rfl, rfl⟩)) (Nat.le_of_ble_eq_true rfl) ?_
  show qS L xs cX9_whereIn "BottlePost" 4 6 1 0 [(0, qr 0), (1, qi a1), (2, qi a2)] [] h (DX9_whereIn a1 a2 h)
  unfold DX9_whereIn
  refine S_aload_n 0 dX9_whereIn_0 rfl rfl rfl ?_
  refine S_getr (j := 24) (o := 24) 5 qC_9 (by decide) (by decide) qk_0 rfl rfl (by decide) tw_386 dX9_whereIn_1 rfl ?_
  refine S_iload_n 1 dX9_whereIn_4 rfl rfl rfl ?_
  refine S_callV_i (as := [qi a1]) (st := []) (fun _ => rfl) (TX7_has 24 a1 qk_24 h) yv_X7_has tw_822 qC_7 qk_24 (by decide) rfl rfl (Nat.le_of_ble_eq_true rfl) dX9_whereIn_5 rfl (fun r7 h8 e9 => ?_)
  refine S_if_ne (tgt := 14) dX9_whereIn_8 (by decide) rfl (fun _ => ?_) (fun _ => ?_)
  · refine S_iload_n 2 dX9_whereIn_14 rfl rfl rfl ?_
    refine S_if_lt (tgt := 25) dX9_whereIn_15 (by decide) rfl (fun _ => ?_) (fun _ => ?_)
    · refine S_bipush (a := (-3)) dX9_whereIn_25 rfl (by decide) (by decide) ?_
      exact S_iret dX9_whereIn_27
    · refine S_iload_n 2 dX9_whereIn_18 rfl rfl rfl ?_
      refine S_sipush (a := 200) dX9_whereIn_19 rfl (by decide) (by decide) ?_
      refine S_icmp_le (tgt := 28) dX9_whereIn_22 (by decide) rfl (fun _ => ?_) (fun _ => ?_)
      · refine S_aload_n 0 dX9_whereIn_28 rfl rfl rfl ?_
        refine S_getr (j := 156) (o := 156) 8 qC_9 (by decide) (by decide) qk_0 rfl rfl (by decide) tw_389 dX9_whereIn_29 rfl ?_
        refine S_aload_n 0 dX9_whereIn_32 rfl rfl rfl ?_
        refine S_getr (j := 24) (o := 24) 5 qC_9 (by decide) (by decide) qk_0 rfl rfl (by decide) tw_386 dX9_whereIn_33 rfl ?_
        refine S_getr (j := 25) (o := 1) 0 qC_7 (by decide) (by decide) qk_24 rfl rfl (by decide) tw_272 dX9_whereIn_36 rfl ?_
        refine S_iload_n 1 dX9_whereIn_39 rfl rfl rfl ?_
        refine S_aald (j := (26 + a1.toNat)) (C := "BottlePost$Bottle") (N := 8) qk_25 (by decide) (by decide) (fun _ => rfl) rfl dX9_whereIn_40 rfl (fun g10 g11 => (qel_25 qk_25 g10 g11).2) (fun g10 g11 => ?_)
        refine S_callV_0 (as := [qr (26 + a1.toNat)]) (st := []) (fun _ => rfl) (TX0_takeFrom 156 (26 + a1.toNat) qk_156 (qel_25 qk_25 g10 g11).1 h8) yv_X0_takeFrom tw_991 qC_0 qk_156 (by decide) rfl rfl (Nat.le_of_ble_eq_true rfl) dX9_whereIn_41 rfl (fun r12 h13 e14 => ?_)
        refine S_iconst (a := 0) dX9_whereIn_44 rfl (by decide) ?_
        refine S_istore_n (lv' := [(3, qi 0), (0, qr 0), (1, qi a1), (2, qi a2)]) dX9_whereIn_45 rfl (by decide) rfl rfl ?_
        refine S_sub [1, 3, 0] rfl ?_
        exact TX9_whereIn_l46 LF a2 0 h13
      · refine S_bipush (a := (-3)) dX9_whereIn_25 rfl (by decide) (by decide) ?_
        exact S_iret dX9_whereIn_27
  · refine S_bipush (a := (-2)) dX9_whereIn_11 rfl (by decide) (by decide) ?_
    exact S_iret dX9_whereIn_13
def DX9_wind (a1 : Int) (a2 : Int) (h : qH) : Option (Int × qH) := (qbd (DX1_isCell 5 a1 h) fun r1 h2 => (if ¬ r1 = 0 then (if a2 < 0 then some ((-3), h2) else (if a2 ≤ 999 then (qbd (DX2_windAt a1 (qw (h2.1 24 2 + a2)) h2) fun r4 h5 => some (r4, h5)) else some ((-3), h2))) else some ((-2), h2)))
set_option maxRecDepth 100000 in
theorem TX9_wind {L : Nat} {xs : Nat → Int32} (a1 : Int) (a2 : Int) (h : qH) : qMet L xs yX9_wind cX9_wind 3 (some .int) 1 4 [qr 0, qi a1, qi a2] h (DX9_wind a1 a2 h) := by
  refine qMet.of (by decide +kernel) (Or.inr (Or.inl ⟨rfl, rfl⟩)) (Nat.le_of_ble_eq_true rfl) ?_
  show qS L xs cX9_wind "BottlePost" 3 4 1 0 [(0, qr 0), (1, qi a1), (2, qi a2)] [] h (DX9_wind a1 a2 h)
  unfold DX9_wind
  refine S_aload_n 0 dX9_wind_0 rfl rfl rfl ?_
  refine S_getr (j := 5) (o := 5) 4 qC_9 (by decide) (by decide) qk_0 rfl rfl (by decide) tw_385 dX9_wind_1 rfl ?_
  refine S_iload_n 1 dX9_wind_4 rfl rfl rfl ?_
  refine S_callV_i (as := [qi a1]) (st := []) (fun _ => rfl) (TX1_isCell 5 a1 qk_5 h) yv_X1_isCell tw_756 qC_1 qk_5 (by decide) rfl rfl (Nat.le_of_ble_eq_true rfl) dX9_wind_5 rfl (fun r1 h2 e3 => ?_)
  refine S_if_ne (tgt := 14) dX9_wind_8 (by decide) rfl (fun _ => ?_) (fun _ => ?_)
  · refine S_iload_n 2 dX9_wind_14 rfl rfl rfl ?_
    refine S_if_lt (tgt := 25) dX9_wind_15 (by decide) rfl (fun _ => ?_) (fun _ => ?_)
    · refine S_bipush (a := (-3)) dX9_wind_25 rfl (by decide) (by decide) ?_
      exact S_iret dX9_wind_27
    · refine S_iload_n 2 dX9_wind_18 rfl rfl rfl ?_
      refine S_sipush (a := 999) dX9_wind_19 rfl (by decide) (by decide) ?_
      refine S_icmp_le (tgt := 28) dX9_wind_22 (by decide) rfl (fun _ => ?_) (fun _ => ?_)
      · refine S_aload_n 0 dX9_wind_28 rfl rfl rfl ?_
        refine S_getr (j := 4) (o := 4) 3 qC_9 (by decide) (by decide) qk_0 rfl rfl (by decide) tw_384 dX9_wind_29 rfl ?_
        refine S_iload_n 1 dX9_wind_32 rfl rfl rfl ?_
        refine S_aload_n 0 dX9_wind_33 rfl rfl rfl ?_
        refine S_getr (j := 24) (o := 24) 5 qC_9 (by decide) (by decide) qk_0 rfl rfl (by decide) tw_386 dX9_wind_34 rfl ?_
        refine S_geti 2 qC_7 (by decide) (by decide) qk_24 tw_276 dX9_wind_37 rfl ?_
        refine S_iload_n 2 dX9_wind_40 rfl rfl rfl ?_
        refine S_iadd dX9_wind_41 rfl ?_
        refine S_callV_i (as := [qi a1, qi (qw (h2.1 24 2 + a2))]) (st := []) (fun _ => rfl) (TX2_windAt a1 (qw (h2.1 24 2 + a2)) h2) yv_X2_windAt tw_790 qC_2 qk_4 (by decide) rfl rfl (Nat.le_of_ble_eq_true rfl) dX9_wind_42 rfl (fun r4 h5 e6 => ?_)
        exact S_iret dX9_wind_45
      · refine S_bipush (a := (-3)) dX9_wind_25 rfl (by decide) (by decide) ?_
        exact S_iret dX9_wind_27
  · refine S_bipush (a := (-2)) dX9_wind_11 rfl (by decide) (by decide) ?_
    exact S_iret dX9_wind_13
def DX9_without (a1 : Int) (a2 : Int) (a3 : Int) (h : qH) : Option (Int × qH) := (qbd (DX9_pairCode a1 a2 h) fun r1 h2 => (if r1 = (-2) then some ((-2), h2) else (qbd (DX1_isShore 5 a3 h2) fun r4 h5 => (if r4 = 0 then some ((-2), h5) else (if a3 = a1 then some ((-2), h5) else (if ¬ a3 = a2 then (if r1 = 0 then (qbd (DX2_soonest a1 a2 (h5.1 24 2) h5) fun r7 h8 => (if ¬ r7 = (-1) then (qlt (qu h8 4 6 a3) fun h10 => (qbd (DX2_soonest a1 a2 (h10.1 24 2) h10) fun r11 h12 => (qlt (qu h12 4 6 (-1)) fun h14 => (if ¬ r11 = (-1) then (qbd (DX2_arrivalOf r11 h14) fun r15 h16 => (qbd (DX2_arrivalOf r7 h16) fun r18 h19 => some (qw (r15 - r18), h19))) else some ((-1), h14))))) else some ((-1), h8))) else some (r1, h5)) else some ((-2), h5)))))))
set_option maxRecDepth 100000 in
theorem TX9_without {L : Nat} {xs : Nat → Int32} (a1 : Int) (a2 : Int) (a3 : Int) (h : qH) : qMet L xs yX9_without cX9_without 7 (some .int) 1 8 [qr 0, qi a1, qi a2, qi a3] h (DX9_without a1 a2 a3 h) := by
  refine qMet.of (by decide +kernel) (Or.inr (Or.inl ⟨rfl, rfl⟩)) (Nat.le_of_ble_eq_true rfl) ?_
  show qS L xs cX9_without "BottlePost" 7 8 1 0 [(0, qr 0), (1, qi a1), (2, qi a2), (3, qi a3)] [] h (DX9_without a1 a2 a3 h)
  unfold DX9_without
  refine S_aload_n 0 dX9_without_0 rfl rfl rfl ?_
  refine S_iload_n 1 dX9_without_1 rfl rfl rfl ?_
  refine S_iload_n 2 dX9_without_2 rfl rfl rfl ?_
  refine S_callV_i (as := [qi a1, qi a2]) (st := []) (fun _ => rfl) (TX9_pairCode a1 a2 h) yv_X9_pairCode tw_1018 qC_9 qk_0 (by decide) rfl rfl (Nat.le_of_ble_eq_true rfl) dX9_without_3 rfl (fun r1 h2 e3 => ?_)
  refine S_istore (lv' := [(4, qi r1), (0, qr 0), (1, qi a1), (2, qi a2), (3, qi a3)]) dX9_without_6 (by decide) rfl rfl ?_
  refine S_iload 0 dX9_without_8 rfl rfl ?_
  refine S_bipush (a := (-2)) dX9_without_10 rfl (by decide) (by decide) ?_
  refine S_icmp_eq (tgt := 36) dX9_without_12 (by decide) rfl (fun _ => ?_) (fun _ => ?_)
  · refine S_bipush (a := (-2)) dX9_without_36 rfl (by decide) (by decide) ?_
    exact S_iret dX9_without_38
  · refine S_aload_n 1 dX9_without_15 rfl rfl rfl ?_
    refine S_getr (j := 5) (o := 5) 4 qC_9 (by decide) (by decide) qk_0 rfl rfl (by decide) tw_385 dX9_without_16 rfl ?_
    refine S_iload_n 4 dX9_without_19 rfl rfl rfl ?_
    refine S_callV_i (as := [qi a3]) (st := []) (fun _ => rfl) (TX1_isShore 5 a3 qk_5 h2) yv_X1_isShore tw_761 qC_1 qk_5 (by decide) rfl rfl (Nat.le_of_ble_eq_true rfl) dX9_without_20 rfl (fun r4 h5 e6 => ?_)
    refine S_if_eq (tgt := 36) dX9_without_23 (by decide) rfl (fun _ => ?_) (fun _ => ?_)
    · refine S_bipush (a := (-2)) dX9_without_36 rfl (by decide) (by decide) ?_
      exact S_iret dX9_without_38
    · refine S_iload_n 4 dX9_without_26 rfl rfl rfl ?_
      refine S_iload_n 2 dX9_without_27 rfl rfl rfl ?_
      refine S_icmp_eq (tgt := 36) dX9_without_28 (by decide) rfl (fun _ => ?_) (fun _ => ?_)
      · refine S_bipush (a := (-2)) dX9_without_36 rfl (by decide) (by decide) ?_
        exact S_iret dX9_without_38
      · refine S_iload_n 4 dX9_without_31 rfl rfl rfl ?_
        refine S_iload_n 3 dX9_without_32 rfl rfl rfl ?_
        refine S_icmp_ne (tgt := 39) dX9_without_33 (by decide) rfl (fun _ => ?_) (fun _ => ?_)
        · refine S_iload 0 dX9_without_39 rfl rfl ?_
          refine S_if_eq (tgt := 47) dX9_without_41 (by decide) rfl (fun _ => ?_) (fun _ => ?_)
          · refine S_aload_n 1 dX9_without_47 rfl rfl rfl ?_
            refine S_getr (j := 4) (o := 4) 3 qC_9 (by decide) (by decide) qk_0 rfl rfl (by decide) tw_384 dX9_without_48 rfl ?_
            refine S_iload_n 2 dX9_without_51 rfl rfl rfl ?_
            refine S_iload_n 3 dX9_without_52 rfl rfl rfl ?_
            refine S_aload_n 1 dX9_without_53 rfl rfl rfl ?_
            refine S_getr (j := 24) (o := 24) 5 qC_9 (by decide) (by decide) qk_0 rfl rfl (by decide) tw_386 dX9_without_54 rfl ?_
            refine S_geti 2 qC_7 (by decide) (by decide) qk_24 tw_276 dX9_without_57 rfl ?_
            refine S_callV_i (as := [qi a1, qi a2, qi (h5.1 24 2)]) (st := []) (fun _ => rfl) (TX2_soonest a1 a2 (h5.1 24 2) h5) yv_X2_soonest tw_1042 qC_2 qk_4 (by decide) rfl rfl (Nat.le_of_ble_eq_true rfl) dX9_without_60 rfl (fun r7 h8 e9 => ?_)
            refine S_istore (lv' := [(5, qi r7), (4, qi r1), (0, qr 0), (1, qi a1), (2, qi a2), (3, qi a3)]) dX9_without_63 (by decide) rfl rfl ?_
            refine S_iload 0 dX9_without_65 rfl rfl ?_
            refine S_iconst (a := (-1)) dX9_without_67 rfl (by decide) ?_
            refine S_icmp_ne (tgt := 73) dX9_without_68 (by decide) rfl (fun _ => ?_) (fun _ => ?_)
            · refine S_aload_n 2 dX9_without_73 rfl rfl rfl ?_
              refine S_getr (j := 4) (o := 4) 3 qC_9 (by decide) (by decide) qk_0 rfl rfl (by decide) tw_384 dX9_without_74 rfl ?_
              refine S_iload_n 5 dX9_without_77 rfl rfl rfl ?_
              refine S_puti 6 qC_2 (by decide) (by decide) rfl rfl qk_4 (by decide) tw_246 dX9_without_78 rfl ?_
              refine S_lh (fun h10 => ?_)
              refine S_aload_n 2 dX9_without_81 rfl rfl rfl ?_
              refine S_getr (j := 4) (o := 4) 3 qC_9 (by decide) (by decide) qk_0 rfl rfl (by decide) tw_384 dX9_without_82 rfl ?_
              refine S_iload_n 3 dX9_without_85 rfl rfl rfl ?_
              refine S_iload_n 4 dX9_without_86 rfl rfl rfl ?_
              refine S_aload_n 2 dX9_without_87 rfl rfl rfl ?_
              refine S_getr (j := 24) (o := 24) 5 qC_9 (by decide) (by decide) qk_0 rfl rfl (by decide) tw_386 dX9_without_88 rfl ?_
              refine S_geti 2 qC_7 (by decide) (by decide) qk_24 tw_276 dX9_without_91 rfl ?_
              refine S_callV_i (as := [qi a1, qi a2, qi (h10.1 24 2)]) (st := []) (fun _ => rfl) (TX2_soonest a1 a2 (h10.1 24 2) h10) yv_X2_soonest tw_1042 qC_2 qk_4 (by decide) rfl rfl (Nat.le_of_ble_eq_true rfl) dX9_without_94 rfl (fun r11 h12 e13 => ?_)
              refine S_istore (lv' := [(6, qi r11), (5, qi r7), (4, qi r1), (0, qr 0), (1, qi a1), (2, qi a2), (3, qi a3)]) dX9_without_97 (by decide) rfl rfl ?_
              refine S_aload_n 3 dX9_without_99 rfl rfl rfl ?_
              refine S_getr (j := 4) (o := 4) 3 qC_9 (by decide) (by decide) qk_0 rfl rfl (by decide) tw_384 dX9_without_100 rfl ?_
              refine S_iconst (a := (-1)) dX9_without_103 rfl (by decide) ?_
              refine S_puti 6 qC_2 (by decide) (by decide) rfl rfl qk_4 (by decide) tw_246 dX9_without_104 rfl ?_
              refine S_lh (fun h14 => ?_)
              refine S_iload 0 dX9_without_107 rfl rfl ?_
              refine S_iconst (a := (-1)) dX9_without_109 rfl (by decide) ?_
              refine S_icmp_ne (tgt := 117) dX9_without_110 (by decide) rfl (fun _ => ?_) (fun _ => ?_)
              · refine S_iload 0 dX9_without_117 rfl rfl ?_
                refine S_callS_i (as := [qi r11]) (st := []) (fun _ => rfl) (TX2_arrivalOf r11 h14) yv_X2_arrivalOf tw_1049 (by decide) rfl rfl (Nat.le_of_ble_eq_true rfl) dX9_without_119 rfl (fun r15 h16 e17 => ?_)
                refine S_iload 1 dX9_without_122 rfl rfl ?_
                refine S_callS_i (as := [qi r7]) (st := [qi r15]) (fun _ => rfl) (TX2_arrivalOf r7 h16) yv_X2_arrivalOf tw_1049 (by decide) rfl rfl (Nat.le_of_ble_eq_true rfl) dX9_without_124 rfl (fun r18 h19 e20 => ?_)
                refine S_isub dX9_without_127 rfl ?_
                exact S_iret dX9_without_128
              · refine S_iconst (a := (-1)) dX9_without_113 rfl (by decide) ?_
                refine S_goto (pc' := 128) dX9_without_114 (by decide) ?_
                exact S_iret dX9_without_128
            · refine S_iconst (a := (-1)) dX9_without_71 rfl (by decide) ?_
              exact S_iret dX9_without_72
          · refine S_iload 0 dX9_without_44 rfl rfl ?_
            exact S_iret dX9_without_46
        · refine S_bipush (a := (-2)) dX9_without_36 rfl (by decide) (by decide) ?_
          exact S_iret dX9_without_38
def DX9_write (a1 : Int) (a2 : Int) (a3 : Int) (h : qH) : Option (Int × qH) := (qbd (DX9_isTray a1 h) fun r1 h2 => (if ¬ r1 = 0 then (if 0 ≤ a1 ∧ a1 < 4 then (qbd (DX6_missing (168 + 2 * a1.toNat) h2) fun r6 h7 => (if r6 = 0 then (if a2 < 0 then some ((-7), h7) else (if 0 ≤ a1 ∧ a1 < 4 then (if a2 < h7.1 (168 + 2 * a1.toNat) 2 then (if 0 ≤ a1 ∧ a1 < 4 then (qbd (DX6_put (168 + 2 * a1.toNat) a2 a3 h7) fun r13 h14 => (if 0 ≤ a1 ∧ a1 < 4 then (qbd (DX6_numberAt (168 + 2 * a1.toNat) a2 h14) fun r18 h19 => some (r18, h19)) else none)) else none) else some ((-7), h7)) else none)) else some ((-6), h7))) else none) else some ((-2), h2)))
set_option maxRecDepth 100000 in
theorem TX9_write {L : Nat} {xs : Nat → Int32} (a1 : Int) (a2 : Int) (a3 : Int) (h : qH) : qMet L xs yX9_write cX9_write 5 (some .long) 2 3 [qr 0, qi a1, qi a2, ql a3] h (DX9_write a1 a2 a3 h) := by
  refine qMet.of (by decide +kernel) (Or.inr (Or.inr (Or.inl ⟨rfl, rfl⟩))) (Nat.le_of_ble_eq_true rfl) ?_
  show qS L xs cX9_write "BottlePost" 5 3 2 0 [(0, qr 0), (1, qi a1), (2, qi a2), (3, ql a3)] [] h (DX9_write a1 a2 a3 h)
  unfold DX9_write
  refine S_iload_n 1 dX9_write_0 rfl rfl rfl ?_
  refine S_callS_i (as := [qi a1]) (st := []) (fun _ => rfl) (TX9_isTray a1 h) yv_X9_isTray tw_940 (by decide) rfl rfl (Nat.le_of_ble_eq_true rfl) dX9_write_1 rfl (fun r1 h2 e3 => ?_)
  refine S_if_ne (tgt := 11) dX9_write_4 (by decide) rfl (fun _ => ?_) (fun _ => ?_)
  · refine S_aload_n 0 dX9_write_11 rfl rfl rfl ?_
    refine S_getr (j := 164) (o := 164) 12 qC_9 (by decide) (by decide) qk_0 rfl rfl (by decide) tw_393 dX9_write_12 rfl ?_
    refine S_iload_n 1 dX9_write_15 rfl rfl rfl ?_
    refine S_aald (j := (168 + 2 * a1.toNat)) (C := "BottlePost$Tray") (N := 4) qk_164 (by decide) (by decide) (fun _ => rfl) rfl dX9_write_16 rfl (fun g4 g5 => (qel_164 g4 g5).2) (fun g4 g5 => ?_)
    refine S_callV_i (as := []) (st := []) (fun _ => rfl) (TX6_missing (168 + 2 * a1.toNat) (qel_164 g4 g5).1 h2) yv_X6_missing tw_943 qC_6 (qel_164 g4 g5).1 (by decide) rfl rfl (Nat.le_of_ble_eq_true rfl) dX9_write_17 rfl (fun r6 h7 e8 => ?_)
    refine S_if_eq (tgt := 27) dX9_write_20 (by decide) rfl (fun _ => ?_) (fun _ => ?_)
    · refine S_iload_n 2 dX9_write_27 rfl rfl rfl ?_
      refine S_if_lt (tgt := 44) dX9_write_28 (by decide) rfl (fun _ => ?_) (fun _ => ?_)
      · refine S_ldc2 (a := (-7)) dX9_write_44 rfl (by rw [show Int64.ofInt (-7) = ((-7) : Int64) from by decide]; exact tw_1192) (by decide) ?_
        exact S_lret dX9_write_47
      · refine S_iload_n 2 dX9_write_31 rfl rfl rfl ?_
        refine S_aload_n 0 dX9_write_32 rfl rfl rfl ?_
        refine S_getr (j := 164) (o := 164) 12 qC_9 (by decide) (by decide) qk_0 rfl rfl (by decide) tw_393 dX9_write_33 rfl ?_
        refine S_iload_n 1 dX9_write_36 rfl rfl rfl ?_
        refine S_aald (j := (168 + 2 * a1.toNat)) (C := "BottlePost$Tray") (N := 4) qk_164 (by decide) (by decide) (fun _ => rfl) rfl dX9_write_37 rfl (fun g9 g10 => (qel_164 g9 g10).2) (fun g9 g10 => ?_)
        refine S_geti 2 qC_6 (by decide) (by decide) (qel_164 g9 g10).1 tw_370 dX9_write_38 rfl ?_
        refine S_icmp_lt (tgt := 48) dX9_write_41 (by decide) rfl (fun _ => ?_) (fun _ => ?_)
        · refine S_aload_n 0 dX9_write_48 rfl rfl rfl ?_
          refine S_getr (j := 164) (o := 164) 12 qC_9 (by decide) (by decide) qk_0 rfl rfl (by decide) tw_393 dX9_write_49 rfl ?_
          refine S_iload_n 1 dX9_write_52 rfl rfl rfl ?_
          refine S_aald (j := (168 + 2 * a1.toNat)) (C := "BottlePost$Tray") (N := 4) qk_164 (by decide) (by decide) (fun _ => rfl) rfl dX9_write_53 rfl (fun g11 g12 => (qel_164 g11 g12).2) (fun g11 g12 => ?_)
          refine S_iload_n 2 dX9_write_54 rfl rfl rfl ?_
          refine S_lload_n 3 dX9_write_55 rfl rfl rfl ?_
          refine S_callV_0 (as := [qi a2, ql a3]) (st := []) (fun _ => rfl) (TX6_put (168 + 2 * a1.toNat) a2 a3 (qel_164 g11 g12).1 h7) yv_X6_put tw_1193 qC_6 (qel_164 g11 g12).1 (by decide) rfl rfl (Nat.le_of_ble_eq_true rfl) dX9_write_56 rfl (fun r13 h14 e15 => ?_)
          refine S_aload_n 0 dX9_write_59 rfl rfl rfl ?_
          refine S_getr (j := 164) (o := 164) 12 qC_9 (by decide) (by decide) qk_0 rfl rfl (by decide) tw_393 dX9_write_60 rfl ?_
          refine S_iload_n 1 dX9_write_63 rfl rfl rfl ?_
          refine S_aald (j := (168 + 2 * a1.toNat)) (C := "BottlePost$Tray") (N := 4) qk_164 (by decide) (by decide) (fun _ => rfl) rfl dX9_write_64 rfl (fun g16 g17 => (qel_164 g16 g17).2) (fun g16 g17 => ?_)
          refine S_iload_n 2 dX9_write_65 rfl rfl rfl ?_
          refine S_callV_l (as := [qi a2]) (st := []) (fun _ => rfl) (TX6_numberAt (168 + 2 * a1.toNat) a2 (qel_164 g16 g17).1 h14) yv_X6_numberAt tw_952 qC_6 (qel_164 g16 g17).1 (by decide) rfl rfl (Nat.le_of_ble_eq_true rfl) dX9_write_66 rfl (fun r18 h19 e20 => ?_)
          exact S_lret dX9_write_69
        · refine S_ldc2 (a := (-7)) dX9_write_44 rfl (by rw [show Int64.ofInt (-7) = ((-7) : Int64) from by decide]; exact tw_1192) (by decide) ?_
          exact S_lret dX9_write_47
    · refine S_ldc2 (a := (-6)) dX9_write_23 rfl (by rw [show Int64.ofInt (-6) = ((-6) : Int64) from by decide]; exact tw_1191) (by decide) ?_
      exact S_lret dX9_write_26
  · refine S_ldc2 (a := (-2)) dX9_write_7 rfl (by rw [show Int64.ofInt (-2) = ((-2) : Int64) from by decide]; exact tw_1190) (by decide) ?_
    exact S_lret dX9_write_10
def DX10_within (a0 : Int) (a2 : Int) (a4 : Int) (h : qH) : Option (Int × qH) := (if qcmp a0 a2 < 0 then some (0, h) else (if 0 < qcmp a0 a4 then some (0, h) else some (1, h)))
set_option maxRecDepth 100000 in
theorem TX10_within {L : Nat} {xs : Nat → Int32} (a0 : Int) (a2 : Int) (a4 : Int) (h : qH) : qMet L xs yX10_within cX10_within 6 (some .boolean) 4 1 [ql a0, ql a2, ql a4] h (DX10_within a0 a2 a4 h) := by
  refine qMet.of (by decide +kernel) (Or.inr (Or.inr (Or.inr (Or.inr (Or.inl ⟨rfl, rfl⟩))))) (Nat.le_of_ble_eq_true rfl) ?_
  show qS L xs cX10_within "BottlePostModel" 6 1 4 0 [(0, ql a0), (2, ql a2), (4, ql a4)] [] h (DX10_within a0 a2 a4 h)
  unfold DX10_within
  refine S_lload_n 0 dX10_within_0 rfl rfl rfl ?_
  refine S_lload_n 1 dX10_within_1 rfl rfl rfl ?_
  refine S_lcmp dX10_within_2 rfl ?_
  refine S_if_lt (tgt := 17) dX10_within_3 (by decide) rfl (fun _ => ?_) (fun _ => ?_)
  · refine S_iconst (a := 0) dX10_within_17 rfl (by decide) ?_
    exact S_zretl (by decide) dX10_within_18
  · refine S_lload_n 0 dX10_within_6 rfl rfl rfl ?_
    refine S_lload 2 dX10_within_7 rfl rfl ?_
    refine S_lcmp dX10_within_9 rfl ?_
    refine S_if_gt (tgt := 17) dX10_within_10 (by decide) rfl (fun _ => ?_) (fun _ => ?_)
    · refine S_iconst (a := 0) dX10_within_17 rfl (by decide) ?_
      exact S_zretl (by decide) dX10_within_18
    · refine S_iconst (a := 1) dX10_within_13 rfl (by decide) ?_
      refine S_goto (pc' := 18) dX10_within_14 (by decide) ?_
      exact S_zretl (by decide) dX10_within_18
def DX10_beyond_b56 (a3 : Int) (b0 : Int) (b1 : Int) (h : qH) : Option (Int × qH) := (qlt (qw (b1 + b0)) fun v1 => (qbd (DX10_within a3 0 (qw (h.1 213 1 - 1)) h) fun r4 h5 => (if r4 = 0 then some ((-1), h5) else (qbd (DX10_within v1 0 (qw (h5.1 213 2 - 1)) h5) fun r9 h10 => (if r9 = 0 then some ((-1), h10) else some (qw (qw (h10.1 213 1 * v1) + a3), h10))))))
set_option maxRecDepth 100000 in
theorem TX10_beyond_b56 {L : Nat} {xs : Nat → Int32} (a3 : Int) (b0 : Int) (b1 : Int) (h : qH) : qS L xs cX10_beyond "BottlePostModel" 5 2 1 56 [(0, qr 212), (3, qi a3)] [qi b0, qi b1] h (DX10_beyond_b56 a3 b0 b1 h) := by
  unfold DX10_beyond_b56
  refine S_iadd dX10_beyond_56 rfl ?_
  refine S_istore (lv' := [(4, qi (qw (b1 + b0))), (0, qr 212), (3, qi a3)]) dX10_beyond_57 (by decide) rfl rfl ?_
  refine S_li (fun v1 => ?_)
  refine S_iload_n 2 dX10_beyond_59 rfl rfl rfl ?_
  refine S_i2l dX10_beyond_60 rfl ?_
  refine S_lconst (a := 0) dX10_beyond_61 rfl (by decide) (by decide) ?_
  refine S_aload_n 1 dX10_beyond_62 rfl rfl rfl ?_
  refine S_getr (j := 213) (o := 1) 1 qC_10 (by decide) (by decide) qk_212 rfl rfl (by decide) tw_1227 dX10_beyond_63 rfl ?_
  refine S_iconst (a := 1) dX10_beyond_66 rfl (by decide) ?_
  refine S_pick_t ((0 : Int) ≤ 1 ∧ (1 : Int) < 5736) (by decide) ?_
  refine S_iald (N := 5736) qk_213 rfl dX10_beyond_67 rfl (fun g2 g3 => ?_)
  refine S_iconst (a := 1) dX10_beyond_68 rfl (by decide) ?_
  refine S_isub dX10_beyond_69 rfl ?_
  refine S_i2l dX10_beyond_70 rfl ?_
  refine S_callS_i (as := [ql a3, ql 0, ql (qw (h.1 213 1 - 1))]) (st := []) (fun _ => rfl) (TX10_within a3 0 (qw (h.1 213 1 - 1)) h) yv_X10_within tw_1352 (by decide) rfl rfl (Nat.le_of_ble_eq_true rfl) dX10_beyond_71 rfl (fun r4 h5 e6 => ?_)
  refine S_if_eq (tgt := 110) dX10_beyond_74 (by decide) rfl (fun _ => ?_) (fun _ => ?_)
  · refine S_iconst (a := (-1)) dX10_beyond_110 rfl (by decide) ?_
    exact S_iret dX10_beyond_111
  · refine S_iload 0 dX10_beyond_77 rfl rfl ?_
    refine S_i2l dX10_beyond_79 rfl ?_
    refine S_lconst (a := 0) dX10_beyond_80 rfl (by decide) (by decide) ?_
    refine S_aload_n 1 dX10_beyond_81 rfl rfl rfl ?_
    refine S_getr (j := 213) (o := 1) 1 qC_10 (by decide) (by decide) qk_212 rfl rfl (by decide) tw_1227 dX10_beyond_82 rfl ?_
    refine S_iconst (a := 2) dX10_beyond_85 rfl (by decide) ?_
    refine S_pick_t ((0 : Int) ≤ 2 ∧ (2 : Int) < 5736) (by decide) ?_
    refine S_iald (N := 5736) qk_213 rfl dX10_beyond_86 rfl (fun g7 g8 => ?_)
    refine S_iconst (a := 1) dX10_beyond_87 rfl (by decide) ?_
    refine S_isub dX10_beyond_88 rfl ?_
    refine S_i2l dX10_beyond_89 rfl ?_
    refine S_callS_i (as := [ql v1, ql 0, ql (qw (h5.1 213 2 - 1))]) (st := []) (fun _ => rfl) (TX10_within v1 0 (qw (h5.1 213 2 - 1)) h5) yv_X10_within tw_1352 (by decide) rfl rfl (Nat.le_of_ble_eq_true rfl) dX10_beyond_90 rfl (fun r9 h10 e11 => ?_)
    refine S_if_eq (tgt := 110) dX10_beyond_93 (by decide) rfl (fun _ => ?_) (fun _ => ?_)
    · refine S_iconst (a := (-1)) dX10_beyond_110 rfl (by decide) ?_
      exact S_iret dX10_beyond_111
    · refine S_aload_n 1 dX10_beyond_96 rfl rfl rfl ?_
      refine S_getr (j := 213) (o := 1) 1 qC_10 (by decide) (by decide) qk_212 rfl rfl (by decide) tw_1227 dX10_beyond_97 rfl ?_
      refine S_iconst (a := 1) dX10_beyond_100 rfl (by decide) ?_
      refine S_pick_t ((0 : Int) ≤ 1 ∧ (1 : Int) < 5736) (by decide) ?_
      refine S_iald (N := 5736) qk_213 rfl dX10_beyond_101 rfl (fun g12 g13 => ?_)
      refine S_iload 0 dX10_beyond_102 rfl rfl ?_
      refine S_imul dX10_beyond_104 rfl ?_
      refine S_iload_n 2 dX10_beyond_105 rfl rfl rfl ?_
      refine S_iadd dX10_beyond_106 rfl ?_
      refine S_goto (pc' := 111) dX10_beyond_107 (by decide) ?_
      exact S_iret dX10_beyond_111
def DX10_beyond_b27 (a1 : Int) (a2 : Int) (b0 : Int) (b1 : Int) (h : qH) : Option (Int × qH) := (qlt (qw (b1 + b0)) fun v14 => (if h.1 213 1 = 0 then none else (if ¬ a2 = 3 then (if ¬ a2 = 1 then (DX10_beyond_b56 v14 0 (qdiv a1 (h.1 213 1)) h) else (DX10_beyond_b56 v14 (-1) (qdiv a1 (h.1 213 1)) h)) else (DX10_beyond_b56 v14 1 (qdiv a1 (h.1 213 1)) h))))
set_option maxRecDepth 100000 in
theorem TX10_beyond_b27 {L : Nat} {xs : Nat → Int32} (a1 : Int) (a2 : Int) (b0 : Int) (b1 : Int) (h : qH) : qS L xs cX10_beyond "BottlePostModel" 5 2 1 27 [(0, qr 212), (1, qi a1), (2, qi a2)] [qi b0, qi b1] h (DX10_beyond_b27 a1 a2 b0 b1 h) := by
  unfold DX10_beyond_b27
  refine S_iadd dX10_beyond_27 rfl ?_
  refine S_istore_n (lv' := [(3, qi (qw (b1 + b0))), (0, qr 212), (1, qi a1), (2, qi a2)]) dX10_beyond_28 rfl (by decide) rfl rfl ?_
  refine S_li (fun v14 => ?_)
  refine S_iload_n 2 dX10_beyond_29 rfl rfl rfl ?_
  refine S_aload_n 1 dX10_beyond_30 rfl rfl rfl ?_
  refine S_getr (j := 213) (o := 1) 1 qC_10 (by decide) (by decide) qk_212 rfl rfl (by decide) tw_1227 dX10_beyond_31 rfl ?_
  refine S_iconst (a := 1) dX10_beyond_34 rfl (by decide) ?_
  refine S_pick_t ((0 : Int) ≤ 1 ∧ (1 : Int) < 5736) (by decide) ?_
  refine S_iald (N := 5736) qk_213 rfl dX10_beyond_35 rfl (fun g15 g16 => ?_)
  refine S_ite (fun _ => S_none) (fun gz => ?_)
  refine S_idiv dX10_beyond_36 rfl gz ?_
  refine S_iload_n 3 dX10_beyond_37 rfl rfl rfl ?_
  refine S_iconst (a := 3) dX10_beyond_38 rfl (by decide) ?_
  refine S_icmp_ne (tgt := 46) dX10_beyond_39 (by decide) rfl (fun _ => ?_) (fun _ => ?_)
  · refine S_iload_n 3 dX10_beyond_46 rfl rfl rfl ?_
    refine S_iconst (a := 1) dX10_beyond_47 rfl (by decide) ?_
    refine S_icmp_ne (tgt := 55) dX10_beyond_48 (by decide) rfl (fun _ => ?_) (fun _ => ?_)
    · refine S_iconst (a := 0) dX10_beyond_55 rfl (by decide) ?_
      refine S_sub [1, 0] rfl ?_
      exact TX10_beyond_b56 v14 0 (qdiv a1 (h.1 213 1)) h
    · refine S_iconst (a := (-1)) dX10_beyond_51 rfl (by decide) ?_
      refine S_goto (pc' := 56) dX10_beyond_52 (by decide) ?_
      refine S_sub [1, 0] rfl ?_
      exact TX10_beyond_b56 v14 (-1) (qdiv a1 (h.1 213 1)) h
  · refine S_iconst (a := 1) dX10_beyond_42 rfl (by decide) ?_
    refine S_goto (pc' := 56) dX10_beyond_43 (by decide) ?_
    refine S_sub [1, 0] rfl ?_
    exact TX10_beyond_b56 v14 1 (qdiv a1 (h.1 213 1)) h
def DX10_beyond (a1 : Int) (a2 : Int) (h : qH) : Option (Int × qH) := (if h.1 213 1 = 0 then none else (if ¬ a2 = 2 then (if ¬ a2 = 4 then (DX10_beyond_b27 a1 a2 0 (qrem a1 (h.1 213 1)) h) else (DX10_beyond_b27 a1 a2 (-1) (qrem a1 (h.1 213 1)) h)) else (DX10_beyond_b27 a1 a2 1 (qrem a1 (h.1 213 1)) h)))
set_option maxRecDepth 100000 in
theorem TX10_beyond {L : Nat} {xs : Nat → Int32} (a1 : Int) (a2 : Int) (h : qH) : qMet L xs yX10_beyond cX10_beyond 5 (some .int) 1 2 [qr 212, qi a1, qi a2] h (DX10_beyond a1 a2 h) := by
  refine qMet.of (by decide +kernel) (Or.inr (Or.inl ⟨rfl, rfl⟩)) (Nat.le_of_ble_eq_true rfl) ?_
  show qS L xs cX10_beyond "BottlePostModel" 5 2 1 0 [(0, qr 212), (1, qi a1), (2, qi a2)] [] h (DX10_beyond a1 a2 h)
  unfold DX10_beyond
  refine S_iload_n 1 dX10_beyond_0 rfl rfl rfl ?_
  refine S_aload_n 0 dX10_beyond_1 rfl rfl rfl ?_
  refine S_getr (j := 213) (o := 1) 1 qC_10 (by decide) (by decide) qk_212 rfl rfl (by decide) tw_1227 dX10_beyond_2 rfl ?_
  refine S_iconst (a := 1) dX10_beyond_5 rfl (by decide) ?_
  refine S_pick_t ((0 : Int) ≤ 1 ∧ (1 : Int) < 5736) (by decide) ?_
  refine S_iald (N := 5736) qk_213 rfl dX10_beyond_6 rfl (fun g17 g18 => ?_)
  refine S_ite (fun _ => S_none) (fun gz => ?_)
  refine S_irem dX10_beyond_7 rfl gz ?_
  refine S_iload_n 2 dX10_beyond_8 rfl rfl rfl ?_
  refine S_iconst (a := 2) dX10_beyond_9 rfl (by decide) ?_
  refine S_icmp_ne (tgt := 17) dX10_beyond_10 (by decide) rfl (fun _ => ?_) (fun _ => ?_)
  · refine S_iload_n 2 dX10_beyond_17 rfl rfl rfl ?_
    refine S_iconst (a := 4) dX10_beyond_18 rfl (by decide) ?_
    refine S_icmp_ne (tgt := 26) dX10_beyond_19 (by decide) rfl (fun _ => ?_) (fun _ => ?_)
    · refine S_iconst (a := 0) dX10_beyond_26 rfl (by decide) ?_
      exact TX10_beyond_b27 a1 a2 0 (qrem a1 (h.1 213 1)) h
    · refine S_iconst (a := (-1)) dX10_beyond_22 rfl (by decide) ?_
      refine S_goto (pc' := 27) dX10_beyond_23 (by decide) ?_
      exact TX10_beyond_b27 a1 a2 (-1) (qrem a1 (h.1 213 1)) h
  · refine S_iconst (a := 1) dX10_beyond_13 rfl (by decide) ?_
    refine S_goto (pc' := 27) dX10_beyond_14 (by decide) ?_
    exact TX10_beyond_b27 a1 a2 1 (qrem a1 (h.1 213 1)) h
def DX10_goes_b28 (b0 : Int) (h : qH) : Option (Int × qH) := (if ¬ b0 = (-1) then (qlt (qu h 217 1 b0) fun h1 => (if 0 ≤ qw (14 + b0) ∧ qw (14 + b0) < 5736 then (if ¬ h1.1 213 (qw (14 + b0)).toNat = 0 then (if 0 ≤ qw (14 + b0) ∧ qw (14 + b0) < 5736 then (if ¬ h1.1 213 (qw (14 + b0)).toNat = 1 then (qlt (qu h1 217 0 1) fun h6 => some (0, h6)) else (qlt (qu h1 217 0 3) fun h7 => some (0, h7))) else none) else (qlt (qu h1 217 0 0) fun h8 => some (0, h8))) else none)) else some (0, h))
set_option maxRecDepth 100000 in
theorem TX10_goes_b28 {L : Nat} {xs : Nat → Int32} (b0 : Int) (h : qH) : qS L xs cX10_goes "BottlePostModel" 3 3 0 28 [(0, qr 212)] [qi b0] h (DX10_goes_b28 b0 h) := by
  unfold DX10_goes_b28
  refine S_istore_n (lv' := [(2, qi b0), (0, qr 212)]) dX10_goes_28 rfl (by decide) rfl rfl ?_
  refine S_iload_n 0 dX10_goes_29 rfl rfl rfl ?_
  refine S_iconst (a := (-1)) dX10_goes_30 rfl (by decide) ?_
  refine S_icmp_ne (tgt := 35) dX10_goes_31 (by decide) rfl (fun _ => ?_) (fun _ => ?_)
  · refine S_aload_n 1 dX10_goes_35 rfl rfl rfl ?_
    refine S_getr (j := 217) (o := 5) 16 qC_10 (by decide) (by decide) qk_212 rfl rfl (by decide) tw_1242 dX10_goes_36 rfl ?_
    refine S_iconst (a := 1) dX10_goes_39 rfl (by decide) ?_
    refine S_iload_n 0 dX10_goes_40 rfl rfl rfl ?_
    refine S_pick_t ((0 : Int) ≤ 1 ∧ (1 : Int) < 8) (by decide) ?_
    refine S_iast (N := 8) qk_217 rfl dX10_goes_41 rfl (fun _ _ => ?_)
    refine S_lh (fun h1 => ?_)
    refine S_aload_n 1 dX10_goes_42 rfl rfl rfl ?_
    refine S_getr (j := 217) (o := 5) 16 qC_10 (by decide) (by decide) qk_212 rfl rfl (by decide) tw_1242 dX10_goes_43 rfl ?_
    refine S_iconst (a := 0) dX10_goes_46 rfl (by decide) ?_
    refine S_aload_n 1 dX10_goes_47 rfl rfl rfl ?_
    refine S_getr (j := 213) (o := 1) 1 qC_10 (by decide) (by decide) qk_212 rfl rfl (by decide) tw_1227 dX10_goes_48 rfl ?_
    refine S_bipush (a := 14) dX10_goes_51 rfl (by decide) (by decide) ?_
    refine S_iload_n 0 dX10_goes_53 rfl rfl rfl ?_
    refine S_iadd dX10_goes_54 rfl ?_
    refine S_iald (N := 5736) qk_213 rfl dX10_goes_55 rfl (fun g2 g3 => ?_)
    refine S_if_ne (tgt := 63) dX10_goes_56 (by decide) rfl (fun _ => ?_) (fun _ => ?_)
    · refine S_aload_n 1 dX10_goes_63 rfl rfl rfl ?_
      refine S_getr (j := 213) (o := 1) 1 qC_10 (by decide) (by decide) qk_212 rfl rfl (by decide) tw_1227 dX10_goes_64 rfl ?_
      refine S_bipush (a := 14) dX10_goes_67 rfl (by decide) (by decide) ?_
      refine S_iload_n 0 dX10_goes_69 rfl rfl rfl ?_
      refine S_iadd dX10_goes_70 rfl ?_
      refine S_iald (N := 5736) qk_213 rfl dX10_goes_71 rfl (fun g4 g5 => ?_)
      refine S_iconst (a := 1) dX10_goes_72 rfl (by decide) ?_
      refine S_icmp_ne (tgt := 80) dX10_goes_73 (by decide) rfl (fun _ => ?_) (fun _ => ?_)
      · refine S_iconst (a := 1) dX10_goes_80 rfl (by decide) ?_
        refine S_pick_t ((0 : Int) ≤ 0 ∧ (0 : Int) < 8) (by decide) ?_
        refine S_iast (N := 8) qk_217 rfl dX10_goes_81 rfl (fun _ _ => ?_)
        refine S_lh (fun h6 => ?_)
        exact S_vret dX10_goes_82
      · refine S_iconst (a := 3) dX10_goes_76 rfl (by decide) ?_
        refine S_goto (pc' := 81) dX10_goes_77 (by decide) ?_
        refine S_pick_t ((0 : Int) ≤ 0 ∧ (0 : Int) < 8) (by decide) ?_
        refine S_iast (N := 8) qk_217 rfl dX10_goes_81 rfl (fun _ _ => ?_)
        refine S_lh (fun h7 => ?_)
        exact S_vret dX10_goes_82
    · refine S_iconst (a := 0) dX10_goes_59 rfl (by decide) ?_
      refine S_goto (pc' := 81) dX10_goes_60 (by decide) ?_
      refine S_pick_t ((0 : Int) ≤ 0 ∧ (0 : Int) < 8) (by decide) ?_
      refine S_iast (N := 8) qk_217 rfl dX10_goes_81 rfl (fun _ _ => ?_)
      refine S_lh (fun h8 => ?_)
      exact S_vret dX10_goes_82
  · exact S_vret dX10_goes_34
def DX10_goes (a1 : Int) (h : qH) : Option (Int × qH) := (if a1 = 0 then (DX10_goes_b28 (-1) h) else (if h.1 217 0 = 0 then (qbd (DX10_beyond (h.1 217 1) a1 h) fun r13 h14 => (DX10_goes_b28 r13 h14)) else (DX10_goes_b28 (-1) h)))
set_option maxRecDepth 100000 in
theorem TX10_goes {L : Nat} {xs : Nat → Int32} (a1 : Int) (h : qH) : qMet L xs yX10_goes cX10_goes 3 (none) 0 3 [qr 212, qi a1] h (DX10_goes a1 h) := by
  refine qMet.of (by decide +kernel) (Or.inl ⟨rfl, rfl⟩) (Nat.le_of_ble_eq_true rfl) ?_
  show qS L xs cX10_goes "BottlePostModel" 3 3 0 0 [(0, qr 212), (1, qi a1)] [] h (DX10_goes a1 h)
  unfold DX10_goes
  refine S_iload_n 1 dX10_goes_0 rfl rfl rfl ?_
  refine S_if_eq (tgt := 13) dX10_goes_1 (by decide) rfl (fun _ => ?_) (fun _ => ?_)
  · refine S_iconst (a := (-1)) dX10_goes_13 rfl (by decide) ?_
    refine S_goto (pc' := 28) dX10_goes_14 (by decide) ?_
    refine S_sub [0] rfl ?_
    exact TX10_goes_b28 (-1) h
  · refine S_aload_n 0 dX10_goes_4 rfl rfl rfl ?_
    refine S_getr (j := 217) (o := 5) 16 qC_10 (by decide) (by decide) qk_212 rfl rfl (by decide) tw_1242 dX10_goes_5 rfl ?_
    refine S_iconst (a := 0) dX10_goes_8 rfl (by decide) ?_
    refine S_pick_t ((0 : Int) ≤ 0 ∧ (0 : Int) < 8) (by decide) ?_
    refine S_iald (N := 8) qk_217 rfl dX10_goes_9 rfl (fun g9 g10 => ?_)
    refine S_if_eq (tgt := 17) dX10_goes_10 (by decide) rfl (fun _ => ?_) (fun _ => ?_)
    · refine S_aload_n 0 dX10_goes_17 rfl rfl rfl ?_
      refine S_aload_n 0 dX10_goes_18 rfl rfl rfl ?_
      refine S_getr (j := 217) (o := 5) 16 qC_10 (by decide) (by decide) qk_212 rfl rfl (by decide) tw_1242 dX10_goes_19 rfl ?_
      refine S_iconst (a := 1) dX10_goes_22 rfl (by decide) ?_
      refine S_pick_t ((0 : Int) ≤ 1 ∧ (1 : Int) < 8) (by decide) ?_
      refine S_iald (N := 8) qk_217 rfl dX10_goes_23 rfl (fun g11 g12 => ?_)
      refine S_iload_n 1 dX10_goes_24 rfl rfl rfl ?_
      refine S_callV_i (as := [qi (h.1 217 1), qi a1]) (st := []) (fun _ => rfl) (TX10_beyond (h.1 217 1) a1 h) yv_X10_beyond tw_1489 qC_10 qk_212 (by decide) rfl rfl (Nat.le_of_ble_eq_true rfl) dX10_goes_25 rfl (fun r13 h14 e15 => ?_)
      refine S_sub [0] rfl ?_
      exact TX10_goes_b28 r13 h14
    · refine S_iconst (a := (-1)) dX10_goes_13 rfl (by decide) ?_
      refine S_goto (pc' := 28) dX10_goes_14 (by decide) ?_
      refine S_sub [0] rfl ?_
      exact TX10_goes_b28 (-1) h
def DX10_phaseOf (a1 : Int) (h : qH) : Option (Int × qH) := (if h.1 213 3 = 0 then none else some (qrem a1 (h.1 213 3), h))
set_option maxRecDepth 100000 in
theorem TX10_phaseOf {L : Nat} {xs : Nat → Int32} (a1 : Int) (h : qH) : qMet L xs yX10_phaseOf cX10_phaseOf 2 (some .int) 1 1 [qr 212, qi a1] h (DX10_phaseOf a1 h) := by
  refine qMet.of (by decide +kernel) (Or.inr (Or.inl ⟨rfl, rfl⟩)) (Nat.le_of_ble_eq_true rfl) ?_
  show qS L xs cX10_phaseOf "BottlePostModel" 2 1 1 0 [(0, qr 212), (1, qi a1)] [] h (DX10_phaseOf a1 h)
  unfold DX10_phaseOf
  refine S_iload_n 1 dX10_phaseOf_0 rfl rfl rfl ?_
  refine S_aload_n 0 dX10_phaseOf_1 rfl rfl rfl ?_
  refine S_getr (j := 213) (o := 1) 1 qC_10 (by decide) (by decide) qk_212 rfl rfl (by decide) tw_1227 dX10_phaseOf_2 rfl ?_
  refine S_iconst (a := 3) dX10_phaseOf_5 rfl (by decide) ?_
  refine S_pick_t ((0 : Int) ≤ 3 ∧ (3 : Int) < 5736) (by decide) ?_
  refine S_iald (N := 5736) qk_213 rfl dX10_phaseOf_6 rfl (fun g1 g2 => ?_)
  refine S_ite (fun _ => S_none) (fun gz => ?_)
  refine S_irem dX10_phaseOf_7 rfl gz ?_
  exact S_iret dX10_phaseOf_8
def DX10_goesCurrent (a1 : Int) (h : qH) : Option (Int × qH) := (if ¬ h.1 217 0 = 0 then some (0, h) else (qbd (DX10_phaseOf a1 h) fun r5 h6 => (if 0 ≤ qw (qw (50 + qw (6 * h.1 217 1)) + r5) ∧ qw (qw (50 + qw (6 * h.1 217 1)) + r5) < 5736 then (qbd (DX10_goes (h6.1 213 (qw (qw (50 + qw (6 * h.1 217 1)) + r5)).toNat) h6) fun r10 h11 => some (0, h11)) else none)))
set_option maxRecDepth 100000 in
theorem TX10_goesCurrent {L : Nat} {xs : Nat → Int32} (a1 : Int) (h : qH) : qMet L xs yX10_goesCurrent cX10_goesCurrent 2 (none) 0 4 [qr 212, qi a1] h (DX10_goesCurrent a1 h) := by
  refine qMet.of (by decide +kernel) (Or.inl ⟨rfl, rfl⟩) (Nat.le_of_ble_eq_true rfl) ?_
  show qS L xs cX10_goesCurrent "BottlePostModel" 2 4 0 0 [(0, qr 212), (1, qi a1)] [] h (DX10_goesCurrent a1 h)
  unfold DX10_goesCurrent
  refine S_aload_n 0 dX10_goesCurrent_0 rfl rfl rfl ?_
  refine S_getr (j := 217) (o := 5) 16 qC_10 (by decide) (by decide) qk_212 rfl rfl (by decide) tw_1242 dX10_goesCurrent_1 rfl ?_
  refine S_iconst (a := 0) dX10_goesCurrent_4 rfl (by decide) ?_
  refine S_pick_t ((0 : Int) ≤ 0 ∧ (0 : Int) < 8) (by decide) ?_
  refine S_iald (N := 8) qk_217 rfl dX10_goesCurrent_5 rfl (fun g1 g2 => ?_)
  refine S_if_ne (tgt := 36) dX10_goesCurrent_6 (by decide) rfl (fun _ => ?_) (fun _ => ?_)
  · exact S_vret dX10_goesCurrent_36
  · refine S_aload_n 0 dX10_goesCurrent_9 rfl rfl rfl ?_
    refine S_aload_n 0 dX10_goesCurrent_10 rfl rfl rfl ?_
    refine S_getr (j := 213) (o := 1) 1 qC_10 (by decide) (by decide) qk_212 rfl rfl (by decide) tw_1227 dX10_goesCurrent_11 rfl ?_
    refine S_bipush (a := 50) dX10_goesCurrent_14 rfl (by decide) (by decide) ?_
    refine S_bipush (a := 6) dX10_goesCurrent_16 rfl (by decide) (by decide) ?_
    refine S_aload_n 0 dX10_goesCurrent_18 rfl rfl rfl ?_
    refine S_getr (j := 217) (o := 5) 16 qC_10 (by decide) (by decide) qk_212 rfl rfl (by decide) tw_1242 dX10_goesCurrent_19 rfl ?_
    refine S_iconst (a := 1) dX10_goesCurrent_22 rfl (by decide) ?_
    refine S_pick_t ((0 : Int) ≤ 1 ∧ (1 : Int) < 8) (by decide) ?_
    refine S_iald (N := 8) qk_217 rfl dX10_goesCurrent_23 rfl (fun g3 g4 => ?_)
    refine S_imul dX10_goesCurrent_24 rfl ?_
    refine S_iadd dX10_goesCurrent_25 rfl ?_
    refine S_aload_n 0 dX10_goesCurrent_26 rfl rfl rfl ?_
    refine S_iload_n 1 dX10_goesCurrent_27 rfl rfl rfl ?_
    refine S_callV_i (as := [qi a1]) (st := [qi (qw (50 + qw (6 * h.1 217 1))), qr 213, qr 212]) (fun _ => rfl) (TX10_phaseOf a1 h) yv_X10_phaseOf tw_1522 qC_10 qk_212 (by decide) rfl rfl (Nat.le_of_ble_eq_true rfl) dX10_goesCurrent_28 rfl (fun r5 h6 e7 => ?_)
    refine S_iadd dX10_goesCurrent_31 rfl ?_
    refine S_iald (N := 5736) qk_213 rfl dX10_goesCurrent_32 rfl (fun g8 g9 => ?_)
    refine S_callV_0 (as := [qi (h6.1 213 (qw (qw (50 + qw (6 * h.1 217 1)) + r5)).toNat)]) (st := []) (fun _ => rfl) (TX10_goes (h6.1 213 (qw (qw (50 + qw (6 * h.1 217 1)) + r5)).toNat) h6) yv_X10_goes tw_1602 qC_10 qk_212 (by decide) rfl rfl (Nat.le_of_ble_eq_true rfl) dX10_goesCurrent_33 rfl (fun r10 h11 e12 => ?_)
    exact S_vret dX10_goesCurrent_36
def DX10_isIn (a0 : Int) (a2 : Int) (h : qH) : Option (Int × qH) := (if ¬ qcmp (qandl (qshrl a0 a2) 1) 1 = 0 then some (0, h) else some (1, h))
set_option maxRecDepth 100000 in
theorem TX10_isIn {L : Nat} {xs : Nat → Int32} (a0 : Int) (a2 : Int) (h : qH) : qMet L xs yX10_isIn cX10_isIn 3 (some .boolean) 4 1 [ql a0, qi a2] h (DX10_isIn a0 a2 h) := by
  refine qMet.of (by decide +kernel) (Or.inr (Or.inr (Or.inr (Or.inr (Or.inl ⟨rfl, rfl⟩))))) (Nat.le_of_ble_eq_true rfl) ?_
  show qS L xs cX10_isIn "BottlePostModel" 3 1 4 0 [(0, ql a0), (2, qi a2)] [] h (DX10_isIn a0 a2 h)
  unfold DX10_isIn
  refine S_lload_n 0 dX10_isIn_0 rfl rfl rfl ?_
  refine S_iload_n 1 dX10_isIn_1 rfl rfl rfl ?_
  refine S_lshr dX10_isIn_2 rfl ?_
  refine S_lconst (a := 1) dX10_isIn_3 rfl (by decide) (by decide) ?_
  refine S_land dX10_isIn_4 rfl ?_
  refine S_lconst (a := 1) dX10_isIn_5 rfl (by decide) (by decide) ?_
  refine S_lcmp dX10_isIn_6 rfl ?_
  refine S_if_ne (tgt := 14) dX10_isIn_7 (by decide) rfl (fun _ => ?_) (fun _ => ?_)
  · refine S_iconst (a := 0) dX10_isIn_14 rfl (by decide) ?_
    exact S_zretl (by decide) dX10_isIn_15
  · refine S_iconst (a := 1) dX10_isIn_10 rfl (by decide) ?_
    refine S_goto (pc' := 15) dX10_isIn_11 (by decide) ?_
    exact S_zretl (by decide) dX10_isIn_15
def DX10_between_b42 (b0 : Int) (h : qH) : Option (Int × qH) := (if qcmp b0 1000000 ≤ 0 then (if 0 ≤ qcmp b0 (-1000000) then some (qw b0, h) else some (qw (-1000000), h)) else some (qw 1000000, h))
set_option maxRecDepth 100000 in
theorem TX10_between_b42 {L : Nat} {xs : Nat → Int32} (b0 : Int) (h : qH) : qS L xs cX10_between "BottlePostModel" 5 1 1 42 [] [ql b0] h (DX10_between_b42 b0 h) := by
  unfold DX10_between_b42
  refine S_lstore_n (lv' := [(3, ql b0)]) dX10_between_42 rfl (by decide) rfl rfl ?_
  refine S_lload_n 0 dX10_between_43 rfl rfl rfl ?_
  refine S_ldc2 (a := 1000000) dX10_between_44 rfl (by rw [show Int64.ofInt 1000000 = (1000000 : Int64) from by decide]; exact tw_1537) (by decide) ?_
  refine S_lcmp dX10_between_47 rfl ?_
  refine S_if_le (tgt := 57) dX10_between_48 (by decide) rfl (fun _ => ?_) (fun _ => ?_)
  · refine S_lload_n 0 dX10_between_57 rfl rfl rfl ?_
    refine S_ldc2 (a := (-1000000)) dX10_between_58 rfl (by rw [show Int64.ofInt (-1000000) = ((-1000000) : Int64) from by decide]; exact tw_1538) (by decide) ?_
    refine S_lcmp dX10_between_61 rfl ?_
    refine S_if_ge (tgt := 71) dX10_between_62 (by decide) rfl (fun _ => ?_) (fun _ => ?_)
    · refine S_lload_n 0 dX10_between_71 rfl rfl rfl ?_
      refine S_l2i dX10_between_72 rfl ?_
      exact S_iret dX10_between_73
    · refine S_ldc2 (a := (-1000000)) dX10_between_65 rfl (by rw [show Int64.ofInt (-1000000) = ((-1000000) : Int64) from by decide]; exact tw_1538) (by decide) ?_
      refine S_goto (pc' := 72) dX10_between_68 (by decide) ?_
      refine S_l2i dX10_between_72 rfl ?_
      exact S_iret dX10_between_73
  · refine S_ldc2 (a := 1000000) dX10_between_51 rfl (by rw [show Int64.ofInt 1000000 = (1000000 : Int64) from by decide]; exact tw_1537) (by decide) ?_
    refine S_goto (pc' := 72) dX10_between_54 (by decide) ?_
    refine S_l2i dX10_between_72 rfl ?_
    exact S_iret dX10_between_73
def DX10_between (a0 : Int) (a1 : Int) (a2 : Int) (h : qH) : Option (Int × qH) := (if 3002 < a0 then (if ¬ a0 = 3003 then (if ¬ a0 = 3004 then (if ¬ a0 = 3005 then (if ¬ a0 = 3006 then (if qw (a1 + a2) ≤ 0 then some (0, h) else some (1, h)) else (if ¬ qw (a1 + a2) = 2 then some (0, h) else some (1, h))) else (if a1 ≤ a2 then some (0, h) else some (1, h))) else (if a2 ≤ a1 then some (0, h) else some (1, h))) else (if ¬ a1 = a2 then some (0, h) else some (1, h))) else (if ¬ a0 = 3000 then (if ¬ a0 = 3001 then (DX10_between_b42 (qwl (a1 * a2)) h) else (DX10_between_b42 (qwl (a1 - a2)) h)) else (DX10_between_b42 (qwl (a1 + a2)) h)))
set_option maxRecDepth 100000 in
theorem TX10_between {L : Nat} {xs : Nat → Int32} (a0 : Int) (a1 : Int) (a2 : Int) (h : qH) : qMet L xs yX10_between cX10_between 5 (some .int) 1 1 [qi a0, qi a1, qi a2] h (DX10_between a0 a1 a2 h) := by
  refine qMet.of (by decide +kernel) (Or.inr (Or.inl ⟨rfl, rfl⟩)) (Nat.le_of_ble_eq_true rfl) ?_
  show qS L xs cX10_between "BottlePostModel" 5 1 1 0 [(0, qi a0), (1, qi a1), (2, qi a2)] [] h (DX10_between a0 a1 a2 h)
  unfold DX10_between
  refine S_iload_n 0 dX10_between_0 rfl rfl rfl ?_
  refine S_sipush (a := 3002) dX10_between_1 rfl (by decide) (by decide) ?_
  refine S_icmp_gt (tgt := 74) dX10_between_4 (by decide) rfl (fun _ => ?_) (fun _ => ?_)
  · refine S_iload_n 0 dX10_between_74 rfl rfl rfl ?_
    refine S_sipush (a := 3003) dX10_between_75 rfl (by decide) (by decide) ?_
    refine S_icmp_ne (tgt := 94) dX10_between_78 (by decide) rfl (fun _ => ?_) (fun _ => ?_)
    · refine S_iload_n 0 dX10_between_94 rfl rfl rfl ?_
      refine S_sipush (a := 3004) dX10_between_95 rfl (by decide) (by decide) ?_
      refine S_icmp_ne (tgt := 114) dX10_between_98 (by decide) rfl (fun _ => ?_) (fun _ => ?_)
      · refine S_iload_n 0 dX10_between_114 rfl rfl rfl ?_
        refine S_sipush (a := 3005) dX10_between_115 rfl (by decide) (by decide) ?_
        refine S_icmp_ne (tgt := 134) dX10_between_118 (by decide) rfl (fun _ => ?_) (fun _ => ?_)
        · refine S_iload_n 0 dX10_between_134 rfl rfl rfl ?_
          refine S_sipush (a := 3006) dX10_between_135 rfl (by decide) (by decide) ?_
          refine S_icmp_ne (tgt := 156) dX10_between_138 (by decide) rfl (fun _ => ?_) (fun _ => ?_)
          · refine S_iload_n 1 dX10_between_156 rfl rfl rfl ?_
            refine S_iload_n 2 dX10_between_157 rfl rfl rfl ?_
            refine S_iadd dX10_between_158 rfl ?_
            refine S_if_le (tgt := 166) dX10_between_159 (by decide) rfl (fun _ => ?_) (fun _ => ?_)
            · refine S_iconst (a := 0) dX10_between_166 rfl (by decide) ?_
              refine S_istore_n (lv' := [(3, qi 0), (0, qi a0), (1, qi a1), (2, qi a2)]) dX10_between_167 rfl (by decide) rfl rfl ?_
              refine S_iload_n 0 dX10_between_168 rfl rfl rfl ?_
              refine S_pick_t ((0 : Int) = 0) (by decide) ?_
              refine S_if_eq (y := none) (tgt := 176) dX10_between_169 (by decide) rfl (fun _ => ?_) (fun gn => absurd (by decide) gn)
              refine S_iconst (a := 0) dX10_between_176 rfl (by decide) ?_
              exact S_iret dX10_between_177
            · refine S_iconst (a := 1) dX10_between_162 rfl (by decide) ?_
              refine S_goto (pc' := 167) dX10_between_163 (by decide) ?_
              refine S_istore_n (lv' := [(3, qi 1), (0, qi a0), (1, qi a1), (2, qi a2)]) dX10_between_167 rfl (by decide) rfl rfl ?_
              refine S_iload_n 0 dX10_between_168 rfl rfl rfl ?_
              refine S_pick_f ((1 : Int) = 0) (by decide) ?_
              refine S_if_eq (x := none) (tgt := 176) dX10_between_169 (by decide) rfl (fun gn => absurd gn (by decide)) (fun _ => ?_)
              refine S_iconst (a := 1) dX10_between_172 rfl (by decide) ?_
              refine S_goto (pc' := 177) dX10_between_173 (by decide) ?_
              exact S_iret dX10_between_177
          · refine S_iload_n 1 dX10_between_141 rfl rfl rfl ?_
            refine S_iload_n 2 dX10_between_142 rfl rfl rfl ?_
            refine S_iadd dX10_between_143 rfl ?_
            refine S_iconst (a := 2) dX10_between_144 rfl (by decide) ?_
            refine S_icmp_ne (tgt := 152) dX10_between_145 (by decide) rfl (fun _ => ?_) (fun _ => ?_)
            · refine S_iconst (a := 0) dX10_between_152 rfl (by decide) ?_
              refine S_goto (pc' := 167) dX10_between_153 (by decide) ?_
              refine S_istore_n (lv' := [(3, qi 0), (0, qi a0), (1, qi a1), (2, qi a2)]) dX10_between_167 rfl (by decide) rfl rfl ?_
              refine S_iload_n 0 dX10_between_168 rfl rfl rfl ?_
              refine S_pick_t ((0 : Int) = 0) (by decide) ?_
              refine S_if_eq (y := none) (tgt := 176) dX10_between_169 (by decide) rfl (fun _ => ?_) (fun gn => absurd (by decide) gn)
              refine S_iconst (a := 0) dX10_between_176 rfl (by decide) ?_
              exact S_iret dX10_between_177
            · refine S_iconst (a := 1) dX10_between_148 rfl (by decide) ?_
              refine S_goto (pc' := 167) dX10_between_149 (by decide) ?_
              refine S_istore_n (lv' := [(3, qi 1), (0, qi a0), (1, qi a1), (2, qi a2)]) dX10_between_167 rfl (by decide) rfl rfl ?_
              refine S_iload_n 0 dX10_between_168 rfl rfl rfl ?_
              refine S_pick_f ((1 : Int) = 0) (by decide) ?_
              refine S_if_eq (x := none) (tgt := 176) dX10_between_169 (by decide) rfl (fun gn => absurd gn (by decide)) (fun _ => ?_)
              refine S_iconst (a := 1) dX10_between_172 rfl (by decide) ?_
              refine S_goto (pc' := 177) dX10_between_173 (by decide) ?_
              exact S_iret dX10_between_177
        · refine S_iload_n 1 dX10_between_121 rfl rfl rfl ?_
          refine S_iload_n 2 dX10_between_122 rfl rfl rfl ?_
          refine S_icmp_le (tgt := 130) dX10_between_123 (by decide) rfl (fun _ => ?_) (fun _ => ?_)
          · refine S_iconst (a := 0) dX10_between_130 rfl (by decide) ?_
            refine S_goto (pc' := 167) dX10_between_131 (by decide) ?_
            refine S_istore_n (lv' := [(3, qi 0), (0, qi a0), (1, qi a1), (2, qi a2)]) dX10_between_167 rfl (by decide) rfl rfl ?_
            refine S_iload_n 0 dX10_between_168 rfl rfl rfl ?_
            refine S_pick_t ((0 : Int) = 0) (by decide) ?_
            refine S_if_eq (y := none) (tgt := 176) dX10_between_169 (by decide) rfl (fun _ => ?_) (fun gn => absurd (by decide) gn)
            refine S_iconst (a := 0) dX10_between_176 rfl (by decide) ?_
            exact S_iret dX10_between_177
          · refine S_iconst (a := 1) dX10_between_126 rfl (by decide) ?_
            refine S_goto (pc' := 167) dX10_between_127 (by decide) ?_
            refine S_istore_n (lv' := [(3, qi 1), (0, qi a0), (1, qi a1), (2, qi a2)]) dX10_between_167 rfl (by decide) rfl rfl ?_
            refine S_iload_n 0 dX10_between_168 rfl rfl rfl ?_
            refine S_pick_f ((1 : Int) = 0) (by decide) ?_
            refine S_if_eq (x := none) (tgt := 176) dX10_between_169 (by decide) rfl (fun gn => absurd gn (by decide)) (fun _ => ?_)
            refine S_iconst (a := 1) dX10_between_172 rfl (by decide) ?_
            refine S_goto (pc' := 177) dX10_between_173 (by decide) ?_
            exact S_iret dX10_between_177
      · refine S_iload_n 1 dX10_between_101 rfl rfl rfl ?_
        refine S_iload_n 2 dX10_between_102 rfl rfl rfl ?_
        refine S_icmp_ge (tgt := 110) dX10_between_103 (by decide) rfl (fun _ => ?_) (fun _ => ?_)
        · refine S_iconst (a := 0) dX10_between_110 rfl (by decide) ?_
          refine S_goto (pc' := 167) dX10_between_111 (by decide) ?_
          refine S_istore_n (lv' := [(3, qi 0), (0, qi a0), (1, qi a1), (2, qi a2)]) dX10_between_167 rfl (by decide) rfl rfl ?_
          refine S_iload_n 0 dX10_between_168 rfl rfl rfl ?_
          refine S_pick_t ((0 : Int) = 0) (by decide) ?_
          refine S_if_eq (y := none) (tgt := 176) dX10_between_169 (by decide) rfl (fun _ => ?_) (fun gn => absurd (by decide) gn)
          refine S_iconst (a := 0) dX10_between_176 rfl (by decide) ?_
          exact S_iret dX10_between_177
        · refine S_iconst (a := 1) dX10_between_106 rfl (by decide) ?_
          refine S_goto (pc' := 167) dX10_between_107 (by decide) ?_
          refine S_istore_n (lv' := [(3, qi 1), (0, qi a0), (1, qi a1), (2, qi a2)]) dX10_between_167 rfl (by decide) rfl rfl ?_
          refine S_iload_n 0 dX10_between_168 rfl rfl rfl ?_
          refine S_pick_f ((1 : Int) = 0) (by decide) ?_
          refine S_if_eq (x := none) (tgt := 176) dX10_between_169 (by decide) rfl (fun gn => absurd gn (by decide)) (fun _ => ?_)
          refine S_iconst (a := 1) dX10_between_172 rfl (by decide) ?_
          refine S_goto (pc' := 177) dX10_between_173 (by decide) ?_
          exact S_iret dX10_between_177
    · refine S_iload_n 1 dX10_between_81 rfl rfl rfl ?_
      refine S_iload_n 2 dX10_between_82 rfl rfl rfl ?_
      refine S_icmp_ne (tgt := 90) dX10_between_83 (by decide) rfl (fun _ => ?_) (fun _ => ?_)
      · refine S_iconst (a := 0) dX10_between_90 rfl (by decide) ?_
        refine S_goto (pc' := 167) dX10_between_91 (by decide) ?_
        refine S_istore_n (lv' := [(3, qi 0), (0, qi a0), (1, qi a1), (2, qi a2)]) dX10_between_167 rfl (by decide) rfl rfl ?_
        refine S_iload_n 0 dX10_between_168 rfl rfl rfl ?_
        refine S_pick_t ((0 : Int) = 0) (by decide) ?_
        refine S_if_eq (y := none) (tgt := 176) dX10_between_169 (by decide) rfl (fun _ => ?_) (fun gn => absurd (by decide) gn)
        refine S_iconst (a := 0) dX10_between_176 rfl (by decide) ?_
        exact S_iret dX10_between_177
      · refine S_iconst (a := 1) dX10_between_86 rfl (by decide) ?_
        refine S_goto (pc' := 167) dX10_between_87 (by decide) ?_
        refine S_istore_n (lv' := [(3, qi 1), (0, qi a0), (1, qi a1), (2, qi a2)]) dX10_between_167 rfl (by decide) rfl rfl ?_
        refine S_iload_n 0 dX10_between_168 rfl rfl rfl ?_
        refine S_pick_f ((1 : Int) = 0) (by decide) ?_
        refine S_if_eq (x := none) (tgt := 176) dX10_between_169 (by decide) rfl (fun gn => absurd gn (by decide)) (fun _ => ?_)
        refine S_iconst (a := 1) dX10_between_172 rfl (by decide) ?_
        refine S_goto (pc' := 177) dX10_between_173 (by decide) ?_
        exact S_iret dX10_between_177
  · refine S_iload_n 0 dX10_between_7 rfl rfl rfl ?_
    refine S_sipush (a := 3000) dX10_between_8 rfl (by decide) (by decide) ?_
    refine S_icmp_ne (tgt := 22) dX10_between_11 (by decide) rfl (fun _ => ?_) (fun _ => ?_)
    · refine S_iload_n 0 dX10_between_22 rfl rfl rfl ?_
      refine S_sipush (a := 3001) dX10_between_23 rfl (by decide) (by decide) ?_
      refine S_icmp_ne (tgt := 37) dX10_between_26 (by decide) rfl (fun _ => ?_) (fun _ => ?_)
      · refine S_iload_n 1 dX10_between_37 rfl rfl rfl ?_
        refine S_i2l dX10_between_38 rfl ?_
        refine S_iload_n 2 dX10_between_39 rfl rfl rfl ?_
        refine S_i2l dX10_between_40 rfl ?_
        refine S_lmul dX10_between_41 rfl ?_
        refine S_sub [] rfl ?_
        exact TX10_between_b42 (qwl (a1 * a2)) h
      · refine S_iload_n 1 dX10_between_29 rfl rfl rfl ?_
        refine S_i2l dX10_between_30 rfl ?_
        refine S_iload_n 2 dX10_between_31 rfl rfl rfl ?_
        refine S_i2l dX10_between_32 rfl ?_
        refine S_lsub dX10_between_33 rfl ?_
        refine S_goto (pc' := 42) dX10_between_34 (by decide) ?_
        refine S_sub [] rfl ?_
        exact TX10_between_b42 (qwl (a1 - a2)) h
    · refine S_iload_n 1 dX10_between_14 rfl rfl rfl ?_
      refine S_i2l dX10_between_15 rfl ?_
      refine S_iload_n 2 dX10_between_16 rfl rfl rfl ?_
      refine S_i2l dX10_between_17 rfl ?_
      refine S_ladd dX10_between_18 rfl ?_
      refine S_goto (pc' := 42) dX10_between_19 (by decide) ?_
      refine S_sub [] rfl ?_
      exact TX10_between_b42 (qwl (a1 + a2)) h
def DX10_keepsWord (a1 : Int) (a2 : Int) (h : qH) : Option (Int × qH) := (if a1 = 0 then some (h.1 217 2, h) else (if a1 = 1 then some (h.1 217 3, h) else (if a1 = 2 then some (h.1 212 18, h) else (if a1 = 3 then some (h.1 217 5, h) else (if a1 = 4 then some (h.1 217 6, h) else (if a1 = 5 then some (h.1 217 4, h) else (qbd (DX10_phaseOf a2 h) fun r17 h18 => some (r17, h18))))))))
set_option maxRecDepth 100000 in
theorem TX10_keepsWord {L : Nat} {xs : Nat → Int32} (a1 : Int) (a2 : Int) (h : qH) : qMet L xs yX10_keepsWord cX10_keepsWord 3 (some .int) 1 2 [qr 212, qi a1, qi a2] h (DX10_keepsWord a1 a2 h) := by
  refine qMet.of (by decide +kernel) (Or.inr (Or.inl ⟨rfl, rfl⟩)) (Nat.le_of_ble_eq_true rfl) ?_
  show qS L xs cX10_keepsWord "BottlePostModel" 3 2 1 0 [(0, qr 212), (1, qi a1), (2, qi a2)] [] h (DX10_keepsWord a1 a2 h)
  unfold DX10_keepsWord
  refine S_iload_n 1 dX10_keepsWord_0 rfl rfl rfl ?_
  refine S_ite (fun g1 => ?_) (fun g1 => ?_)
  · refine S_tabIn (a0 := 0) (off := 39) (pc' := 40) dX10_keepsWord_1 g1 (by decide) (by decide) rfl (by decide) ?_
    refine S_aload_n 0 dX10_keepsWord_40 rfl rfl rfl ?_
    refine S_getr (j := 217) (o := 5) 16 qC_10 (by decide) (by decide) qk_212 rfl rfl (by decide) tw_1242 dX10_keepsWord_41 rfl ?_
    refine S_iconst (a := 2) dX10_keepsWord_44 rfl (by decide) ?_
    refine S_pick_t ((0 : Int) ≤ 2 ∧ (2 : Int) < 8) (by decide) ?_
    refine S_iald (N := 8) qk_217 rfl dX10_keepsWord_45 rfl (fun g2 g3 => ?_)
    exact S_iret dX10_keepsWord_46
  · refine S_ite (fun g4 => ?_) (fun g4 => ?_)
    · refine S_tabIn (a0 := 1) (off := 46) (pc' := 47) dX10_keepsWord_1 g4 (by decide) (by decide) rfl (by decide) ?_
      refine S_aload_n 0 dX10_keepsWord_47 rfl rfl rfl ?_
      refine S_getr (j := 217) (o := 5) 16 qC_10 (by decide) (by decide) qk_212 rfl rfl (by decide) tw_1242 dX10_keepsWord_48 rfl ?_
      refine S_iconst (a := 3) dX10_keepsWord_51 rfl (by decide) ?_
      refine S_pick_t ((0 : Int) ≤ 3 ∧ (3 : Int) < 8) (by decide) ?_
      refine S_iald (N := 8) qk_217 rfl dX10_keepsWord_52 rfl (fun g5 g6 => ?_)
      exact S_iret dX10_keepsWord_53
    · refine S_ite (fun g7 => ?_) (fun g7 => ?_)
      · refine S_tabIn (a0 := 2) (off := 53) (pc' := 54) dX10_keepsWord_1 g7 (by decide) (by decide) rfl (by decide) ?_
        refine S_aload_n 0 dX10_keepsWord_54 rfl rfl rfl ?_
        refine S_geti 18 qC_10 (by decide) (by decide) qk_212 tw_1244 dX10_keepsWord_55 rfl ?_
        exact S_iret dX10_keepsWord_58
      · refine S_ite (fun g8 => ?_) (fun g8 => ?_)
        · refine S_tabIn (a0 := 3) (off := 58) (pc' := 59) dX10_keepsWord_1 g8 (by decide) (by decide) rfl (by decide) ?_
          refine S_aload_n 0 dX10_keepsWord_59 rfl rfl rfl ?_
          refine S_getr (j := 217) (o := 5) 16 qC_10 (by decide) (by decide) qk_212 rfl rfl (by decide) tw_1242 dX10_keepsWord_60 rfl ?_
          refine S_iconst (a := 5) dX10_keepsWord_63 rfl (by decide) ?_
          refine S_pick_t ((0 : Int) ≤ 5 ∧ (5 : Int) < 8) (by decide) ?_
          refine S_iald (N := 8) qk_217 rfl dX10_keepsWord_64 rfl (fun g9 g10 => ?_)
          exact S_iret dX10_keepsWord_65
        · refine S_ite (fun g11 => ?_) (fun g11 => ?_)
          · refine S_tabIn (a0 := 4) (off := 65) (pc' := 66) dX10_keepsWord_1 g11 (by decide) (by decide) rfl (by decide) ?_
            refine S_aload_n 0 dX10_keepsWord_66 rfl rfl rfl ?_
            refine S_getr (j := 217) (o := 5) 16 qC_10 (by decide) (by decide) qk_212 rfl rfl (by decide) tw_1242 dX10_keepsWord_67 rfl ?_
            refine S_bipush (a := 6) dX10_keepsWord_70 rfl (by decide) (by decide) ?_
            refine S_pick_t ((0 : Int) ≤ 6 ∧ (6 : Int) < 8) (by decide) ?_
            refine S_iald (N := 8) qk_217 rfl dX10_keepsWord_72 rfl (fun g12 g13 => ?_)
            exact S_iret dX10_keepsWord_73
          · refine S_ite (fun g14 => ?_) (fun g14 => ?_)
            · refine S_tabIn (a0 := 5) (off := 73) (pc' := 74) dX10_keepsWord_1 g14 (by decide) (by decide) rfl (by decide) ?_
              refine S_aload_n 0 dX10_keepsWord_74 rfl rfl rfl ?_
              refine S_getr (j := 217) (o := 5) 16 qC_10 (by decide) (by decide) qk_212 rfl rfl (by decide) tw_1242 dX10_keepsWord_75 rfl ?_
              refine S_iconst (a := 4) dX10_keepsWord_78 rfl (by decide) ?_
              refine S_pick_t ((0 : Int) ≤ 4 ∧ (4 : Int) < 8) (by decide) ?_
              refine S_iald (N := 8) qk_217 rfl dX10_keepsWord_79 rfl (fun g15 g16 => ?_)
              exact S_iret dX10_keepsWord_80
            · refine S_tabOut (pc' := 81) dX10_keepsWord_1 (by omega) (by decide) ?_
              refine S_aload_n 0 dX10_keepsWord_81 rfl rfl rfl ?_
              refine S_iload_n 2 dX10_keepsWord_82 rfl rfl rfl ?_
              refine S_callV_i (as := [qi a2]) (st := []) (fun _ => rfl) (TX10_phaseOf a2 h) yv_X10_phaseOf tw_1522 qC_10 qk_212 (by decide) rfl rfl (Nat.le_of_ble_eq_true rfl) dX10_keepsWord_83 rfl (fun r17 h18 e19 => ?_)
              exact S_iret dX10_keepsWord_86
def DX10_moonOf (a1 : Int) (h : qH) : Option (Int × qH) := (if ¬ h.1 213 5 = 0 then (if h.1 213 5 = 0 then none else some (qrem a1 (h.1 213 5), h)) else some (0, h))
set_option maxRecDepth 100000 in
theorem TX10_moonOf {L : Nat} {xs : Nat → Int32} (a1 : Int) (h : qH) : qMet L xs yX10_moonOf cX10_moonOf 2 (some .int) 1 1 [qr 212, qi a1] h (DX10_moonOf a1 h) := by
  refine qMet.of (by decide +kernel) (Or.inr (Or.inl ⟨rfl, rfl⟩)) (Nat.le_of_ble_eq_true rfl) ?_
  show qS L xs cX10_moonOf "BottlePostModel" 2 1 1 0 [(0, qr 212), (1, qi a1)] [] h (DX10_moonOf a1 h)
  unfold DX10_moonOf
  refine S_aload_n 0 dX10_moonOf_0 rfl rfl rfl ?_
  refine S_getr (j := 213) (o := 1) 1 qC_10 (by decide) (by decide) qk_212 rfl rfl (by decide) tw_1227 dX10_moonOf_1 rfl ?_
  refine S_iconst (a := 5) dX10_moonOf_4 rfl (by decide) ?_
  refine S_pick_t ((0 : Int) ≤ 5 ∧ (5 : Int) < 5736) (by decide) ?_
  refine S_iald (N := 5736) qk_213 rfl dX10_moonOf_5 rfl (fun g1 g2 => ?_)
  refine S_if_ne (tgt := 13) dX10_moonOf_6 (by decide) rfl (fun _ => ?_) (fun _ => ?_)
  · refine S_iload_n 1 dX10_moonOf_13 rfl rfl rfl ?_
    refine S_aload_n 0 dX10_moonOf_14 rfl rfl rfl ?_
    refine S_getr (j := 213) (o := 1) 1 qC_10 (by decide) (by decide) qk_212 rfl rfl (by decide) tw_1227 dX10_moonOf_15 rfl ?_
    refine S_iconst (a := 5) dX10_moonOf_18 rfl (by decide) ?_
    refine S_pick_t ((0 : Int) ≤ 5 ∧ (5 : Int) < 5736) (by decide) ?_
    refine S_iald (N := 5736) qk_213 rfl dX10_moonOf_19 rfl (fun g3 g4 => ?_)
    refine S_ite (fun _ => S_none) (fun gz => ?_)
    refine S_irem dX10_moonOf_20 rfl gz ?_
    exact S_iret dX10_moonOf_21
  · refine S_iconst (a := 0) dX10_moonOf_9 rfl (by decide) ?_
    refine S_goto (pc' := 21) dX10_moonOf_10 (by decide) ?_
    exact S_iret dX10_moonOf_21
