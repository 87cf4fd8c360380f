def DX5_weigh_b31 (a1 : Int) (a2 : Int) (h : qH) : Option (Int × qH) := (qlt (qu h 157 4 a2) fun h1 => (qlt (qu h1 157 5 a1) fun h2 => (qlt (qcp h2 158 159 6) fun h3 => some (0, h3))))
set_option maxRecDepth 100000 in
theorem TX5_weigh_b31 {L : Nat} {xs : Nat → Int32} (a1 : Int) (a2 : Int) (h : qH) : qS L xs cX5_weigh "BottlePost$Relay" 3 2 0 31 [(0, qr 157), (1, qi a1), (2, qi a2)] [] h (DX5_weigh_b31 a1 a2 h) := by
  unfold DX5_weigh_b31
  refine S_aload_n 0 dX5_weigh_31 rfl rfl rfl ?_
  refine S_iload_n 2 dX5_weigh_32 rfl rfl rfl ?_
  refine S_puti 4 qC_5 (by decide) (by decide) rfl rfl qk_157 (by decide) tw_316 dX5_weigh_33 rfl ?_
  refine S_lh (fun h1 => ?_)
  refine S_aload_n 0 dX5_weigh_36 rfl rfl rfl ?_
  refine S_iload_n 1 dX5_weigh_37 rfl rfl rfl ?_
  refine S_puti 5 qC_5 (by decide) (by decide) rfl rfl qk_157 (by decide) tw_318 dX5_weigh_38 rfl ?_
  refine S_lh (fun h2 => ?_)
  refine S_aload_n 0 dX5_weigh_41 rfl rfl rfl ?_
  refine S_getr (j := 158) (o := 1) 0 qC_5 (by decide) (by decide) qk_157 rfl rfl (by decide) tw_312 dX5_weigh_42 rfl ?_
  refine S_iconst (a := 0) dX5_weigh_45 rfl (by decide) ?_
  refine S_aload_n 0 dX5_weigh_46 rfl rfl rfl ?_
  refine S_getr (j := 159) (o := 2) 1 qC_5 (by decide) (by decide) qk_157 rfl rfl (by decide) tw_313 dX5_weigh_47 rfl ?_
  refine S_iconst (a := 0) dX5_weigh_50 rfl (by decide) ?_
  refine S_bipush (a := 6) dX5_weigh_51 rfl (by decide) (by decide) ?_
  refine S_acopy (n := 6) qk_158 qk_159 rfl (by decide) (by decide) (by decide) (by decide) (Nat.le_of_ble_eq_true rfl) tw_1080 tw_725 tw_724 tw_19 dX5_weigh_53 rfl ?_
  refine S_lh (fun h3 => ?_)
  exact S_vret dX5_weigh_56
def DX5_weigh (a1 : Int) (a2 : Int) (h : qH) : Option (Int × qH) := (if h.1 157 5 = 0 then (DX5_weigh_b31 a1 a2 h) else (if a2 < h.1 157 4 then (DX5_weigh_b31 a1 a2 h) else (if ¬ a2 = h.1 157 4 then some (0, h) else (if h.1 157 5 ≤ a1 then some (0, h) else (DX5_weigh_b31 a1 a2 h)))))
set_option maxRecDepth 100000 in
theorem TX5_weigh {L : Nat} {xs : Nat → Int32} (a1 : Int) (a2 : Int) (h : qH) : qMet L xs yX5_weigh cX5_weigh 3 (none) 0 2 [qr 157, qi a1, qi a2] h (DX5_weigh a1 a2 h) := by
  refine qMet.of (by decide +kernel) (Or.inl ⟨rfl, rfl⟩) (Nat.le_of_ble_eq_true rfl) ?_
  show qS L xs cX5_weigh "BottlePost$Relay" 3 2 0 0 [(0, qr 157), (1, qi a1), (2, qi a2)] [] h (DX5_weigh a1 a2 h)
  unfold DX5_weigh
  refine S_aload_n 0 dX5_weigh_0 rfl rfl rfl ?_
  refine S_geti 5 qC_5 (by decide) (by decide) qk_157 tw_318 dX5_weigh_1 rfl ?_
  refine S_if_eq (tgt := 31) dX5_weigh_4 (by decide) rfl (fun _ => ?_) (fun _ => ?_)
  · exact TX5_weigh_b31 a1 a2 h
  · refine S_iload_n 2 dX5_weigh_7 rfl rfl rfl ?_
    refine S_aload_n 0 dX5_weigh_8 rfl rfl rfl ?_
    refine S_geti 4 qC_5 (by decide) (by decide) qk_157 tw_316 dX5_weigh_9 rfl ?_
    refine S_icmp_lt (tgt := 31) dX5_weigh_12 (by decide) rfl (fun _ => ?_) (fun _ => ?_)
    · exact TX5_weigh_b31 a1 a2 h
    · refine S_iload_n 2 dX5_weigh_15 rfl rfl rfl ?_
      refine S_aload_n 0 dX5_weigh_16 rfl rfl rfl ?_
      refine S_geti 4 qC_5 (by decide) (by decide) qk_157 tw_316 dX5_weigh_17 rfl ?_
      refine S_icmp_ne (tgt := 56) dX5_weigh_20 (by decide) rfl (fun _ => ?_) (fun _ => ?_)
      · exact S_vret dX5_weigh_56
      · refine S_iload_n 1 dX5_weigh_23 rfl rfl rfl ?_
        refine S_aload_n 0 dX5_weigh_24 rfl rfl rfl ?_
        refine S_geti 5 qC_5 (by decide) (by decide) qk_157 tw_318 dX5_weigh_25 rfl ?_
        refine S_icmp_ge (tgt := 56) dX5_weigh_28 (by decide) rfl (fun _ => ?_) (fun _ => ?_)
        · exact S_vret dX5_weigh_56
        · exact TX5_weigh_b31 a1 a2 h
def DX5_seek_b112 (f_X5_seek : Int → Int → Int → Int → qH → Option (Int × qH)) (k17 : Int → Int → Int → Int → Int → qH → Option (Int × qH)) (a2 : Int) (a3 : Int) (a4 : Int) (a5 : Int) (a6 : Int) (a8 : Int) (h : qH) : Option (Int × qH) := (qbd (f_X5_seek a6 (qw (a3 + 1)) a8 (qor a5 (qshl 1 a6)) h) fun r1 h2 => (k17 a2 a3 a4 a5 (qw (a6 + 1)) h2))
set_option maxRecDepth 100000 in
theorem TX5_seek_b112 {L : Nat} {xs : Nat → Int32} {dd : Nat} (f_X5_seek : Int → Int → Int → Int → qH → Option (Int × qH)) (hf_X5_seek : ∀ (a2 : Int) (a3 : Int) (a4 : Int) (a5 : Int) (h : qH), qMet L xs yX5_seek cX5_seek 9 (none) 0 dd [qr 157, qr 4, qi a2, qi a3, qi a4, qi a5] h (f_X5_seek a2 a3 a4 a5 h)) (hdd : 8 ≤ dd) (k17 : Int → Int → Int → Int → Int → qH → Option (Int × qH)) (hk17 : ∀ (a2 : Int) (a3 : Int) (a4 : Int) (a5 : Int) (a6 : Int) (h : qH), qS L xs cX5_seek "BottlePost$Relay" 9 (dd + 1) 0 17 [(0, qr 157), (1, qr 4), (2, qi a2), (3, qi a3), (4, qi a4), (5, qi a5), (6, qi a6)] [] h (k17 a2 a3 a4 a5 a6 h)) (a2 : Int) (a3 : Int) (a4 : Int) (a5 : Int) (a6 : Int) (a8 : Int) (h : qH) : qS L xs cX5_seek "BottlePost$Relay" 9 (dd + 1) 0 112 [(0, qr 157), (1, qr 4), (2, qi a2), (3, qi a3), (4, qi a4), (5, qi a5), (6, qi a6), (8, qi a8)] [] h (DX5_seek_b112 f_X5_seek k17 a2 a3 a4 a5 a6 a8 h) := by
  unfold DX5_seek_b112
  refine S_aload_n 0 dX5_seek_112 rfl rfl rfl ?_
  refine S_aload_n 1 dX5_seek_113 rfl rfl rfl ?_
  refine S_iload 6 dX5_seek_114 rfl rfl ?_
  refine S_iload_n 3 dX5_seek_116 rfl rfl rfl ?_
  refine S_iconst (a := 1) dX5_seek_117 rfl (by decide) ?_
  refine S_iadd dX5_seek_118 rfl ?_
  refine S_iload 7 dX5_seek_119 rfl rfl ?_
  refine S_iload 5 dX5_seek_121 rfl rfl ?_
  refine S_iconst (a := 1) dX5_seek_123 rfl (by decide) ?_
  refine S_iload 6 dX5_seek_124 rfl rfl ?_
  refine S_ishl dX5_seek_126 rfl ?_
  refine S_ior dX5_seek_127 rfl ?_
  refine S_callV_0 (as := [qr 4, qi a6, qi (qw (a3 + 1)), qi a8, qi (qor a5 (qshl 1 a6))]) (st := []) (fun _ => rfl) (hf_X5_seek a6 (qw (a3 + 1)) a8 (qor a5 (qshl 1 a6)) h) yv_X5_seek tw_1081 qC_5 qk_157 (Nat.le_refl _) rfl rfl (Nat.le_of_ble_eq_true rfl) dX5_seek_128 rfl (fun r1 h2 e3 => ?_)
  refine S_iinc (lv' := [(6, qi (qw (a6 + 1))), (0, qr 157), (1, qr 4), (2, qi a2), (3, qi a3), (4, qi a4), (5, qi a5), (8, qi a8)]) 6 dX5_seek_131 rfl (by decide) rfl rfl ?_
  refine S_goto (pc' := 17) dX5_seek_134 (by decide) ?_
  refine S_sub [1, 2, 3, 4, 5, 6, 0] rfl ?_
  exact hk17 a2 a3 a4 a5 (qw (a6 + 1)) h2
def DX5_seek_b57 (f_X5_seek : Int → Int → Int → Int → qH → Option (Int × qH)) (k17 : Int → Int → Int → Int → Int → qH → Option (Int × qH)) (a2 : Int) (a3 : Int) (a4 : Int) (a5 : Int) (a6 : Int) (b0 : Int) (h : qH) : Option (Int × qH) := (if b0 = (-1) then (k17 a2 a3 a4 a5 (qw (a6 + 1)) h) else (qbd (DX2_arrivalOf b0 h) fun r4 h5 => (qlt (qw (a4 + r4)) fun v7 => (if ¬ a6 = h5.1 157 2 then (if h5.1 157 5 = 0 then (DX5_seek_b112 f_X5_seek k17 a2 a3 a4 a5 a6 v7 h5) else (if h5.1 157 4 ≤ v7 then (k17 a2 a3 a4 a5 (qw (a6 + 1)) h5) else (DX5_seek_b112 f_X5_seek k17 a2 a3 a4 a5 a6 v7 h5))) else (qbd (DX5_weigh (qw (a3 + 1)) v7 h5) fun r8 h9 => (k17 a2 a3 a4 a5 (qw (a6 + 1)) h9))))))
set_option maxRecDepth 100000 in
theorem TX5_seek_b57 {L : Nat} {xs : Nat → Int32} {dd : Nat} (f_X5_seek : Int → Int → Int → Int → qH → Option (Int × qH)) (hf_X5_seek : ∀ (a2 : Int) (a3 : Int) (a4 : Int) (a5 : Int) (h : qH), qMet L xs yX5_seek cX5_seek 9 (none) 0 dd [qr 157, qr 4, qi a2, qi a3, qi a4, qi a5] h (f_X5_seek a2 a3 a4 a5 h)) (hdd : 8 ≤ dd) (k17 : Int → Int → Int → Int → Int → qH → Option (Int × qH)) (hk17 : ∀ (a2 : Int) (a3 : Int) (a4 : Int) (a5 : Int) (a6 : Int) (h : qH), qS L xs cX5_seek "BottlePost$Relay" 9 (dd + 1) 0 17 [(0, qr 157), (1, qr 4), (2, qi a2), (3, qi a3), (4, qi a4), (5, qi a5), (6, qi a6)] [] h (k17 a2 a3 a4 a5 a6 h)) (a2 : Int) (a3 : Int) (a4 : Int) (a5 : Int) (a6 : Int) (b0 : Int) (h : qH) : qS L xs cX5_seek "BottlePost$Relay" 9 (dd + 1) 0 57 [(0, qr 157), (1, qr 4), (2, qi a2), (3, qi a3), (4, qi a4), (5, qi a5), (6, qi a6)] [qi b0] h (DX5_seek_b57 f_X5_seek k17 a2 a3 a4 a5 a6 b0 h) := by
  unfold DX5_seek_b57
  refine S_istore (lv' := [(7, qi b0), (0, qr 157), (1, qr 4), (2, qi a2), (3, qi a3), (4, qi a4), (5, qi a5), (6, qi a6)]) dX5_seek_57 (by decide) rfl rfl ?_
  refine S_iload 0 dX5_seek_59 rfl rfl ?_
  refine S_iconst (a := (-1)) dX5_seek_61 rfl (by decide) ?_
  refine S_icmp_eq (tgt := 131) dX5_seek_62 (by decide) rfl (fun _ => ?_) (fun _ => ?_)
  · refine S_iinc (lv' := [(6, qi (qw (a6 + 1))), (7, qi b0), (0, qr 157), (1, qr 4), (2, qi a2), (3, qi a3), (4, qi a4), (5, qi a5)]) 7 dX5_seek_131 rfl (by decide) rfl rfl ?_
    refine S_goto (pc' := 17) dX5_seek_134 (by decide) ?_
    refine S_sub [2, 3, 4, 5, 6, 7, 0] rfl ?_
    exact hk17 a2 a3 a4 a5 (qw (a6 + 1)) h
  · refine S_iload 5 dX5_seek_65 rfl rfl ?_
    refine S_iload 0 dX5_seek_67 rfl rfl ?_
    refine S_callS_i (as := [qi b0]) (st := [qi a4]) (fun _ => rfl) (TX2_arrivalOf b0 h) yv_X2_arrivalOf tw_1075 (by omega) rfl rfl (Nat.le_of_ble_eq_true rfl) dX5_seek_69 rfl (fun r4 h5 e6 => ?_)
    refine S_iadd dX5_seek_72 rfl ?_
    refine S_istore (lv' := [(8, qi (qw (a4 + r4))), (7, qi b0), (0, qr 157), (1, qr 4), (2, qi a2), (3, qi a3), (4, qi a4), (5, qi a5), (6, qi a6)]) dX5_seek_73 (by decide) rfl rfl ?_
    refine S_li (fun v7 => ?_)
    refine S_iload 8 dX5_seek_75 rfl rfl ?_
    refine S_aload_n 2 dX5_seek_77 rfl rfl rfl ?_
    refine S_geti 2 qC_5 (by decide) (by decide) qk_157 tw_314 dX5_seek_78 rfl ?_
    refine S_icmp_ne (tgt := 96) dX5_seek_81 (by decide) rfl (fun _ => ?_) (fun _ => ?_)
    · refine S_aload_n 2 dX5_seek_96 rfl rfl rfl ?_
      refine S_geti 5 qC_5 (by decide) (by decide) qk_157 tw_318 dX5_seek_97 rfl ?_
      refine S_if_eq (tgt := 112) dX5_seek_100 (by decide) rfl (fun _ => ?_) (fun _ => ?_)
      · refine S_sub [2, 3, 4, 5, 6, 7, 8, 0] rfl ?_
        exact TX5_seek_b112 f_X5_seek hf_X5_seek hdd k17 hk17 a2 a3 a4 a5 a6 v7 h5
      · refine S_iload 0 dX5_seek_103 rfl rfl ?_
        refine S_aload_n 2 dX5_seek_105 rfl rfl rfl ?_
        refine S_geti 4 qC_5 (by decide) (by decide) qk_157 tw_316 dX5_seek_106 rfl ?_
        refine S_icmp_ge (tgt := 131) dX5_seek_109 (by decide) rfl (fun _ => ?_) (fun _ => ?_)
        · refine S_iinc (lv' := [(6, qi (qw (a6 + 1))), (8, qi v7), (7, qi b0), (0, qr 157), (1, qr 4), (2, qi a2), (3, qi a3), (4, qi a4), (5, qi a5)]) 8 dX5_seek_131 rfl (by decide) rfl rfl ?_
          refine S_goto (pc' := 17) dX5_seek_134 (by decide) ?_
          refine S_sub [3, 4, 5, 6, 7, 8, 0] rfl ?_
          exact hk17 a2 a3 a4 a5 (qw (a6 + 1)) h5
        · refine S_sub [2, 3, 4, 5, 6, 7, 8, 0] rfl ?_
          exact TX5_seek_b112 f_X5_seek hf_X5_seek hdd k17 hk17 a2 a3 a4 a5 a6 v7 h5
    · refine S_aload_n 2 dX5_seek_84 rfl rfl rfl ?_
      refine S_iload_n 5 dX5_seek_85 rfl rfl rfl ?_
      refine S_iconst (a := 1) dX5_seek_86 rfl (by decide) ?_
      refine S_iadd dX5_seek_87 rfl ?_
      refine S_iload 0 dX5_seek_88 rfl rfl ?_
      refine S_callV_0 (as := [qi (qw (a3 + 1)), qi v7]) (st := []) (fun _ => rfl) (TX5_weigh (qw (a3 + 1)) v7 h5) yv_X5_weigh tw_1076 qC_5 qk_157 (by omega) rfl rfl (Nat.le_of_ble_eq_true rfl) dX5_seek_90 rfl (fun r8 h9 e10 => ?_)
      refine S_goto (pc' := 131) dX5_seek_93 (by decide) ?_
      refine S_iinc (lv' := [(6, qi (qw (a6 + 1))), (8, qi v7), (7, qi b0), (0, qr 157), (1, qr 4), (2, qi a2), (3, qi a3), (4, qi a4), (5, qi a5)]) 8 dX5_seek_131 rfl (by decide) rfl rfl ?_
      refine S_goto (pc' := 17) dX5_seek_134 (by decide) ?_
      refine S_sub [3, 4, 5, 6, 7, 8, 0] rfl ?_
      exact hk17 a2 a3 a4 a5 (qw (a6 + 1)) h9
def DX5_seek_l17 (f_X5_seek : Int → Int → Int → Int → qH → Option (Int × qH)) : Nat → Int → Int → Int → Int → Int → qH → Option (Int × qH)
  | 0, _, _, _, _, _, _ => none
  | n + 1, a2, a3, a4, a5, a6, h => (if h.1 5 14 ≤ a6 then some (0, h) else (if qand (qshr a5 a6) 1 = 0 then (qbd (DX2_soonest a2 a6 (qw (h.1 157 3 + a4)) h) fun r11 h12 => (DX5_seek_b57 f_X5_seek (DX5_seek_l17 f_X5_seek n) a2 a3 a4 a5 a6 r11 h12)) else (DX5_seek_b57 f_X5_seek (DX5_seek_l17 f_X5_seek n) a2 a3 a4 a5 a6 (-1) h)))
set_option maxRecDepth 100000 in
theorem TX5_seek_l17 {L : Nat} {xs : Nat → Int32} {dd : Nat} (f_X5_seek : Int → Int → Int → Int → qH → Option (Int × qH)) (hf_X5_seek : ∀ (a2 : Int) (a3 : Int) (a4 : Int) (a5 : Int) (h : qH), qMet L xs yX5_seek cX5_seek 9 (none) 0 dd [qr 157, qr 4, qi a2, qi a3, qi a4, qi a5] h (f_X5_seek a2 a3 a4 a5 h)) (hdd : 8 ≤ dd) : ∀ (n : Nat) (a2 : Int) (a3 : Int) (a4 : Int) (a5 : Int) (a6 : Int) (h : qH), qS L xs cX5_seek "BottlePost$Relay" 9 (dd + 1) 0 17 [(0, qr 157), (1, qr 4), (2, qi a2), (3, qi a3), (4, qi a4), (5, qi a5), (6, qi a6)] [] h (DX5_seek_l17 f_X5_seek n a2 a3 a4 a5 a6 h) := by
  intro n
  induction n with
  | zero =>
    intro a2 a3 a4 a5 a6 h
    exact S_none
  | succ n ih =>
    intro a2 a3 a4 a5 a6 h
    rw [DX5_seek_l17.eq_2]
    refine S_iload 6 dX5_seek_17 rfl rfl ?_
    refine S_aload_n 1 dX5_seek_19 rfl rfl rfl ?_
    refine S_getr (j := 5) (o := 1) 0 qC_2 (by decide) (by decide) qk_4 rfl rfl (by decide) tw_239 dX5_seek_20 rfl ?_
    refine S_geti 14 qC_1 (by decide) (by decide) qk_5 tw_85 dX5_seek_23 rfl ?_
    refine S_icmp_ge (tgt := 137) dX5_seek_26 (by decide) rfl (fun _ => ?_) (fun _ => ?_)
    · exact S_vret dX5_seek_137
    · refine S_iload 5 dX5_seek_29 rfl rfl ?_
      refine S_iload 6 dX5_seek_31 rfl rfl ?_
      refine S_ishr dX5_seek_33 rfl ?_
      refine S_iconst (a := 1) dX5_seek_34 rfl (by decide) ?_
      refine S_iand dX5_seek_35 rfl ?_
      refine S_if_eq (tgt := 43) dX5_seek_36 (by decide) rfl (fun _ => ?_) (fun _ => ?_)
      · refine S_aload_n 1 dX5_seek_43 rfl rfl rfl ?_
        refine S_iload_n 2 dX5_seek_44 rfl rfl rfl ?_
        refine S_iload 6 dX5_seek_45 rfl rfl ?_
        refine S_aload_n 0 dX5_seek_47 rfl rfl rfl ?_
        refine S_geti 3 qC_5 (by decide) (by decide) qk_157 tw_315 dX5_seek_48 rfl ?_
        refine S_iload 4 dX5_seek_51 rfl rfl ?_
        refine S_iadd dX5_seek_53 rfl ?_
        refine S_callV_i (as := [qi a2, qi a6, qi (qw (h.1 157 3 + a4))]) (st := []) (fun _ => rfl) (TX2_soonest a2 a6 (qw (h.1 157 3 + a4)) h) yv_X2_soonest tw_1074 qC_2 qk_4 (by omega) rfl rfl (Nat.le_of_ble_eq_true rfl) dX5_seek_54 rfl (fun r11 h12 e13 => ?_)
        exact TX5_seek_b57 f_X5_seek hf_X5_seek hdd (DX5_seek_l17 f_X5_seek n) ih a2 a3 a4 a5 a6 r11 h12
      · refine S_iconst (a := (-1)) dX5_seek_39 rfl (by decide) ?_
        refine S_goto (pc' := 57) dX5_seek_40 (by decide) ?_
        exact TX5_seek_b57 f_X5_seek hf_X5_seek hdd (DX5_seek_l17 f_X5_seek n) ih a2 a3 a4 a5 a6 (-1) h
def DX5_seek (f_X5_seek : Int → Int → Int → Int → qH → Option (Int × qH)) (a2 : Int) (a3 : Int) (a4 : Int) (a5 : Int) (h : qH) : Option (Int × qH) := (if a3 < 6 then (if 0 ≤ a3 ∧ a3 < 6 then qlt (qu h 158 a3.toNat a2) fun h14 => (DX5_seek_l17 f_X5_seek LF a2 a3 a4 a5 0 h14) else none) else some (0, h))
set_option maxRecDepth 100000 in
theorem TX5_seek {L : Nat} {xs : Nat → Int32} {dd : Nat} (f_X5_seek : Int → Int → Int → Int → qH → Option (Int × qH)) (hf_X5_seek : ∀ (a2 : Int) (a3 : Int) (a4 : Int) (a5 : Int) (h : qH), qMet L xs yX5_seek cX5_seek 9 (none) 0 dd [qr 157, qr 4, qi a2, qi a3, qi a4, qi a5] h (f_X5_seek a2 a3 a4 a5 h)) (hdd : 8 ≤ dd) (a2 : Int) (a3 : Int) (a4 : Int) (a5 : Int) (h : qH) : qMet L xs yX5_seek cX5_seek 9 (none) 0 (dd + 1) [qr 157, qr 4, qi a2, qi a3, qi a4, qi a5] h (DX5_seek f_X5_seek a2 a3 a4 a5 h) := by
  refine qMet.of (by decide +kernel) (Or.inl ⟨rfl, rfl⟩) (Nat.le_of_ble_eq_true rfl) ?_
  show qS L xs cX5_seek "BottlePost$Relay" 9 (dd + 1) 0 0 [(0, qr 157), (1, qr 4), (2, qi a2), (3, qi a3), (4, qi a4), (5, qi a5)] [] h (DX5_seek f_X5_seek a2 a3 a4 a5 h)
  unfold DX5_seek
  refine S_iload_n 3 dX5_seek_0 rfl rfl rfl ?_
  refine S_bipush (a := 6) dX5_seek_1 rfl (by decide) (by decide) ?_
  refine S_icmp_lt (tgt := 7) dX5_seek_3 (by decide) rfl (fun _ => ?_) (fun _ => ?_)
  · refine S_aload_n 0 dX5_seek_7 rfl rfl rfl ?_
    refine S_getr (j := 158) (o := 1) 0 qC_5 (by decide) (by decide) qk_157 rfl rfl (by decide) tw_312 dX5_seek_8 rfl ?_
    refine S_iload_n 3 dX5_seek_11 rfl rfl rfl ?_
    refine S_iload_n 2 dX5_seek_12 rfl rfl rfl ?_
    refine S_iast (N := 6) qk_158 rfl dX5_seek_13 rfl (fun _ _ => ?_)
    refine S_lh (fun h14 => ?_)
    refine S_iconst (a := 0) dX5_seek_14 rfl (by decide) ?_
    refine S_istore (lv' := [(6, qi 0), (0, qr 157), (1, qr 4), (2, qi a2), (3, qi a3), (4, qi a4), (5, qi a5)]) dX5_seek_15 (by decide) rfl rfl ?_
    refine S_sub [1, 2, 3, 4, 5, 6, 0] rfl ?_
    exact TX5_seek_l17 f_X5_seek hf_X5_seek hdd LF a2 a3 a4 a5 0 h14
  · exact S_vret dX5_seek_6
def RX5_seekg : Nat → Nat → Int → Int → Int → Int → qH → Option (Int × qH)
  | 0, _, _, _, _, _, _ => none
  | n + 1, k, a, b, c, e, h => DX5_seek (fun a b c e h => RX5_seekg n 0 a b c e h) a b c e h
set_option maxRecDepth 100000 in
theorem TRX5_seekg {L : Nat} {xs : Nat → Int32} : ∀ n : Nat, (∀ (a b c e : Int) (h : qH), qMet L xs yX5_seek cX5_seek 9 (none) 0 (8 + n) [qr 157, qr 4, qi a, qi b, qi c, qi e] h (RX5_seekg n 0 a b c e h)) := by
  intro n
  induction n with
  | zero => exact fun _ _ _ _ h => fun _ _ hx => (by cases hx)
  | succ n ih =>
    have i0 := ih
    exact fun a b c e h => TX5_seek (dd := 8 + n) (fun a b c e h => RX5_seekg n 0 a b c e h) i0 (by have := n; omega) a b c e h
def RX5_seek (a2 : Int) (a3 : Int) (a4 : Int) (a5 : Int) (h : qH) : Option (Int × qH) := RX5_seekg 100 0 a2 a3 a4 a5 h
theorem TRX5_seek {L : Nat} {xs : Nat → Int32} (a2 : Int) (a3 : Int) (a4 : Int) (a5 : Int) (h : qH) : qMet L xs yX5_seek cX5_seek 9 (none) 0 108 [qr 157, qr 4, qi a2, qi a3, qi a4, qi a5] h (RX5_seek a2 a3 a4 a5 h) := (TRX5_seekg 100) a2 a3 a4 a5 h
def DX5_start (a1 : Int) (a2 : Int) (h : qH) : Option (Int × qH) := (qlt (qu h 157 2 a1) fun h1 => (qlt (qu h1 157 3 a2) fun h2 => (qlt (qu h2 157 4 0) fun h3 => (qlt (qu h3 157 5 0) fun h4 => some (0, h4)))))
set_option maxRecDepth 100000 in
theorem TX5_start {L : Nat} {xs : Nat → Int32} (a1 : Int) (a2 : Int) (h : qH) : qMet L xs yX5_start cX5_start 3 (none) 0 1 [qr 157, qi a1, qi a2] h (DX5_start a1 a2 h) := by
  refine qMet.of (by decide +kernel) (Or.inl ⟨rfl, rfl⟩) (Nat.le_of_ble_eq_true rfl) ?_
  show qS L xs cX5_start "BottlePost$Relay" 3 1 0 0 [(0, qr 157), (1, qi a1), (2, qi a2)] [] h (DX5_start a1 a2 h)
  unfold DX5_start
  refine S_aload_n 0 dX5_start_0 rfl rfl rfl ?_
  refine S_iload_n 1 dX5_start_1 rfl rfl rfl ?_
  refine S_puti 2 qC_5 (by decide) (by decide) rfl rfl qk_157 (by decide) tw_314 dX5_start_2 rfl ?_
  refine S_lh (fun h1 => ?_)
  refine S_aload_n 0 dX5_start_5 rfl rfl rfl ?_
  refine S_iload_n 2 dX5_start_6 rfl rfl rfl ?_
  refine S_puti 3 qC_5 (by decide) (by decide) rfl rfl qk_157 (by decide) tw_315 dX5_start_7 rfl ?_
  refine S_lh (fun h2 => ?_)
  refine S_aload_n 0 dX5_start_10 rfl rfl rfl ?_
  refine S_iconst (a := 0) dX5_start_11 rfl (by decide) ?_
  refine S_puti 4 qC_5 (by decide) (by decide) rfl rfl qk_157 (by decide) tw_316 dX5_start_12 rfl ?_
  refine S_lh (fun h3 => ?_)
  refine S_aload_n 0 dX5_start_15 rfl rfl rfl ?_
  refine S_iconst (a := 0) dX5_start_16 rfl (by decide) ?_
  refine S_puti 5 qC_5 (by decide) (by decide) rfl rfl qk_157 (by decide) tw_318 dX5_start_17 rfl ?_
  refine S_lh (fun h4 => ?_)
  exact S_vret dX5_start_20
def DX5_stop (a1 : Int) (h : qH) : Option (Int × qH) := (if a1 < 0 then some ((-1), h) else (if h.1 157 5 < a1 then some ((-1), h) else (if a1 < 6 then (if ¬ a1 = h.1 157 5 then (if 0 ≤ a1 ∧ a1 < 6 then some (h.1 159 a1.toNat, h) else none) else some (h.1 157 2, h)) else some ((-1), h))))
set_option maxRecDepth 100000 in
theorem TX5_stop {L : Nat} {xs : Nat → Int32} (a1 : Int) (h : qH) : qMet L xs yX5_stop cX5_stop 2 (some .int) 1 1 [qr 157, qi a1] h (DX5_stop a1 h) := by
  refine qMet.of (by decide +kernel) (Or.inr (Or.inl ⟨rfl, rfl⟩)) (Nat.le_of_ble_eq_true rfl) ?_
  show qS L xs cX5_stop "BottlePost$Relay" 2 1 1 0 [(0, qr 157), (1, qi a1)] [] h (DX5_stop a1 h)
  unfold DX5_stop
  refine S_iload_n 1 dX5_stop_0 rfl rfl rfl ?_
  refine S_if_lt (tgt := 18) dX5_stop_1 (by decide) rfl (fun _ => ?_) (fun _ => ?_)
  · refine S_iconst (a := (-1)) dX5_stop_18 rfl (by decide) ?_
    exact S_iret dX5_stop_19
  · refine S_iload_n 1 dX5_stop_4 rfl rfl rfl ?_
    refine S_aload_n 0 dX5_stop_5 rfl rfl rfl ?_
    refine S_geti 5 qC_5 (by decide) (by decide) qk_157 tw_318 dX5_stop_6 rfl ?_
    refine S_icmp_gt (tgt := 18) dX5_stop_9 (by decide) rfl (fun _ => ?_) (fun _ => ?_)
    · refine S_iconst (a := (-1)) dX5_stop_18 rfl (by decide) ?_
      exact S_iret dX5_stop_19
    · refine S_iload_n 1 dX5_stop_12 rfl rfl rfl ?_
      refine S_bipush (a := 6) dX5_stop_13 rfl (by decide) (by decide) ?_
      refine S_icmp_lt (tgt := 20) dX5_stop_15 (by decide) rfl (fun _ => ?_) (fun _ => ?_)
      · refine S_iload_n 1 dX5_stop_20 rfl rfl rfl ?_
        refine S_aload_n 0 dX5_stop_21 rfl rfl rfl ?_
        refine S_geti 5 qC_5 (by decide) (by decide) qk_157 tw_318 dX5_stop_22 rfl ?_
        refine S_icmp_ne (tgt := 35) dX5_stop_25 (by decide) rfl (fun _ => ?_) (fun _ => ?_)
        · refine S_aload_n 0 dX5_stop_35 rfl rfl rfl ?_
          refine S_getr (j := 159) (o := 2) 1 qC_5 (by decide) (by decide) qk_157 rfl rfl (by decide) tw_313 dX5_stop_36 rfl ?_
          refine S_iload_n 1 dX5_stop_39 rfl rfl rfl ?_
          refine S_iald (N := 6) qk_159 rfl dX5_stop_40 rfl (fun g1 g2 => ?_)
          exact S_iret dX5_stop_41
        · refine S_aload_n 0 dX5_stop_28 rfl rfl rfl ?_
          refine S_geti 2 qC_5 (by decide) (by decide) qk_157 tw_314 dX5_stop_29 rfl ?_
          refine S_goto (pc' := 41) dX5_stop_32 (by decide) ?_
          exact S_iret dX5_stop_41
      · refine S_iconst (a := (-1)) dX5_stop_18 rfl (by decide) ?_
        exact S_iret dX5_stop_19
def DX9_relay_b26 (a1 : Int) (a2 : Int) (a3 : Int) (b0 : Int) (h : qH) : Option (Int × qH) := (qbd (DX9_pairCode a1 a2 h) fun r1 h2 => (if r1 = (-2) then some ((-2), h2) else (if ¬ b0 = 0 then (qbd (DX5_start a2 (h2.1 24 2) h2) fun r4 h5 => (qbd (RX5_seek a1 0 0 (qshl 1 a1) h5) fun r7 h8 => (if ¬ h8.1 157 5 = 0 then (if ¬ a3 = 0 then (if ¬ a3 = 1 then (qbd (DX5_stop (qw (a3 - 10)) h8) fun r10 h11 => some (r10, h11)) else some (h8.1 157 5, h8)) else some (h8.1 157 4, h8)) else some ((-1), h8)))) else some ((-2), h2))))
set_option maxRecDepth 100000 in
theorem TX9_relay_b26 {L : Nat} {xs : Nat → Int32} (a1 : Int) (a2 : Int) (a3 : Int) (b0 : Int) (h : qH) : qS L xs cX9_relay "BottlePost" 5 109 1 26 [(0, qr 0), (1, qi a1), (2, qi a2), (3, qi a3)] [qi b0] h (DX9_relay_b26 a1 a2 a3 b0 h) := by
  unfold DX9_relay_b26
  refine S_istore (lv' := [(4, qi b0), (0, qr 0), (1, qi a1), (2, qi a2), (3, qi a3)]) dX9_relay_26 (by decide) rfl rfl ?_
  refine S_aload_n 1 dX9_relay_28 rfl rfl rfl ?_
  refine S_iload_n 2 dX9_relay_29 rfl rfl rfl ?_
  refine S_iload_n 3 dX9_relay_30 rfl rfl rfl ?_
  refine S_callV_i (as := [qi a1, qi a2]) (st := []) (fun _ => rfl) (TX9_pairCode a1 a2 h) yv_X9_pairCode tw_1018 qC_9 qk_0 (by decide) rfl rfl (Nat.le_of_ble_eq_true rfl) dX9_relay_31 rfl (fun r1 h2 e3 => ?_)
  refine S_bipush (a := (-2)) dX9_relay_34 rfl (by decide) (by decide) ?_
  refine S_icmp_eq (tgt := 44) dX9_relay_36 (by decide) rfl (fun _ => ?_) (fun _ => ?_)
  · refine S_bipush (a := (-2)) dX9_relay_44 rfl (by decide) (by decide) ?_
    exact S_iret dX9_relay_46
  · refine S_iload 0 dX9_relay_39 rfl rfl ?_
    refine S_if_ne (tgt := 47) dX9_relay_41 (by decide) rfl (fun _ => ?_) (fun _ => ?_)
    · refine S_aload_n 1 dX9_relay_47 rfl rfl rfl ?_
      refine S_getr (j := 157) (o := 157) 9 qC_9 (by decide) (by decide) qk_0 rfl rfl (by decide) tw_390 dX9_relay_48 rfl ?_
      refine S_iload_n 3 dX9_relay_51 rfl rfl rfl ?_
      refine S_aload_n 1 dX9_relay_52 rfl rfl rfl ?_
      refine S_getr (j := 24) (o := 24) 5 qC_9 (by decide) (by decide) qk_0 rfl rfl (by decide) tw_386 dX9_relay_53 rfl ?_
      refine S_geti 2 qC_7 (by decide) (by decide) qk_24 tw_276 dX9_relay_56 rfl ?_
      refine S_callV_0 (as := [qi a2, qi (h2.1 24 2)]) (st := []) (fun _ => rfl) (TX5_start a2 (h2.1 24 2) h2) yv_X5_start tw_1066 qC_5 qk_157 (by decide) rfl rfl (Nat.le_of_ble_eq_true rfl) dX9_relay_59 rfl (fun r4 h5 e6 => ?_)
      refine S_aload_n 1 dX9_relay_62 rfl rfl rfl ?_
      refine S_getr (j := 157) (o := 157) 9 qC_9 (by decide) (by decide) qk_0 rfl rfl (by decide) tw_390 dX9_relay_63 rfl ?_
      refine S_aload_n 1 dX9_relay_66 rfl rfl rfl ?_
      refine S_getr (j := 4) (o := 4) 3 qC_9 (by decide) (by decide) qk_0 rfl rfl (by decide) tw_384 dX9_relay_67 rfl ?_
      refine S_iload_n 2 dX9_relay_70 rfl rfl rfl ?_
      refine S_iconst (a := 0) dX9_relay_71 rfl (by decide) ?_
      refine S_iconst (a := 0) dX9_relay_72 rfl (by decide) ?_
      refine S_iconst (a := 1) dX9_relay_73 rfl (by decide) ?_
      refine S_iload_n 2 dX9_relay_74 rfl rfl rfl ?_
      refine S_ishl dX9_relay_75 rfl ?_
      refine S_callVN_0 (as := [qr 4, qi a1, qi 0, qi 0, qi (qshl 1 a1)]) (st := []) (fun _ => rfl) (TRX5_seek a1 0 0 (qshl 1 a1) h5) yv_X5_seek tw_1070 qC_5 qk_157 (by decide) rfl rfl (Nat.le_of_ble_eq_true rfl) dX9_relay_76 rfl (fun r7 h8 e9 => ?_)
      refine S_aload_n 1 dX9_relay_79 rfl rfl rfl ?_
      refine S_getr (j := 157) (o := 157) 9 qC_9 (by decide) (by decide) qk_0 rfl rfl (by decide) tw_390 dX9_relay_80 rfl ?_
      refine S_geti 5 qC_5 (by decide) (by decide) qk_157 tw_319 dX9_relay_83 rfl ?_
      refine S_if_ne (tgt := 91) dX9_relay_86 (by decide) rfl (fun _ => ?_) (fun _ => ?_)
      · refine S_iload_n 4 dX9_relay_91 rfl rfl rfl ?_
        refine S_if_ne (tgt := 103) dX9_relay_92 (by decide) rfl (fun _ => ?_) (fun _ => ?_)
        · refine S_iload_n 4 dX9_relay_103 rfl rfl rfl ?_
          refine S_iconst (a := 1) dX9_relay_104 rfl (by decide) ?_
          refine S_icmp_ne (tgt := 118) dX9_relay_105 (by decide) rfl (fun _ => ?_) (fun _ => ?_)
          · refine S_aload_n 1 dX9_relay_118 rfl rfl rfl ?_
            refine S_getr (j := 157) (o := 157) 9 qC_9 (by decide) (by decide) qk_0 rfl rfl (by decide) tw_390 dX9_relay_119 rfl ?_
            refine S_iload_n 4 dX9_relay_122 rfl rfl rfl ?_
            refine S_bipush (a := 10) dX9_relay_123 rfl (by decide) (by decide) ?_
            refine S_isub dX9_relay_125 rfl ?_
            refine S_callV_i (as := [qi (qw (a3 - 10))]) (st := []) (fun _ => rfl) (TX5_stop (qw (a3 - 10)) h8) yv_X5_stop tw_1082 qC_5 qk_157 (by decide) rfl rfl (Nat.le_of_ble_eq_true rfl) dX9_relay_126 rfl (fun r10 h11 e12 => ?_)
            exact S_iret dX9_relay_129
          · refine S_aload_n 1 dX9_relay_108 rfl rfl rfl ?_
            refine S_getr (j := 157) (o := 157) 9 qC_9 (by decide) (by decide) qk_0 rfl rfl (by decide) tw_390 dX9_relay_109 rfl ?_
            refine S_geti 5 qC_5 (by decide) (by decide) qk_157 tw_319 dX9_relay_112 rfl ?_
            refine S_goto (pc' := 129) dX9_relay_115 (by decide) ?_
            exact S_iret dX9_relay_129
        · refine S_aload_n 1 dX9_relay_95 rfl rfl rfl ?_
          refine S_getr (j := 157) (o := 157) 9 qC_9 (by decide) (by decide) qk_0 rfl rfl (by decide) tw_390 dX9_relay_96 rfl ?_
          refine S_geti 4 qC_5 (by decide) (by decide) qk_157 tw_317 dX9_relay_99 rfl ?_
          exact S_iret dX9_relay_102
      · refine S_iconst (a := (-1)) dX9_relay_89 rfl (by decide) ?_
        exact S_iret dX9_relay_90
    · refine S_bipush (a := (-2)) dX9_relay_44 rfl (by decide) (by decide) ?_
      exact S_iret dX9_relay_46
def DX9_relay (a1 : Int) (a2 : Int) (a3 : Int) (h : qH) : Option (Int × qH) := (if a3 = 0 then (DX9_relay_b26 a1 a2 a3 1 h) else (if a3 = 1 then (DX9_relay_b26 a1 a2 a3 1 h) else (if a3 < 10 then (DX9_relay_b26 a1 a2 a3 0 h) else (if 16 ≤ a3 then (DX9_relay_b26 a1 a2 a3 0 h) else (DX9_relay_b26 a1 a2 a3 1 h)))))
set_option maxRecDepth 100000 in
theorem TX9_relay {L : Nat} {xs : Nat → Int32} (a1 : Int) (a2 : Int) (a3 : Int) (h : qH) : qMet L xs yX9_relay cX9_relay 5 (some .int) 1 109 [qr 0, qi a1, qi a2, qi a3] h (DX9_relay a1 a2 a3 h) := by
  refine qMet.of (by decide +kernel) (Or.inr (Or.inl ⟨rfl, rfl⟩)) (Nat.le_of_ble_eq_true rfl) ?_
  show qS L xs cX9_relay "BottlePost" 5 109 1 0 [(0, qr 0), (1, qi a1), (2, qi a2), (3, qi a3)] [] h (DX9_relay a1 a2 a3 h)
  unfold DX9_relay
  refine S_iload_n 3 dX9_relay_0 rfl rfl rfl ?_
  refine S_if_eq (tgt := 21) dX9_relay_1 (by decide) rfl (fun _ => ?_) (fun _ => ?_)
  · refine S_iconst (a := 1) dX9_relay_21 rfl (by decide) ?_
    refine S_goto (pc' := 26) dX9_relay_22 (by decide) ?_
    exact TX9_relay_b26 a1 a2 a3 1 h
  · refine S_iload_n 3 dX9_relay_4 rfl rfl rfl ?_
    refine S_iconst (a := 1) dX9_relay_5 rfl (by decide) ?_
    refine S_icmp_eq (tgt := 21) dX9_relay_6 (by decide) rfl (fun _ => ?_) (fun _ => ?_)
    · refine S_iconst (a := 1) dX9_relay_21 rfl (by decide) ?_
      refine S_goto (pc' := 26) dX9_relay_22 (by decide) ?_
      exact TX9_relay_b26 a1 a2 a3 1 h
    · refine S_iload_n 3 dX9_relay_9 rfl rfl rfl ?_
      refine S_bipush (a := 10) dX9_relay_10 rfl (by decide) (by decide) ?_
      refine S_icmp_lt (tgt := 25) dX9_relay_12 (by decide) rfl (fun _ => ?_) (fun _ => ?_)
      · refine S_iconst (a := 0) dX9_relay_25 rfl (by decide) ?_
        exact TX9_relay_b26 a1 a2 a3 0 h
      · refine S_iload_n 3 dX9_relay_15 rfl rfl rfl ?_
        refine S_bipush (a := 16) dX9_relay_16 rfl (by decide) (by decide) ?_
        refine S_icmp_ge (tgt := 25) dX9_relay_18 (by decide) rfl (fun _ => ?_) (fun _ => ?_)
        · refine S_iconst (a := 0) dX9_relay_25 rfl (by decide) ?_
          exact TX9_relay_b26 a1 a2 a3 0 h
        · refine S_iconst (a := 1) dX9_relay_21 rfl (by decide) ?_
          refine S_goto (pc' := 26) dX9_relay_22 (by decide) ?_
          exact TX9_relay_b26 a1 a2 a3 1 h
def DX9_restore (a1 : Int) (h : qH) : Option (Int × qH) := (if a1 < 0 then some ((-2), h) else (if a1 < 2 then (if 0 ≤ a1 ∧ a1 < 2 then (if ¬ h.1 167 a1.toNat = 0 then (if 0 ≤ a1 ∧ a1 < 2 then (qbd (DX1_takeFrom 5 (176 + 18 * a1.toNat) h) fun r5 h6 => (if 0 ≤ a1 ∧ a1 < 2 then (qbd (DX7_takeFrom 24 (184 + 18 * a1.toNat) h6) fun r10 h11 => (qbd (DX9_becomeOther h11) fun r13 h14 => some (0, h14))) else none)) else none) else some ((-5), h)) else none) else some ((-2), h)))
set_option maxRecDepth 100000 in
theorem TX9_restore {L : Nat} {xs : Nat → Int32} (a1 : Int) (h : qH) : qMet L xs yX9_restore cX9_restore 2 (some .int) 1 4 [qr 0, qi a1] h (DX9_restore a1 h) := by
  refine qMet.of (by decide +kernel) (Or.inr (Or.inl ⟨rfl, rfl⟩)) (Nat.le_of_ble_eq_true rfl) ?_
  show qS L xs cX9_restore "BottlePost" 2 4 1 0 [(0, qr 0), (1, qi a1)] [] h (DX9_restore a1 h)
  unfold DX9_restore
  refine S_iload_n 1 dX9_restore_0 rfl rfl rfl ?_
  refine S_if_lt (tgt := 9) dX9_restore_1 (by decide) rfl (fun _ => ?_) (fun _ => ?_)
  · refine S_bipush (a := (-2)) dX9_restore_9 rfl (by decide) (by decide) ?_
    exact S_iret dX9_restore_11
  · refine S_iload_n 1 dX9_restore_4 rfl rfl rfl ?_
    refine S_iconst (a := 2) dX9_restore_5 rfl (by decide) ?_
    refine S_icmp_lt (tgt := 12) dX9_restore_6 (by decide) rfl (fun _ => ?_) (fun _ => ?_)
    · refine S_aload_n 0 dX9_restore_12 rfl rfl rfl ?_
      refine S_getr (j := 167) (o := 167) 15 qC_9 (by decide) (by decide) qk_0 rfl rfl (by decide) tw_396 dX9_restore_13 rfl ?_
      refine S_iload_n 1 dX9_restore_16 rfl rfl rfl ?_
      refine S_zald (N := 2) qk_167 rfl dX9_restore_17 rfl (fun g1 g2 => ?_)
      refine S_if_ne (tgt := 24) dX9_restore_18 (by decide) rfl (fun _ => ?_) (fun _ => ?_)
      · refine S_aload_n 0 dX9_restore_24 rfl rfl rfl ?_
        refine S_getr (j := 5) (o := 5) 4 qC_9 (by decide) (by decide) qk_0 rfl rfl (by decide) tw_385 dX9_restore_25 rfl ?_
        refine S_aload_n 0 dX9_restore_28 rfl rfl rfl ?_
        refine S_getr (j := 165) (o := 165) 13 qC_9 (by decide) (by decide) qk_0 rfl rfl (by decide) tw_394 dX9_restore_29 rfl ?_
        refine S_iload_n 1 dX9_restore_32 rfl rfl rfl ?_
        refine S_aald (j := (176 + 18 * a1.toNat)) (C := "BottlePost$Chart") (N := 2) qk_165 (by decide) (by decide) (fun _ => rfl) rfl dX9_restore_33 rfl (fun g3 g4 => (qel_165 g3 g4).2) (fun g3 g4 => ?_)
        refine S_callV_0 (as := [qr (176 + 18 * a1.toNat)]) (st := []) (fun _ => rfl) (TX1_takeFrom 5 (176 + 18 * a1.toNat) qk_5 (qel_165 g3 g4).1 h) yv_X1_takeFrom tw_719 qC_1 qk_5 (by decide) rfl rfl (Nat.le_of_ble_eq_true rfl) dX9_restore_34 rfl (fun r5 h6 e7 => ?_)
        refine S_aload_n 0 dX9_restore_37 rfl rfl rfl ?_
        refine S_getr (j := 24) (o := 24) 5 qC_9 (by decide) (by decide) qk_0 rfl rfl (by decide) tw_386 dX9_restore_38 rfl ?_
        refine S_aload_n 0 dX9_restore_41 rfl rfl rfl ?_
        refine S_getr (j := 166) (o := 166) 14 qC_9 (by decide) (by decide) qk_0 rfl rfl (by decide) tw_395 dX9_restore_42 rfl ?_
        refine S_iload_n 1 dX9_restore_45 rfl rfl rfl ?_
        refine S_aald (j := (184 + 18 * a1.toNat)) (C := "BottlePost$Waters") (N := 2) qk_166 (by decide) (by decide) (fun _ => rfl) rfl dX9_restore_46 rfl (fun g8 g9 => (qel_166 g8 g9).2) (fun g8 g9 => ?_)
        refine S_callV_0 (as := [qr (184 + 18 * a1.toNat)]) (st := []) (fun _ => rfl) (TX7_takeFrom 24 (184 + 18 * a1.toNat) qk_24 (qel_166 g8 g9).1 h6) yv_X7_takeFrom tw_947 qC_7 qk_24 (by decide) rfl rfl (Nat.le_of_ble_eq_true rfl) dX9_restore_47 rfl (fun r10 h11 e12 => ?_)
        refine S_aload_n 0 dX9_restore_50 rfl rfl rfl ?_
        refine S_callV_0 (as := []) (st := []) (fun _ => rfl) (TX9_becomeOther h11) yv_X9_becomeOther tw_730 qC_9 qk_0 (by decide) rfl rfl (Nat.le_of_ble_eq_true rfl) dX9_restore_51 rfl (fun r13 h14 e15 => ?_)
        refine S_iconst (a := 0) dX9_restore_54 rfl (by decide) ?_
        exact S_iret dX9_restore_55
      · refine S_bipush (a := (-5)) dX9_restore_21 rfl (by decide) (by decide) ?_
        exact S_iret dX9_restore_23
    · refine S_bipush (a := (-2)) dX9_restore_9 rfl (by decide) (by decide) ?_
      exact S_iret dX9_restore_11
def DX1_aim_l2 : Nat → Nat → Int → qH → Option (Int × qH)
  | 0, _, _, _ => none
  | n + 1, i0, a1, h => (if h.1 i0 14 ≤ a1 then some (0, h) else (if 6 ≤ a1 then some (0, h) else (if 0 ≤ a1 ∧ a1 < 6 then (if 0 ≤ a1 ∧ a1 < 6 then (qbd (DX1_beside i0 (h.1 (i0 + 3) a1.toNat) (h.1 (i0 + 4) a1.toNat) h) fun r5 h6 => (qbd (DX1_isOpen i0 r5 h6) fun r8 h9 => (if r8 = 0 then (if 0 ≤ a1 ∧ a1 < 6 then qlt (qu h9 (i0 + 5) a1.toNat (-1)) fun h11 => ((DX1_aim_l2 n) i0 (qw (a1 + 1)) h11) else none) else (if 0 ≤ a1 ∧ a1 < 6 then qlt (qu h9 (i0 + 5) a1.toNat r5) fun h12 => ((DX1_aim_l2 n) i0 (qw (a1 + 1)) h12) else none)))) else none) else none)))
set_option maxRecDepth 100000 in
theorem TX1_aim_l2 {L : Nat} {xs : Nat → Int32} : ∀ (n : Nat) (i0 : Nat) (a1 : Int) (t0 : qK i0 = (1, 20)) (h : qH), qS L xs cX1_aim "BottlePost$Chart" 3 2 0 2 [(0, qr i0), (1, qi a1)] [] h (DX1_aim_l2 n i0 a1 h) := by
  intro n
  induction n with
  | zero =>
    intro i0 a1 t0 h
    exact S_none
  | succ n ih =>
    intro i0 a1 t0 h
    rw [DX1_aim_l2.eq_2]
    refine S_iload_n 1 dX1_aim_2 rfl rfl rfl ?_
    refine S_aload_n 0 dX1_aim_3 rfl rfl rfl ?_
    refine S_geti 14 qC_1 (by decide) (by decide) t0 tw_84 dX1_aim_4 rfl ?_
    refine S_icmp_ge (tgt := 58) dX1_aim_7 (by decide) rfl (fun _ => ?_) (fun _ => ?_)
    · exact S_vret dX1_aim_58
    · refine S_iload_n 1 dX1_aim_10 rfl rfl rfl ?_
      refine S_bipush (a := 6) dX1_aim_11 rfl (by decide) (by decide) ?_
      refine S_icmp_ge (tgt := 58) dX1_aim_13 (by decide) rfl (fun _ => ?_) (fun _ => ?_)
      · exact S_vret dX1_aim_58
      · refine S_aload_n 0 dX1_aim_16 rfl rfl rfl ?_
        refine S_aload_n 0 dX1_aim_17 rfl rfl rfl ?_
        refine S_getr (j := (i0 + 3)) (o := 3) 2 qC_1 (by decide) (by decide) t0 rfl rfl (qf_1_2 t0).2 tw_47 dX1_aim_18 rfl ?_
        refine S_iload_n 1 dX1_aim_21 rfl rfl rfl ?_
        refine S_iald (N := 6) (qf_1_2 t0).1 rfl dX1_aim_22 rfl (fun g1 g2 => ?_)
        refine S_aload_n 0 dX1_aim_23 rfl rfl rfl ?_
        refine S_getr (j := (i0 + 4)) (o := 4) 3 qC_1 (by decide) (by decide) t0 rfl rfl (qf_1_3 t0).2 tw_50 dX1_aim_24 rfl ?_
        refine S_iload_n 1 dX1_aim_27 rfl rfl rfl ?_
        refine S_iald (N := 6) (qf_1_3 t0).1 rfl dX1_aim_28 rfl (fun g3 g4 => ?_)
        refine S_callV_i (as := [qi (h.1 (i0 + 3) a1.toNat), qi (h.1 (i0 + 4) a1.toNat)]) (st := []) (fun _ => rfl) (TX1_beside i0 (h.1 (i0 + 3) a1.toNat) (h.1 (i0 + 4) a1.toNat) t0 h) yv_X1_beside tw_714 qC_1 t0 (by decide) rfl rfl (Nat.le_of_ble_eq_true rfl) dX1_aim_29 rfl (fun r5 h6 e7 => ?_)
        refine S_istore_n (lv' := [(2, qi r5), (0, qr i0), (1, qi a1)]) dX1_aim_32 rfl (by decide) rfl rfl ?_
        refine S_aload_n 1 dX1_aim_33 rfl rfl rfl ?_
        refine S_getr (j := (i0 + 5)) (o := 5) 4 qC_1 (by decide) (by decide) t0 rfl rfl (qf_1_4 t0).2 tw_53 dX1_aim_34 rfl ?_
        refine S_iload_n 2 dX1_aim_37 rfl rfl rfl ?_
        refine S_aload_n 1 dX1_aim_38 rfl rfl rfl ?_
        refine S_iload_n 0 dX1_aim_39 rfl rfl rfl ?_
        refine S_callV_i (as := [qi r5]) (st := [qi a1, qr (i0 + 5)]) (fun _ => rfl) (TX1_isOpen i0 r5 t0 h6) yv_X1_isOpen tw_718 qC_1 t0 (by decide) rfl rfl (Nat.le_of_ble_eq_true rfl) dX1_aim_40 rfl (fun r8 h9 e10 => ?_)
        refine S_if_eq (tgt := 50) dX1_aim_43 (by decide) rfl (fun _ => ?_) (fun _ => ?_)
        · refine S_iconst (a := (-1)) dX1_aim_50 rfl (by decide) ?_
          refine S_iast (N := 6) (qf_1_4 t0).1 rfl dX1_aim_51 rfl (fun _ _ => ?_)
          refine S_lh (fun h11 => ?_)
          refine S_iinc (lv' := [(1, qi (qw (a1 + 1))), (2, qi r5), (0, qr i0)]) 2 dX1_aim_52 rfl (by decide) rfl rfl ?_
          refine S_goto (pc' := 2) dX1_aim_55 (by decide) ?_
          refine S_sub [2, 0] rfl ?_
          exact ih i0 (qw (a1 + 1)) t0 h11
        · refine S_iload_n 0 dX1_aim_46 rfl rfl rfl ?_
          refine S_goto (pc' := 51) dX1_aim_47 (by decide) ?_
          refine S_iast (N := 6) (qf_1_4 t0).1 rfl dX1_aim_51 rfl (fun _ _ => ?_)
          refine S_lh (fun h12 => ?_)
          refine S_iinc (lv' := [(1, qi (qw (a1 + 1))), (2, qi r5), (0, qr i0)]) 2 dX1_aim_52 rfl (by decide) rfl rfl ?_
          refine S_goto (pc' := 2) dX1_aim_55 (by decide) ?_
          refine S_sub [2, 0] rfl ?_
          exact ih i0 (qw (a1 + 1)) t0 h12
def DX1_aim (i0 : Nat) (h : qH) : Option (Int × qH) := (DX1_aim_l2 LF i0 0 h)
set_option maxRecDepth 100000 in
theorem TX1_aim {L : Nat} {xs : Nat → Int32} (i0 : Nat) (t0 : qK i0 = (1, 20)) (h : qH) : qMet L xs yX1_aim cX1_aim 3 (none) 0 2 [qr i0] h (DX1_aim i0 h) := by
  refine qMet.of (by decide +kernel) (Or.inl ⟨rfl, rfl⟩) (Nat.le_of_ble_eq_true rfl) ?_
  show qS L xs cX1_aim "BottlePost$Chart" 3 2 0 0 [(0, qr i0)] [] h (DX1_aim i0 h)
  unfold DX1_aim
  refine S_iconst (a := 0) dX1_aim_0 rfl (by decide) ?_
  refine S_istore_n (lv' := [(1, qi 0), (0, qr i0)]) dX1_aim_1 rfl (by decide) rfl rfl ?_
  refine S_sub [1, 0] rfl ?_
  exact TX1_aim_l2 LF i0 0 t0 h
def DJ7_fill_53178_l5 : Nat → Nat → Nat → Int → Int → Int → qH → Option (Int × qH)
  | 0, _, _, _, _, _, _ => none
  | n + 1, i0, n0, a1, a2, a3, h => (if a3 ≤ a2 then some (0, h) else (if 0 ≤ a2 ∧ a2 < (n0 : Int) then qlt (qu h i0 a2.toNat a1) fun h1 => ((DJ7_fill_53178_l5 n) i0 n0 a1 (qw (a2 + 1)) a3 h1) else none))
set_option maxRecDepth 100000 in
theorem TJ7_fill_53178_l5 {L : Nat} {xs : Nat → Int32} : ∀ (n : Nat) (i0 n0 : Nat) (a1 : Int) (a2 : Int) (a3 : Int) (t0 : qK i0 = (20, n0)) (ut0 : q32 (n0 : Int)) (h : qH), qS L xs cJ7_fill_53178 "java/util/Arrays" 4 1 0 5 [(0, qr i0), (1, qi a1), (2, qi a2), (3, qi a3)] [] h (DJ7_fill_53178_l5 n i0 n0 a1 a2 a3 h) := by
  intro n
  induction n with
  | zero =>
    intro i0 n0 a1 a2 a3 t0 ut0 h
    exact S_none
  | succ n ih =>
    intro i0 n0 a1 a2 a3 t0 ut0 h
    rw [DJ7_fill_53178_l5.eq_2]
    refine S_iload_n 2 dJ7_fill_53178_5 rfl rfl rfl ?_
    refine S_iload_n 3 dJ7_fill_53178_6 rfl rfl rfl ?_
    refine S_icmp_ge (tgt := 20) dJ7_fill_53178_7 (by decide) rfl (fun _ => ?_) (fun _ => ?_)
    · exact S_vret dJ7_fill_53178_20
    · refine S_aload_n 0 dJ7_fill_53178_10 rfl rfl rfl ?_
      refine S_iload_n 2 dJ7_fill_53178_11 rfl rfl rfl ?_
      refine S_iload_n 1 dJ7_fill_53178_12 rfl rfl rfl ?_
      refine S_iast (N := (n0 : Int)) t0 rfl dJ7_fill_53178_13 rfl (fun _ _ => ?_)
      refine S_lh (fun h1 => ?_)
      refine S_iinc (lv' := [(2, qi (qw (a2 + 1))), (0, qr i0), (1, qi a1), (3, qi a3)]) 2 dJ7_fill_53178_14 rfl (by decide) rfl rfl ?_
      refine S_goto (pc' := 5) dJ7_fill_53178_17 (by decide) ?_
      refine S_sub [1, 2, 0, 3] rfl ?_
      exact ih i0 n0 a1 (qw (a2 + 1)) a3 t0 ut0 h1
def DJ7_fill_53178 (i0 n0 : Nat) (a1 : Int) (h : qH) : Option (Int × qH) := (DJ7_fill_53178_l5 LF i0 n0 a1 0 (n0 : Int) h)
set_option maxRecDepth 100000 in
theorem TJ7_fill_53178 {L : Nat} {xs : Nat → Int32} (i0 n0 : Nat) (a1 : Int) (t0 : qK i0 = (20, n0)) (ut0 : q32 (n0 : Int)) (h : qH) : qMet L xs yJ7_fill_53178 cJ7_fill_53178 4 (none) 0 1 [qr i0, qi a1] h (DJ7_fill_53178 i0 n0 a1 h) := by
  refine qMet.of (by decide +kernel) (Or.inl ⟨rfl, rfl⟩) (Nat.le_of_ble_eq_true rfl) ?_
  show qS L xs cJ7_fill_53178 "java/util/Arrays" 4 1 0 0 [(0, qr i0), (1, qi a1)] [] h (DJ7_fill_53178 i0 n0 a1 h)
  unfold DJ7_fill_53178
  refine S_iconst (a := 0) dJ7_fill_53178_0 rfl (by decide) ?_
  refine S_istore_n (lv' := [(2, qi 0), (0, qr i0), (1, qi a1)]) dJ7_fill_53178_1 rfl (by decide) rfl rfl ?_
  refine S_aload_n 1 dJ7_fill_53178_2 rfl rfl rfl ?_
  refine S_alen (N := (n0 : Int)) t0 (by decide) (by decide) rfl ut0 dJ7_fill_53178_3 rfl ?_
  refine S_istore_n (lv' := [(3, qi (n0 : Int)), (2, qi 0), (0, qr i0), (1, qi a1)]) dJ7_fill_53178_4 rfl (by decide) rfl rfl ?_
  refine S_sub [2, 3, 1, 0] rfl ?_
  exact TJ7_fill_53178_l5 LF i0 n0 a1 0 (n0 : Int) t0 ut0 h
def DX1_clear (i0 : Nat) (h : qH) : Option (Int × qH) := (qbd (DJ7_fill_53178 (i0 + 1) 36 0 h) fun r1 h2 => (qbd (DJ7_fill_53178 (i0 + 2) 216 0 h2) fun r4 h5 => (qlt (qu h5 i0 7 0) fun h7 => (qlt (qu h7 i0 8 0) fun h8 => (qlt (qu h8 i0 9 0) fun h9 => (qlt (qu h9 i0 10 0) fun h10 => (qlt (qu h10 i0 11 0) fun h11 => (qlt (qu h11 i0 12 0) fun h12 => (qlt (qu h12 i0 13 1) fun h13 => (qlt (qu h13 i0 14 0) fun h14 => (qlt (qu h14 i0 15 0) fun h15 => (qlt (qu h15 i0 16 0) fun h16 => (qlt (qu h16 i0 17 0) fun h17 => (qlt (qu h17 i0 18 0) fun h18 => (qlt (qu h18 i0 19 0) fun h19 => some (0, h19))))))))))))))))
set_option maxRecDepth 100000 in
theorem TX1_clear {L : Nat} {xs : Nat → Int32} (i0 : Nat) (t0 : qK i0 = (1, 20)) (h : qH) : qMet L xs yX1_clear cX1_clear 1 (none) 0 2 [qr i0] h (DX1_clear i0 h) := by
  refine qMet.of (by decide +kernel) (Or.inl ⟨rfl, rfl⟩) (Nat.le_of_ble_eq_true rfl) ?_
  show qS L xs cX1_clear "BottlePost$Chart" 1 2 0 0 [(0, qr i0)] [] h (DX1_clear i0 h)
  unfold DX1_clear
  refine S_aload_n 0 dX1_clear_0 rfl rfl rfl ?_
  refine S_getr (j := (i0 + 1)) (o := 1) 0 qC_1 (by decide) (by decide) t0 rfl rfl (qf_1_0 t0).2 tw_41 dX1_clear_1 rfl ?_
  refine S_iconst (a := 0) dX1_clear_4 rfl (by decide) ?_
  refine S_callS_0 (as := [qr (i0 + 1), qi 0]) (st := []) (fun _ => rfl) (TJ7_fill_53178 (i0 + 1) 36 0 (qf_1_0 t0).1 (by decide) h) yv_J7_fill_53178 tw_453 (by decide) rfl rfl (Nat.le_of_ble_eq_true rfl) dX1_clear_5 rfl (fun r1 h2 e3 => ?_)
  refine S_aload_n 0 dX1_clear_8 rfl rfl rfl ?_
  refine S_getr (j := (i0 + 2)) (o := 2) 1 qC_1 (by decide) (by decide) t0 rfl rfl (qf_1_1 t0).2 tw_45 dX1_clear_9 rfl ?_
  refine S_iconst (a := 0) dX1_clear_12 rfl (by decide) ?_
  refine S_callS_0 (as := [qr (i0 + 2), qi 0]) (st := []) (fun _ => rfl) (TJ7_fill_53178 (i0 + 2) 216 0 (qf_1_1 t0).1 (by decide) h2) yv_J7_fill_53178 tw_453 (by decide) rfl rfl (Nat.le_of_ble_eq_true rfl) dX1_clear_13 rfl (fun r4 h5 e6 => ?_)
  refine S_aload_n 0 dX1_clear_16 rfl rfl rfl ?_
  refine S_iconst (a := 0) dX1_clear_17 rfl (by decide) ?_
  refine S_puti 7 qC_1 (by decide) (by decide) rfl rfl t0 (by decide) tw_61 dX1_clear_18 rfl ?_
  refine S_lh (fun h7 => ?_)
  refine S_aload_n 0 dX1_clear_21 rfl rfl rfl ?_
  refine S_iconst (a := 0) dX1_clear_22 rfl (by decide) ?_
  refine S_puti 8 qC_1 (by decide) (by decide) rfl rfl t0 (by decide) tw_64 dX1_clear_23 rfl ?_
  refine S_lh (fun h8 => ?_)
  refine S_aload_n 0 dX1_clear_26 rfl rfl rfl ?_
  refine S_iconst (a := 0) dX1_clear_27 rfl (by decide) ?_
  refine S_puti 9 qC_1 (by decide) (by decide) rfl rfl t0 (by decide) tw_67 dX1_clear_28 rfl ?_
  refine S_lh (fun h9 => ?_)
  refine S_aload_n 0 dX1_clear_31 rfl rfl rfl ?_
  refine S_iconst (a := 0) dX1_clear_32 rfl (by decide) ?_
  refine S_puti 10 qC_1 (by decide) (by decide) rfl rfl t0 (by decide) tw_70 dX1_clear_33 rfl ?_
  refine S_lh (fun h10 => ?_)
  refine S_aload_n 0 dX1_clear_36 rfl rfl rfl ?_
  refine S_iconst (a := 0) dX1_clear_37 rfl (by decide) ?_
  refine S_puti 11 qC_1 (by decide) (by decide) rfl rfl t0 (by decide) tw_73 dX1_clear_38 rfl ?_
  refine S_lh (fun h11 => ?_)
  refine S_aload_n 0 dX1_clear_41 rfl rfl rfl ?_
  refine S_iconst (a := 0) dX1_clear_42 rfl (by decide) ?_
  refine S_puti 12 qC_1 (by decide) (by decide) rfl rfl t0 (by decide) tw_77 dX1_clear_43 rfl ?_
  refine S_lh (fun h12 => ?_)
  refine S_aload_n 0 dX1_clear_46 rfl rfl rfl ?_
  refine S_iconst (a := 1) dX1_clear_47 rfl (by decide) ?_
  refine S_puti 13 qC_1 (by decide) (by decide) rfl rfl t0 (by decide) tw_80 dX1_clear_48 rfl ?_
  refine S_lh (fun h13 => ?_)
  refine S_aload_n 0 dX1_clear_51 rfl rfl rfl ?_
  refine S_iconst (a := 0) dX1_clear_52 rfl (by decide) ?_
  refine S_puti 14 qC_1 (by decide) (by decide) rfl rfl t0 (by decide) tw_84 dX1_clear_53 rfl ?_
  refine S_lh (fun h14 => ?_)
  refine S_aload_n 0 dX1_clear_56 rfl rfl rfl ?_
  refine S_iconst (a := 0) dX1_clear_57 rfl (by decide) ?_
  refine S_puti 15 qC_1 (by decide) (by decide) rfl rfl t0 (by decide) tw_88 dX1_clear_58 rfl ?_
  refine S_lh (fun h15 => ?_)
  refine S_aload_n 0 dX1_clear_61 rfl rfl rfl ?_
  refine S_iconst (a := 0) dX1_clear_62 rfl (by decide) ?_
  refine S_puti 16 qC_1 (by decide) (by decide) rfl rfl t0 (by decide) tw_91 dX1_clear_63 rfl ?_
  refine S_lh (fun h16 => ?_)
  refine S_aload_n 0 dX1_clear_66 rfl rfl rfl ?_
  refine S_iconst (a := 0) dX1_clear_67 rfl (by decide) ?_
  refine S_puti 17 qC_1 (by decide) (by decide) rfl rfl t0 (by decide) tw_94 dX1_clear_68 rfl ?_
  refine S_lh (fun h17 => ?_)
  refine S_aload_n 0 dX1_clear_71 rfl rfl rfl ?_
  refine S_iconst (a := 0) dX1_clear_72 rfl (by decide) ?_
  refine S_puti 18 qC_1 (by decide) (by decide) rfl rfl t0 (by decide) tw_96 dX1_clear_73 rfl ?_
  refine S_lh (fun h18 => ?_)
  refine S_aload_n 0 dX1_clear_76 rfl rfl rfl ?_
  refine S_iconst (a := 0) dX1_clear_77 rfl (by decide) ?_
  refine S_puti 19 qC_1 (by decide) (by decide) rfl rfl t0 (by decide) tw_98 dX1_clear_78 rfl ?_
  refine S_lh (fun h19 => ?_)
  exact S_vret dX1_clear_81
def DX4_advance_b299 (a1 : Int) (h : qH) : Option (Int × qH) := (qbd (DJ0_indexOf_0f7a4 0 (qc16 a1) h) fun r1 h2 => (if r1 < 0 then (qlt (qu h2 2 6 (-1)) fun h4 => (qlt (qu h4 2 8 (qw (h4.1 2 8 + 1))) fun h5 => some (0, h5))) else (qlt (qu h2 2 6 a1) fun h6 => (qlt (qu h6 2 8 (qw (h6.1 2 8 + 1))) fun h7 => some (0, h7)))))
set_option maxRecDepth 100000 in
theorem TX4_advance_b299 {L : Nat} {xs : Nat → Int32} (a1 : Int) (h : qH) : qS L xs cX4_advance "BottlePost$Reader" 2 8 0 299 [(0, qr 2), (1, qi a1)] [] h (DX4_advance_b299 a1 h) := by
  unfold DX4_advance_b299
  refine S_aload_n 0 dX4_advance_299 rfl rfl rfl ?_
  refine S_ldcs (t := 0) (by decide) ⟨rfl, rfl⟩ dX4_advance_300 rfl ?_
  refine S_iload_n 1 dX4_advance_302 rfl rfl rfl ?_
  refine S_i2c dX4_advance_303 rfl ?_
  refine S_callT_i (as := [qi (qc16 a1)]) (st := [qr 2]) (t := 0) (fun _ => rfl) (TJ0_indexOf_0f7a4 0 (qc16 a1) (by decide) h) yv_J0_indexOf_0f7a4 tw_461 (by decide) (by decide) rfl rfl (Nat.le_of_ble_eq_true rfl) dX4_advance_304 rfl (fun r1 h2 e3 => ?_)
  refine S_if_lt (tgt := 314) dX4_advance_307 (by decide) rfl (fun _ => ?_) (fun _ => ?_)
  · refine S_iconst (a := (-1)) dX4_advance_314 rfl (by decide) ?_
    refine S_puti 6 qC_4 (by decide) (by decide) rfl rfl qk_2 (by decide) tw_153 dX4_advance_315 rfl ?_
    refine S_lh (fun h4 => ?_)
    refine S_aload_n 0 dX4_advance_318 rfl rfl rfl ?_
    refine S_dup dX4_advance_319 rfl rfl ?_
    refine S_geti 8 qC_4 (by decide) (by decide) qk_2 tw_155 dX4_advance_320 rfl ?_
    refine S_iconst (a := 1) dX4_advance_323 rfl (by decide) ?_
    refine S_iadd dX4_advance_324 rfl ?_
    refine S_puti 8 qC_4 (by decide) (by decide) rfl rfl qk_2 (by decide) tw_155 dX4_advance_325 rfl ?_
    refine S_lh (fun h5 => ?_)
    exact S_vret dX4_advance_328
  · refine S_iload_n 1 dX4_advance_310 rfl rfl rfl ?_
    refine S_goto (pc' := 315) dX4_advance_311 (by decide) ?_
    refine S_puti 6 qC_4 (by decide) (by decide) rfl rfl qk_2 (by decide) tw_153 dX4_advance_315 rfl ?_
    refine S_lh (fun h6 => ?_)
    refine S_aload_n 0 dX4_advance_318 rfl rfl rfl ?_
    refine S_dup dX4_advance_319 rfl rfl ?_
    refine S_geti 8 qC_4 (by decide) (by decide) qk_2 tw_155 dX4_advance_320 rfl ?_
    refine S_iconst (a := 1) dX4_advance_323 rfl (by decide) ?_
    refine S_iadd dX4_advance_324 rfl ?_
    refine S_puti 8 qC_4 (by decide) (by decide) rfl rfl qk_2 (by decide) tw_155 dX4_advance_325 rfl ?_
    refine S_lh (fun h7 => ?_)
    exact S_vret dX4_advance_328
def DX4_advance_b274 (h : qH) : Option (Int × qH) := (if qw (h.1 2 8 - h.1 2 7) ≤ 3 then (qlt (qu h 2 6 2) fun h8 => some (0, h8)) else (qlt (qu h 2 6 (-1)) fun h9 => some (0, h9)))
set_option maxRecDepth 100000 in
theorem TX4_advance_b274 {L : Nat} {xs : Nat → Int32} (h : qH) : qS L xs cX4_advance "BottlePost$Reader" 2 8 0 274 [(0, qr 2)] [] h (DX4_advance_b274 h) := by
  unfold DX4_advance_b274
  refine S_aload_n 0 dX4_advance_274 rfl rfl rfl ?_
  refine S_aload_n 0 dX4_advance_275 rfl rfl rfl ?_
  refine S_geti 8 qC_4 (by decide) (by decide) qk_2 tw_155 dX4_advance_276 rfl ?_
  refine S_aload_n 0 dX4_advance_279 rfl rfl rfl ?_
  refine S_geti 7 qC_4 (by decide) (by decide) qk_2 tw_154 dX4_advance_280 rfl ?_
  refine S_isub dX4_advance_283 rfl ?_
  refine S_iconst (a := 3) dX4_advance_284 rfl (by decide) ?_
  refine S_icmp_le (tgt := 292) dX4_advance_285 (by decide) rfl (fun _ => ?_) (fun _ => ?_)
  · refine S_iconst (a := 2) dX4_advance_292 rfl (by decide) ?_
    refine S_puti 6 qC_4 (by decide) (by decide) rfl rfl qk_2 (by decide) tw_153 dX4_advance_293 rfl ?_
    refine S_lh (fun h8 => ?_)
    refine S_goto (pc' := 328) dX4_advance_296 (by decide) ?_
    exact S_vret dX4_advance_328
  · refine S_iconst (a := (-1)) dX4_advance_288 rfl (by decide) ?_
    refine S_goto (pc' := 293) dX4_advance_289 (by decide) ?_
    refine S_puti 6 qC_4 (by decide) (by decide) rfl rfl qk_2 (by decide) tw_153 dX4_advance_293 rfl ?_
    refine S_lh (fun h9 => ?_)
    refine S_goto (pc' := 328) dX4_advance_296 (by decide) ?_
    exact S_vret dX4_advance_328
def DX4_advance_l185 : Nat → qH → Option (Int × qH)
  | 0, _ => none
  | n + 1, h => (if h.1 2 4 ≤ h.1 2 8 then (DX4_advance_b274 h) else (if h.2.2.2.1 = true then (if 0 ≤ h.1 2 8 ∧ h.1 2 8 < 900 then (if h.1 1 (h.1 2 8).toNat < 48 then (DX4_advance_b274 h) else (if h.2.2.2.1 = true then (if 0 ≤ h.1 2 8 ∧ h.1 2 8 < 900 then (if 57 < h.1 1 (h.1 2 8).toNat then (DX4_advance_b274 h) else (if 3 ≤ qw (h.1 2 8 - h.1 2 7) then (qlt (qu h 2 8 (qw (h.1 2 8 + 1))) fun h14 => ((DX4_advance_l185 n) h14)) else (if h.2.2.2.1 = true then (if 0 ≤ h.1 2 8 ∧ h.1 2 8 < 900 then (qlt (qu h 2 9 (qw (qw (qw (h.1 2 9 * 10) + h.1 1 (h.1 2 8).toNat) - 48))) fun h17 => (qlt (qu h17 2 8 (qw (h17.1 2 8 + 1))) fun h18 => ((DX4_advance_l185 n) h18))) else none) else none))) else none) else none)) else none) else none))
set_option maxRecDepth 100000 in
theorem TX4_advance_l185 {L : Nat} {xs : Nat → Int32} : ∀ (n : Nat) (h : qH), qS L xs cX4_advance "BottlePost$Reader" 2 8 0 185 [(0, qr 2)] [] h (DX4_advance_l185 n h) := by
  intro n
  induction n with
  | zero =>
    intro h
    exact S_none
  | succ n ih =>
    intro h
    rw [DX4_advance_l185.eq_2]
    refine S_aload_n 0 dX4_advance_185 rfl rfl rfl ?_
    refine S_geti 8 qC_4 (by decide) (by decide) qk_2 tw_155 dX4_advance_186 rfl ?_
    refine S_aload_n 0 dX4_advance_189 rfl rfl rfl ?_
    refine S_geti 4 qC_4 (by decide) (by decide) qk_2 tw_151 dX4_advance_190 rfl ?_
    refine S_icmp_ge (tgt := 274) dX4_advance_193 (by decide) rfl (fun _ => ?_) (fun _ => ?_)
    · exact TX4_advance_b274 h
    · refine S_aload_n 0 dX4_advance_196 rfl rfl rfl ?_
      refine S_gett qC_4 tw_150 dX4_advance_197 rfl (fun _ => ?_)
      refine S_aload_n 0 dX4_advance_200 rfl rfl rfl ?_
      refine S_geti 8 qC_4 (by decide) (by decide) qk_2 tw_155 dX4_advance_201 rfl ?_
      refine S_bald (N := 900) qk_1 rfl dX4_advance_204 rfl (fun g10 g11 => ?_)
      refine S_bipush (a := 48) dX4_advance_205 rfl (by decide) (by decide) ?_
      refine S_icmp_lt (tgt := 274) dX4_advance_207 (by decide) rfl (fun _ => ?_) (fun _ => ?_)
      · exact TX4_advance_b274 h
      · refine S_aload_n 0 dX4_advance_210 rfl rfl rfl ?_
        refine S_gett qC_4 tw_150 dX4_advance_211 rfl (fun _ => ?_)
        refine S_aload_n 0 dX4_advance_214 rfl rfl rfl ?_
        refine S_geti 8 qC_4 (by decide) (by decide) qk_2 tw_155 dX4_advance_215 rfl ?_
        refine S_bald (N := 900) qk_1 rfl dX4_advance_218 rfl (fun g12 g13 => ?_)
        refine S_bipush (a := 57) dX4_advance_219 rfl (by decide) (by decide) ?_
        refine S_icmp_gt (tgt := 274) dX4_advance_221 (by decide) rfl (fun _ => ?_) (fun _ => ?_)
        · exact TX4_advance_b274 h
        · refine S_aload_n 0 dX4_advance_224 rfl rfl rfl ?_
          refine S_geti 8 qC_4 (by decide) (by decide) qk_2 tw_155 dX4_advance_225 rfl ?_
          refine S_aload_n 0 dX4_advance_228 rfl rfl rfl ?_
          refine S_geti 7 qC_4 (by decide) (by decide) qk_2 tw_154 dX4_advance_229 rfl ?_
          refine S_isub dX4_advance_232 rfl ?_
          refine S_iconst (a := 3) dX4_advance_233 rfl (by decide) ?_
          refine S_icmp_ge (tgt := 261) dX4_advance_234 (by decide) rfl (fun _ => ?_) (fun _ => ?_)
          · refine S_aload_n 0 dX4_advance_261 rfl rfl rfl ?_
            refine S_dup dX4_advance_262 rfl rfl ?_
            refine S_geti 8 qC_4 (by decide) (by decide) qk_2 tw_155 dX4_advance_263 rfl ?_
            refine S_iconst (a := 1) dX4_advance_266 rfl (by decide) ?_
            refine S_iadd dX4_advance_267 rfl ?_
            refine S_puti 8 qC_4 (by decide) (by decide) rfl rfl qk_2 (by decide) tw_155 dX4_advance_268 rfl ?_
            refine S_lh (fun h14 => ?_)
            refine S_goto (pc' := 185) dX4_advance_271 (by decide) ?_
            exact ih h14
          · refine S_aload_n 0 dX4_advance_237 rfl rfl rfl ?_
            refine S_aload_n 0 dX4_advance_238 rfl rfl rfl ?_
            refine S_geti 9 qC_4 (by decide) (by decide) qk_2 tw_156 dX4_advance_239 rfl ?_
            refine S_bipush (a := 10) dX4_advance_242 rfl (by decide) (by decide) ?_
            refine S_imul dX4_advance_244 rfl ?_
            refine S_aload_n 0 dX4_advance_245 rfl rfl rfl ?_
            refine S_gett qC_4 tw_150 dX4_advance_246 rfl (fun _ => ?_)
            refine S_aload_n 0 dX4_advance_249 rfl rfl rfl ?_
            refine S_geti 8 qC_4 (by decide) (by decide) qk_2 tw_155 dX4_advance_250 rfl ?_
            refine S_bald (N := 900) qk_1 rfl dX4_advance_253 rfl (fun g15 g16 => ?_)
            refine S_iadd dX4_advance_254 rfl ?_
            refine S_bipush (a := 48) dX4_advance_255 rfl (by decide) (by decide) ?_
            refine S_isub dX4_advance_257 rfl ?_
            refine S_puti 9 qC_4 (by decide) (by decide) rfl rfl qk_2 (by decide) tw_156 dX4_advance_258 rfl ?_
            refine S_lh (fun h17 => ?_)
            refine S_aload_n 0 dX4_advance_261 rfl rfl rfl ?_
            refine S_dup dX4_advance_262 rfl rfl ?_
            refine S_geti 8 qC_4 (by decide) (by decide) qk_2 tw_155 dX4_advance_263 rfl ?_
            refine S_iconst (a := 1) dX4_advance_266 rfl (by decide) ?_
            refine S_iadd dX4_advance_267 rfl ?_
            refine S_puti 8 qC_4 (by decide) (by decide) rfl rfl qk_2 (by decide) tw_155 dX4_advance_268 rfl ?_
            refine S_lh (fun h18 => ?_)
            refine S_goto (pc' := 185) dX4_advance_271 (by decide) ?_
            exact ih h18
def DX4_advance_l121 : Nat → qH → Option (Int × qH)
  | 0, _ => none
  | n + 1, h => (if h.1 2 4 ≤ h.1 2 8 then some (0, h) else (if h.2.2.2.1 = true then (if 0 ≤ h.1 2 8 ∧ h.1 2 8 < 900 then (if h.1 1 (h.1 2 8).toNat < 97 then some (0, h) else (if h.2.2.2.1 = true then (if 0 ≤ h.1 2 8 ∧ h.1 2 8 < 900 then (if 122 < h.1 1 (h.1 2 8).toNat then some (0, h) else (qlt (qu h 2 8 (qw (h.1 2 8 + 1))) fun h23 => ((DX4_advance_l121 n) h23))) else none) else none)) else none) else none))
set_option maxRecDepth 100000 in
theorem TX4_advance_l121 {L : Nat} {xs : Nat → Int32} : ∀ (n : Nat) (h : qH), qS L xs cX4_advance "BottlePost$Reader" 2 8 0 121 [(0, qr 2)] [] h (DX4_advance_l121 n h) := by
  intro n
  induction n with
  | zero =>
    intro h
    exact S_none
  | succ n ih =>
    intro h
    rw [DX4_advance_l121.eq_2]
    refine S_aload_n 0 dX4_advance_121 rfl rfl rfl ?_
    refine S_geti 8 qC_4 (by decide) (by decide) qk_2 tw_155 dX4_advance_122 rfl ?_
    refine S_aload_n 0 dX4_advance_125 rfl rfl rfl ?_
    refine S_geti 4 qC_4 (by decide) (by decide) qk_2 tw_151 dX4_advance_126 rfl ?_
    refine S_icmp_ge (tgt := 328) dX4_advance_129 (by decide) rfl (fun _ => ?_) (fun _ => ?_)
    · exact S_vret dX4_advance_328
    · refine S_aload_n 0 dX4_advance_132 rfl rfl rfl ?_
      refine S_gett qC_4 tw_150 dX4_advance_133 rfl (fun _ => ?_)
      refine S_aload_n 0 dX4_advance_136 rfl rfl rfl ?_
      refine S_geti 8 qC_4 (by decide) (by decide) qk_2 tw_155 dX4_advance_137 rfl ?_
      refine S_bald (N := 900) qk_1 rfl dX4_advance_140 rfl (fun g19 g20 => ?_)
      refine S_bipush (a := 97) dX4_advance_141 rfl (by decide) (by decide) ?_
      refine S_icmp_lt (tgt := 328) dX4_advance_143 (by decide) rfl (fun _ => ?_) (fun _ => ?_)
      · exact S_vret dX4_advance_328
      · refine S_aload_n 0 dX4_advance_146 rfl rfl rfl ?_
        refine S_gett qC_4 tw_150 dX4_advance_147 rfl (fun _ => ?_)
        refine S_aload_n 0 dX4_advance_150 rfl rfl rfl ?_
        refine S_geti 8 qC_4 (by decide) (by decide) qk_2 tw_155 dX4_advance_151 rfl ?_
        refine S_bald (N := 900) qk_1 rfl dX4_advance_154 rfl (fun g21 g22 => ?_)
        refine S_bipush (a := 122) dX4_advance_155 rfl (by decide) (by decide) ?_
        refine S_icmp_gt (tgt := 328) dX4_advance_157 (by decide) rfl (fun _ => ?_) (fun _ => ?_)
        · exact S_vret dX4_advance_328
        · refine S_aload_n 0 dX4_advance_160 rfl rfl rfl ?_
          refine S_dup dX4_advance_161 rfl rfl ?_
          refine S_geti 8 qC_4 (by decide) (by decide) qk_2 tw_155 dX4_advance_162 rfl ?_
          refine S_iconst (a := 1) dX4_advance_165 rfl (by decide) ?_
          refine S_iadd dX4_advance_166 rfl ?_
          refine S_puti 8 qC_4 (by decide) (by decide) rfl rfl qk_2 (by decide) tw_155 dX4_advance_167 rfl ?_
          refine S_lh (fun h23 => ?_)
          refine S_goto (pc' := 121) dX4_advance_170 (by decide) ?_
          exact ih h23
def DX4_advance_b60 (h : qH) : Option (Int × qH) := (qlt (qu h 2 8 (h.1 2 7)) fun h24 => (qlt (qu h24 2 9 0) fun h25 => (if h25.1 2 7 < h25.1 2 4 then (if h25.2.2.2.1 = true then (if 0 ≤ h25.1 2 7 ∧ h25.1 2 7 < 900 then (qlt (qand (h25.1 1 (h25.1 2 7).toNat) 255) fun v28 => (if v28 < 97 then (if v28 < 48 then (DX4_advance_b299 v28 h25) else (if 57 < v28 then (DX4_advance_b299 v28 h25) else (DX4_advance_l185 LF h25))) else (if 122 < v28 then (if v28 < 48 then (DX4_advance_b299 v28 h25) else (if 57 < v28 then (DX4_advance_b299 v28 h25) else (DX4_advance_l185 LF h25))) else (qlt (qu h25 2 6 1) fun h29 => (DX4_advance_l121 LF h29))))) else none) else none) else (qlt (qu h25 2 6 0) fun h30 => some (0, h30)))))
set_option maxRecDepth 100000 in
theorem TX4_advance_b60 {L : Nat} {xs : Nat → Int32} (h : qH) : qS L xs cX4_advance "BottlePost$Reader" 2 8 0 60 [(0, qr 2)] [] h (DX4_advance_b60 h) := by
  unfold DX4_advance_b60
  refine S_aload_n 0 dX4_advance_60 rfl rfl rfl ?_
  refine S_aload_n 0 dX4_advance_61 rfl rfl rfl ?_
  refine S_geti 7 qC_4 (by decide) (by decide) qk_2 tw_154 dX4_advance_62 rfl ?_
  refine S_puti 8 qC_4 (by decide) (by decide) rfl rfl qk_2 (by decide) tw_155 dX4_advance_65 rfl ?_
  refine S_lh (fun h24 => ?_)
  refine S_aload_n 0 dX4_advance_68 rfl rfl rfl ?_
  refine S_iconst (a := 0) dX4_advance_69 rfl (by decide) ?_
  refine S_puti 9 qC_4 (by decide) (by decide) rfl rfl qk_2 (by decide) tw_156 dX4_advance_70 rfl ?_
  refine S_lh (fun h25 => ?_)
  refine S_aload_n 0 dX4_advance_73 rfl rfl rfl ?_
  refine S_geti 7 qC_4 (by decide) (by decide) qk_2 tw_154 dX4_advance_74 rfl ?_
  refine S_aload_n 0 dX4_advance_77 rfl rfl rfl ?_
  refine S_geti 4 qC_4 (by decide) (by decide) qk_2 tw_151 dX4_advance_78 rfl ?_
  refine S_icmp_lt (tgt := 90) dX4_advance_81 (by decide) rfl (fun _ => ?_) (fun _ => ?_)
  · refine S_aload_n 0 dX4_advance_90 rfl rfl rfl ?_
    refine S_gett qC_4 tw_150 dX4_advance_91 rfl (fun _ => ?_)
    refine S_aload_n 0 dX4_advance_94 rfl rfl rfl ?_
    refine S_geti 7 qC_4 (by decide) (by decide) qk_2 tw_154 dX4_advance_95 rfl ?_
    refine S_bald (N := 900) qk_1 rfl dX4_advance_98 rfl (fun g26 g27 => ?_)
    refine S_sipush (a := 255) dX4_advance_99 rfl (by decide) (by decide) ?_
    refine S_iand dX4_advance_102 rfl ?_
    refine S_istore_n (lv' := [(1, qi (qand (h25.1 1 (h25.1 2 7).toNat) 255)), (0, qr 2)]) dX4_advance_103 rfl (by decide) rfl rfl ?_
    refine S_li (fun v28 => ?_)
    refine S_iload_n 0 dX4_advance_104 rfl rfl rfl ?_
    refine S_bipush (a := 97) dX4_advance_105 rfl (by decide) (by decide) ?_
    refine S_icmp_lt (tgt := 173) dX4_advance_107 (by decide) rfl (fun _ => ?_) (fun _ => ?_)
    · refine S_iload_n 0 dX4_advance_173 rfl rfl rfl ?_
      refine S_bipush (a := 48) dX4_advance_174 rfl (by decide) (by decide) ?_
      refine S_icmp_lt (tgt := 299) dX4_advance_176 (by decide) rfl (fun _ => ?_) (fun _ => ?_)
      · refine S_sub [1, 0] rfl ?_
        exact TX4_advance_b299 v28 h25
      · refine S_iload_n 0 dX4_advance_179 rfl rfl rfl ?_
        refine S_bipush (a := 57) dX4_advance_180 rfl (by decide) (by decide) ?_
        refine S_icmp_gt (tgt := 299) dX4_advance_182 (by decide) rfl (fun _ => ?_) (fun _ => ?_)
        · refine S_sub [1, 0] rfl ?_
          exact TX4_advance_b299 v28 h25
        · refine S_sub [1] rfl ?_
          exact TX4_advance_l185 LF h25
    · refine S_iload_n 0 dX4_advance_110 rfl rfl rfl ?_
      refine S_bipush (a := 122) dX4_advance_111 rfl (by decide) (by decide) ?_
      refine S_icmp_gt (tgt := 173) dX4_advance_113 (by decide) rfl (fun _ => ?_) (fun _ => ?_)
      · refine S_iload_n 0 dX4_advance_173 rfl rfl rfl ?_
        refine S_bipush (a := 48) dX4_advance_174 rfl (by decide) (by decide) ?_
        refine S_icmp_lt (tgt := 299) dX4_advance_176 (by decide) rfl (fun _ => ?_) (fun _ => ?_)
        · refine S_sub [1, 0] rfl ?_
          exact TX4_advance_b299 v28 h25
        · refine S_iload_n 0 dX4_advance_179 rfl rfl rfl ?_
          refine S_bipush (a := 57) dX4_advance_180 rfl (by decide) (by decide) ?_
          refine S_icmp_gt (tgt := 299) dX4_advance_182 (by decide) rfl (fun _ => ?_) (fun _ => ?_)
          · refine S_sub [1, 0] rfl ?_
            exact TX4_advance_b299 v28 h25
          · refine S_sub [1] rfl ?_
            exact TX4_advance_l185 LF h25
      · refine S_aload_n 1 dX4_advance_116 rfl rfl rfl ?_
        refine S_iconst (a := 1) dX4_advance_117 rfl (by decide) ?_
        refine S_puti 6 qC_4 (by decide) (by decide) rfl rfl qk_2 (by decide) tw_153 dX4_advance_118 rfl ?_
        refine S_lh (fun h29 => ?_)
        refine S_sub [1] rfl ?_
        exact TX4_advance_l121 LF h29
  · refine S_aload_n 0 dX4_advance_84 rfl rfl rfl ?_
    refine S_iconst (a := 0) dX4_advance_85 rfl (by decide) ?_
    refine S_puti 6 qC_4 (by decide) (by decide) rfl rfl qk_2 (by decide) tw_153 dX4_advance_86 rfl ?_
    refine S_lh (fun h30 => ?_)
    exact S_vret dX4_advance_89
def DX4_advance_l8 : Nat → qH → Option (Int × qH)
  | 0, _ => none
  | n + 1, h => (if h.1 2 4 ≤ h.1 2 7 then (DX4_advance_b60 h) else (if h.2.2.2.1 = true then (if 0 ≤ h.1 2 7 ∧ h.1 2 7 < 900 then (if h.1 1 (h.1 2 7).toNat = 10 then (qlt (qu h 2 7 (qw (h.1 2 7 + 1))) fun h33 => ((DX4_advance_l8 n) h33)) else (if h.2.2.2.1 = true then (if 0 ≤ h.1 2 7 ∧ h.1 2 7 < 900 then (if ¬ h.1 1 (h.1 2 7).toNat = 32 then (DX4_advance_b60 h) else (qlt (qu h 2 7 (qw (h.1 2 7 + 1))) fun h36 => ((DX4_advance_l8 n) h36))) else none) else none)) else none) else none))
set_option maxRecDepth 100000 in
theorem TX4_advance_l8 {L : Nat} {xs : Nat → Int32} : ∀ (n : Nat) (h : qH), qS L xs cX4_advance "BottlePost$Reader" 2 8 0 8 [(0, qr 2)] [] h (DX4_advance_l8 n h) := by
  intro n
  induction n with
  | zero =>
    intro h
    exact S_none
  | succ n ih =>
    intro h
    rw [DX4_advance_l8.eq_2]
    refine S_aload_n 0 dX4_advance_8 rfl rfl rfl ?_
    refine S_geti 7 qC_4 (by decide) (by decide) qk_2 tw_154 dX4_advance_9 rfl ?_
    refine S_aload_n 0 dX4_advance_12 rfl rfl rfl ?_
    refine S_geti 4 qC_4 (by decide) (by decide) qk_2 tw_151 dX4_advance_13 rfl ?_
    refine S_icmp_ge (tgt := 60) dX4_advance_16 (by decide) rfl (fun _ => ?_) (fun _ => ?_)
    · exact TX4_advance_b60 h
    · refine S_aload_n 0 dX4_advance_19 rfl rfl rfl ?_
      refine S_gett qC_4 tw_150 dX4_advance_20 rfl (fun _ => ?_)
      refine S_aload_n 0 dX4_advance_23 rfl rfl rfl ?_
      refine S_geti 7 qC_4 (by decide) (by decide) qk_2 tw_154 dX4_advance_24 rfl ?_
      refine S_bald (N := 900) qk_1 rfl dX4_advance_27 rfl (fun g31 g32 => ?_)
      refine S_bipush (a := 10) dX4_advance_28 rfl (by decide) (by decide) ?_
      refine S_icmp_eq (tgt := 47) dX4_advance_30 (by decide) rfl (fun _ => ?_) (fun _ => ?_)
      · refine S_aload_n 0 dX4_advance_47 rfl rfl rfl ?_
        refine S_dup dX4_advance_48 rfl rfl ?_
        refine S_geti 7 qC_4 (by decide) (by decide) qk_2 tw_154 dX4_advance_49 rfl ?_
        refine S_iconst (a := 1) dX4_advance_52 rfl (by decide) ?_
        refine S_iadd dX4_advance_53 rfl ?_
        refine S_puti 7 qC_4 (by decide) (by decide) rfl rfl qk_2 (by decide) tw_154 dX4_advance_54 rfl ?_
        refine S_lh (fun h33 => ?_)
        refine S_goto (pc' := 8) dX4_advance_57 (by decide) ?_
        exact ih h33
      · refine S_aload_n 0 dX4_advance_33 rfl rfl rfl ?_
        refine S_gett qC_4 tw_150 dX4_advance_34 rfl (fun _ => ?_)
        refine S_aload_n 0 dX4_advance_37 rfl rfl rfl ?_
        refine S_geti 7 qC_4 (by decide) (by decide) qk_2 tw_154 dX4_advance_38 rfl ?_
        refine S_bald (N := 900) qk_1 rfl dX4_advance_41 rfl (fun g34 g35 => ?_)
        refine S_bipush (a := 32) dX4_advance_42 rfl (by decide) (by decide) ?_
        refine S_icmp_ne (tgt := 60) dX4_advance_44 (by decide) rfl (fun _ => ?_) (fun _ => ?_)
        · exact TX4_advance_b60 h
        · refine S_aload_n 0 dX4_advance_47 rfl rfl rfl ?_
          refine S_dup dX4_advance_48 rfl rfl ?_
          refine S_geti 7 qC_4 (by decide) (by decide) qk_2 tw_154 dX4_advance_49 rfl ?_
          refine S_iconst (a := 1) dX4_advance_52 rfl (by decide) ?_
          refine S_iadd dX4_advance_53 rfl ?_
          refine S_puti 7 qC_4 (by decide) (by decide) rfl rfl qk_2 (by decide) tw_154 dX4_advance_54 rfl ?_
          refine S_lh (fun h36 => ?_)
          refine S_goto (pc' := 8) dX4_advance_57 (by decide) ?_
          exact ih h36
def DX4_advance (h : qH) : Option (Int × qH) := (qlt (qu h 2 7 (h.1 2 8)) fun h37 => (DX4_advance_l8 LF h37))
set_option maxRecDepth 100000 in
theorem TX4_advance {L : Nat} {xs : Nat → Int32} (h : qH) : qMet L xs yX4_advance cX4_advance 2 (none) 0 8 [qr 2] h (DX4_advance h) := by
  refine qMet.of (by decide +kernel) (Or.inl ⟨rfl, rfl⟩) (Nat.le_of_ble_eq_true rfl) ?_
  show qS L xs cX4_advance "BottlePost$Reader" 2 8 0 0 [(0, qr 2)] [] h (DX4_advance h)
  unfold DX4_advance
  refine S_aload_n 0 dX4_advance_0 rfl rfl rfl ?_
  refine S_aload_n 0 dX4_advance_1 rfl rfl rfl ?_
  refine S_geti 8 qC_4 (by decide) (by decide) qk_2 tw_155 dX4_advance_2 rfl ?_
  refine S_puti 7 qC_4 (by decide) (by decide) rfl rfl qk_2 (by decide) tw_154 dX4_advance_5 rfl ?_
  refine S_lh (fun h37 => ?_)
  exact TX4_advance_l8 LF h37
def DX4_refuse (a1 : Int) (h : qH) : Option (Int × qH) := (if ¬ h.1 2 6 = (-1) then (qlt (qu h 2 1 a1) fun h1 => (qlt (qu h1 2 2 (h1.1 2 7)) fun h2 => some (0, h2))) else (qlt (qu h 2 1 1) fun h3 => (qlt (qu h3 2 2 (h3.1 2 7)) fun h4 => some (0, h4))))
set_option maxRecDepth 100000 in
theorem TX4_refuse {L : Nat} {xs : Nat → Int32} (a1 : Int) (h : qH) : qMet L xs yX4_refuse cX4_refuse 2 (some .boolean) 4 1 [qr 2, qi a1] h (DX4_refuse a1 h) := by
  refine qMet.of (by decide +kernel) (Or.inr (Or.inr (Or.inr (Or.inr (Or.inl ⟨rfl, rfl⟩))))) (Nat.le_of_ble_eq_true rfl) ?_
  show qS L xs cX4_refuse "BottlePost$Reader" 2 1 4 0 [(0, qr 2), (1, qi a1)] [] h (DX4_refuse a1 h)
  unfold DX4_refuse
  refine S_aload_n 0 dX4_refuse_0 rfl rfl rfl ?_
  refine S_aload_n 0 dX4_refuse_1 rfl rfl rfl ?_
  refine S_geti 6 qC_4 (by decide) (by decide) qk_2 tw_153 dX4_refuse_2 rfl ?_
  refine S_iconst (a := (-1)) dX4_refuse_5 rfl (by decide) ?_
  refine S_icmp_ne (tgt := 13) dX4_refuse_6 (by decide) rfl (fun _ => ?_) (fun _ => ?_)
  · refine S_iload_n 1 dX4_refuse_13 rfl rfl rfl ?_
    refine S_puti 1 qC_4 (by decide) (by decide) rfl rfl qk_2 (by decide) tw_146 dX4_refuse_14 rfl ?_
    refine S_lh (fun h1 => ?_)
    refine S_aload_n 0 dX4_refuse_17 rfl rfl rfl ?_
    refine S_aload_n 0 dX4_refuse_18 rfl rfl rfl ?_
    refine S_geti 7 qC_4 (by decide) (by decide) qk_2 tw_154 dX4_refuse_19 rfl ?_
    refine S_puti 2 qC_4 (by decide) (by decide) rfl rfl qk_2 (by decide) tw_148 dX4_refuse_22 rfl ?_
    refine S_lh (fun h2 => ?_)
    refine S_iconst (a := 0) dX4_refuse_25 rfl (by decide) ?_
    exact S_zretl (by decide) dX4_refuse_26
  · refine S_iconst (a := 1) dX4_refuse_9 rfl (by decide) ?_
    refine S_goto (pc' := 14) dX4_refuse_10 (by decide) ?_
    refine S_puti 1 qC_4 (by decide) (by decide) rfl rfl qk_2 (by decide) tw_146 dX4_refuse_14 rfl ?_
    refine S_lh (fun h3 => ?_)
    refine S_aload_n 0 dX4_refuse_17 rfl rfl rfl ?_
    refine S_aload_n 0 dX4_refuse_18 rfl rfl rfl ?_
    refine S_geti 7 qC_4 (by decide) (by decide) qk_2 tw_154 dX4_refuse_19 rfl ?_
    refine S_puti 2 qC_4 (by decide) (by decide) rfl rfl qk_2 (by decide) tw_148 dX4_refuse_22 rfl ?_
    refine S_lh (fun h4 => ?_)
    refine S_iconst (a := 0) dX4_refuse_25 rfl (by decide) ?_
    exact S_zretl (by decide) dX4_refuse_26
def DX4_takeSign (a1 : Int) (h : qH) : Option (Int × qH) := (if h.1 2 6 = a1 then (qbd (DX4_advance h) fun r1 h2 => some (1, h2)) else (qbd (DX4_refuse 2 h) fun r4 h5 => (if r4 = 0 ∨ r4 = 1 then some (r4, h5) else none)))
set_option maxRecDepth 100000 in
theorem TX4_takeSign {L : Nat} {xs : Nat → Int32} (a1 : Int) (h : qH) : qMet L xs yX4_takeSign cX4_takeSign 2 (some .boolean) 4 9 [qr 2, qi a1] h (DX4_takeSign a1 h) := by
  refine qMet.of (by decide +kernel) (Or.inr (Or.inr (Or.inr (Or.inr (Or.inl ⟨rfl, rfl⟩))))) (Nat.le_of_ble_eq_true rfl) ?_
  show qS L xs cX4_takeSign "BottlePost$Reader" 2 9 4 0 [(0, qr 2), (1, qi a1)] [] h (DX4_takeSign a1 h)
  unfold DX4_takeSign
  refine S_aload_n 0 dX4_takeSign_0 rfl rfl rfl ?_
  refine S_geti 6 qC_4 (by decide) (by decide) qk_2 tw_153 dX4_takeSign_1 rfl ?_
  refine S_iload_n 1 dX4_takeSign_4 rfl rfl rfl ?_
  refine S_icmp_eq (tgt := 14) dX4_takeSign_5 (by decide) rfl (fun _ => ?_) (fun _ => ?_)
  · refine S_aload_n 0 dX4_takeSign_14 rfl rfl rfl ?_
    refine S_callV_0 (as := []) (st := []) (fun _ => rfl) (TX4_advance h) yv_X4_advance tw_456 qC_4 qk_2 (by decide) rfl rfl (Nat.le_of_ble_eq_true rfl) dX4_takeSign_15 rfl (fun r1 h2 e3 => ?_)
    refine S_iconst (a := 1) dX4_takeSign_18 rfl (by decide) ?_
    exact S_zretl (by decide) dX4_takeSign_19
  · refine S_aload_n 0 dX4_takeSign_8 rfl rfl rfl ?_
    refine S_iconst (a := 2) dX4_takeSign_9 rfl (by decide) ?_
    refine S_callV_i (as := [qi 2]) (st := []) (fun _ => rfl) (TX4_refuse 2 h) yv_X4_refuse tw_579 qC_4 qk_2 (by decide) rfl rfl (Nat.le_of_ble_eq_true rfl) dX4_takeSign_10 rfl (fun r4 h5 e6 => ?_)
    exact S_zret dX4_takeSign_13
