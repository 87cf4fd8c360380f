def DX10_write (a1 : Int) (a2 : Int) (a3 : Int) (h : qH) : Option (Int × qH) := (qlt (qu h 212 0 0) fun h1 => (qbd (DX10_noTray a1 h1) fun r2 h3 => (if r2 = 0 then (if 0 ≤ a1 ∧ a1 < 4 then (qbd (DX10_within a2 0 (qw (h3.1 223 a1.toNat - 1)) h3) fun r7 h8 => (if ¬ r7 = 0 then (if 0 ≤ a1 ∧ a1 < 4 then (qbd (DX10_cut a3 (h8.1 222 a1.toNat) h8) fun r12 h13 => (if 0 ≤ qw (qw (40 * a1) + a2) ∧ qw (qw (40 * a1) + a2) < 160 then qlt (qu h13 224 (qw (qw (40 * a1) + a2)).toNat r12) fun h15 => (if 0 ≤ qw (qw (40 * a1) + a2) ∧ qw (qw (40 * a1) + a2) < 160 then some (h15.1 224 (qw (qw (40 * a1) + a2)).toNat, h15) else none) else none)) else none) else some ((-7), h8))) else none) else some (r2, h3))))
set_option maxRecDepth 100000 in
theorem TX10_write {L : Nat} {xs : Nat → Int32} (a1 : Int) (a2 : Int) (a3 : Int) (h : qH) : qMet L xs yX10_write cX10_write 6 (some .long) 2 3 [qr 212, qi a1, qi a2, ql a3] h (DX10_write a1 a2 a3 h) := by
  refine qMet.of (by decide +kernel) (Or.inr (Or.inr (Or.inl ⟨rfl, rfl⟩))) (Nat.le_of_ble_eq_true rfl) ?_
  show qS L xs cX10_write "BottlePostModel" 6 3 2 0 [(0, qr 212), (1, qi a1), (2, qi a2), (3, ql a3)] [] h (DX10_write a1 a2 a3 h)
  unfold DX10_write
  refine S_aload_n 0 dX10_write_0 rfl rfl rfl ?_
  refine S_iconst (a := 0) dX10_write_1 rfl (by decide) ?_
  refine S_puti 0 qC_10 (by decide) (by decide) rfl rfl qk_212 (by decide) tw_1226 dX10_write_2 rfl ?_
  refine S_lh (fun h1 => ?_)
  refine S_aload_n 0 dX10_write_5 rfl rfl rfl ?_
  refine S_iload_n 1 dX10_write_6 rfl rfl rfl ?_
  refine S_callV_i (as := [qi a1]) (st := []) (fun _ => rfl) (TX10_noTray a1 h1) yv_X10_noTray tw_1639 qC_10 qk_212 (by decide) rfl rfl (Nat.le_of_ble_eq_true rfl) dX10_write_7 rfl (fun r2 h3 e4 => ?_)
  refine S_istore (lv' := [(5, qi r2), (0, qr 212), (1, qi a1), (2, qi a2), (3, ql a3)]) dX10_write_10 (by decide) rfl rfl ?_
  refine S_iload 0 dX10_write_12 rfl rfl ?_
  refine S_if_eq (tgt := 21) dX10_write_14 (by decide) rfl (fun _ => ?_) (fun _ => ?_)
  · refine S_iload_n 3 dX10_write_21 rfl rfl rfl ?_
    refine S_i2l dX10_write_22 rfl ?_
    refine S_lconst (a := 0) dX10_write_23 rfl (by decide) (by decide) ?_
    refine S_aload_n 1 dX10_write_24 rfl rfl rfl ?_
    refine S_getr (j := 223) (o := 11) 37 qC_10 (by decide) (by decide) qk_212 rfl rfl (by decide) tw_1263 dX10_write_25 rfl ?_
    refine S_iload_n 2 dX10_write_28 rfl rfl rfl ?_
    refine S_iald (N := 4) qk_223 rfl dX10_write_29 rfl (fun g5 g6 => ?_)
    refine S_iconst (a := 1) dX10_write_30 rfl (by decide) ?_
    refine S_isub dX10_write_31 rfl ?_
    refine S_i2l dX10_write_32 rfl ?_
    refine S_callS_i (as := [ql a2, ql 0, ql (qw (h3.1 223 a1.toNat - 1))]) (st := []) (fun _ => rfl) (TX10_within a2 0 (qw (h3.1 223 a1.toNat - 1)) h3) yv_X10_within tw_1352 (by decide) rfl rfl (Nat.le_of_ble_eq_true rfl) dX10_write_33 rfl (fun r7 h8 e9 => ?_)
    refine S_if_ne (tgt := 43) dX10_write_36 (by decide) rfl (fun _ => ?_) (fun _ => ?_)
    · refine S_aload_n 1 dX10_write_43 rfl rfl rfl ?_
      refine S_getr (j := 224) (o := 12) 38 qC_10 (by decide) (by decide) qk_212 rfl rfl (by decide) tw_1264 dX10_write_44 rfl ?_
      refine S_bipush (a := 40) dX10_write_47 rfl (by decide) (by decide) ?_
      refine S_iload_n 2 dX10_write_49 rfl rfl rfl ?_
      refine S_imul dX10_write_50 rfl ?_
      refine S_iload_n 3 dX10_write_51 rfl rfl rfl ?_
      refine S_iadd dX10_write_52 rfl ?_
      refine S_lload_n 4 dX10_write_53 rfl rfl rfl ?_
      refine S_aload_n 1 dX10_write_54 rfl rfl rfl ?_
      refine S_getr (j := 222) (o := 10) 36 qC_10 (by decide) (by decide) qk_212 rfl rfl (by decide) tw_1262 dX10_write_55 rfl ?_
      refine S_iload_n 2 dX10_write_58 rfl rfl rfl ?_
      refine S_iald (N := 4) qk_222 rfl dX10_write_59 rfl (fun g10 g11 => ?_)
      refine S_callS_l (as := [ql a3, qi (h8.1 222 a1.toNat)]) (st := [qi (qw (qw (40 * a1) + a2)), qr 224]) (fun _ => rfl) (TX10_cut a3 (h8.1 222 a1.toNat) h8) yv_X10_cut tw_1829 (by decide) rfl rfl (Nat.le_of_ble_eq_true rfl) dX10_write_60 rfl (fun r12 h13 e14 => ?_)
      refine S_last (N := 160) qk_224 rfl dX10_write_63 rfl (fun _ _ => ?_)
      refine S_lh (fun h15 => ?_)
      refine S_aload_n 1 dX10_write_64 rfl rfl rfl ?_
      refine S_getr (j := 224) (o := 12) 38 qC_10 (by decide) (by decide) qk_212 rfl rfl (by decide) tw_1264 dX10_write_65 rfl ?_
      refine S_bipush (a := 40) dX10_write_68 rfl (by decide) (by decide) ?_
      refine S_iload_n 2 dX10_write_70 rfl rfl rfl ?_
      refine S_imul dX10_write_71 rfl ?_
      refine S_iload_n 3 dX10_write_72 rfl rfl rfl ?_
      refine S_iadd dX10_write_73 rfl ?_
      refine S_lald (N := 160) qk_224 rfl dX10_write_74 rfl (fun g16 g17 => ?_)
      exact S_lret dX10_write_75
    · refine S_ldc2 (a := (-7)) dX10_write_39 rfl (by rw [show Int64.ofInt (-7) = ((-7) : Int64) from by decide]; exact tw_1828) (by decide) ?_
      exact S_lret dX10_write_42
  · refine S_iload 0 dX10_write_17 rfl rfl ?_
    refine S_i2l dX10_write_19 rfl ?_
    exact S_lret dX10_write_20
