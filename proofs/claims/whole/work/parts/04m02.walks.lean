def DX7_has (i0 : Nat) (a1 : Int) (h : qH) : Option (Int × qH) := (if a1 < 0 then some (0, h) else (if h.1 i0 1 ≤ a1 then some (0, h) else (if 8 ≤ a1 then some (0, h) else some (1, h))))
set_option maxRecDepth 100000 in
theorem TX7_has {L : Nat} {xs : Nat → Int32} (i0 : Nat) (a1 : Int) (t0 : qK i0 = (7, 3)) (h : qH) : qMet L xs yX7_has cX7_has 2 (some .boolean) 4 1 [qr i0, qi a1] h (DX7_has i0 a1 h) := by
  refine qMet.of (by decide +kernel) (Or.inr (Or.inr (Or.inr (Or.inr (Or.inl ⟨rfl, rfl⟩))))) (Nat.le_of_ble_eq_true rfl) ?_
  show qS L xs cX7_has "BottlePost$Waters" 2 1 4 0 [(0, qr i0), (1, qi a1)] [] h (DX7_has i0 a1 h)
  unfold DX7_has
  refine S_iload_n 1 dX7_has_0 rfl rfl rfl ?_
  refine S_if_lt (tgt := 22) dX7_has_1 (by decide) rfl (fun _ => ?_) (fun _ => ?_)
  · refine S_iconst (a := 0) dX7_has_22 rfl (by decide) ?_
    exact S_zretl (by decide) dX7_has_23
  · refine S_iload_n 1 dX7_has_4 rfl rfl rfl ?_
    refine S_aload_n 0 dX7_has_5 rfl rfl rfl ?_
    refine S_geti 1 qC_7 (by decide) (by decide) t0 tw_273 dX7_has_6 rfl ?_
    refine S_icmp_ge (tgt := 22) dX7_has_9 (by decide) rfl (fun _ => ?_) (fun _ => ?_)
    · refine S_iconst (a := 0) dX7_has_22 rfl (by decide) ?_
      exact S_zretl (by decide) dX7_has_23
    · refine S_iload_n 1 dX7_has_12 rfl rfl rfl ?_
      refine S_bipush (a := 8) dX7_has_13 rfl (by decide) (by decide) ?_
      refine S_icmp_ge (tgt := 22) dX7_has_15 (by decide) rfl (fun _ => ?_) (fun _ => ?_)
      · refine S_iconst (a := 0) dX7_has_22 rfl (by decide) ?_
        exact S_zretl (by decide) dX7_has_23
      · refine S_iconst (a := 1) dX7_has_18 rfl (by decide) ?_
        refine S_goto (pc' := 23) dX7_has_19 (by decide) ?_
        exact S_zretl (by decide) dX7_has_23
def DX9_bottle (a1 : Int) (a2 : Int) (h : qH) : Option (Int × qH) := (qbd (DX7_has 24 a1 h) fun r1 h2 => (if ¬ r1 = 0 then (if 0 ≤ a1 ∧ a1 < 8 then (if a2 = 0 then some (h2.1 (26 + a1.toNat) 0, h2) else (if a2 = 1 then some (h2.1 (26 + a1.toNat) 1, h2) else (if a2 = 2 then some (h2.1 (26 + a1.toNat) 2, h2) else (if a2 = 3 then some (h2.1 (26 + a1.toNat) 3, h2) else (if a2 = 4 then (if h2.1 (26 + a1.toNat) 4 = 0 then some (0, h2) else some (1, h2)) else (if a2 = 5 then some (h2.1 (26 + a1.toNat) 5, h2) else (if a2 = 6 then some (h2.1 (26 + a1.toNat) 6, h2) else (if a2 = 7 then some (h2.1 (26 + a1.toNat) 7, h2) else some ((-8), h2))))))))) else none) else some ((-8), h2)))
set_option maxRecDepth 100000 in
theorem TX9_bottle {L : Nat} {xs : Nat → Int32} (a1 : Int) (a2 : Int) (h : qH) : qMet L xs yX9_bottle cX9_bottle 4 (some .int) 1 2 [qr 0, qi a1, qi a2] h (DX9_bottle a1 a2 h) := by
  refine qMet.of (by decide +kernel) (Or.inr (Or.inl ⟨rfl, rfl⟩)) (Nat.le_of_ble_eq_true rfl) ?_
  show qS L xs cX9_bottle "BottlePost" 4 2 1 0 [(0, qr 0), (1, qi a1), (2, qi a2)] [] h (DX9_bottle a1 a2 h)
  unfold DX9_bottle
  refine S_aload_n 0 dX9_bottle_0 rfl rfl rfl ?_
  refine S_getr (j := 24) (o := 24) 5 qC_9 (by decide) (by decide) qk_0 rfl rfl (by decide) tw_386 dX9_bottle_1 rfl ?_
  refine S_iload_n 1 dX9_bottle_4 rfl rfl rfl ?_
  refine S_callV_i (as := [qi a1]) (st := []) (fun _ => rfl) (TX7_has 24 a1 qk_24 h) yv_X7_has tw_822 qC_7 qk_24 (by decide) rfl rfl (Nat.le_of_ble_eq_true rfl) dX9_bottle_5 rfl (fun r1 h2 e3 => ?_)
  refine S_if_ne (tgt := 14) dX9_bottle_8 (by decide) rfl (fun _ => ?_) (fun _ => ?_)
  · refine S_aload_n 0 dX9_bottle_14 rfl rfl rfl ?_
    refine S_getr (j := 24) (o := 24) 5 qC_9 (by decide) (by decide) qk_0 rfl rfl (by decide) tw_386 dX9_bottle_15 rfl ?_
    refine S_getr (j := 25) (o := 1) 0 qC_7 (by decide) (by decide) qk_24 rfl rfl (by decide) tw_272 dX9_bottle_18 rfl ?_
    refine S_iload_n 1 dX9_bottle_21 rfl rfl rfl ?_
    refine S_aald (j := (26 + a1.toNat)) (C := "BottlePost$Bottle") (N := 8) qk_25 (by decide) (by decide) (fun _ => rfl) rfl dX9_bottle_22 rfl (fun g4 g5 => (qel_25 qk_25 g4 g5).2) (fun g4 g5 => ?_)
    refine S_astore_n (lv' := [(3, qr (26 + a1.toNat)), (0, qr 0), (1, qi a1), (2, qi a2)]) dX9_bottle_23 rfl (by decide) rfl rfl ?_
    refine S_iload_n 3 dX9_bottle_24 rfl rfl rfl ?_
    refine S_ite (fun g6 => ?_) (fun g6 => ?_)
    · refine S_tabIn (a0 := 0) (off := 47) (pc' := 72) dX9_bottle_25 g6 (by decide) (by decide) rfl (by decide) ?_
      refine S_aload_n 0 dX9_bottle_72 rfl rfl rfl ?_
      refine S_geti 0 qC_0 (by decide) (by decide) (qel_25 qk_25 g4 g5).1 tw_195 dX9_bottle_73 rfl ?_
      exact S_iret dX9_bottle_76
    · refine S_ite (fun g7 => ?_) (fun g7 => ?_)
      · refine S_tabIn (a0 := 1) (off := 52) (pc' := 77) dX9_bottle_25 g7 (by decide) (by decide) rfl (by decide) ?_
        refine S_aload_n 0 dX9_bottle_77 rfl rfl rfl ?_
        refine S_geti 1 qC_0 (by decide) (by decide) (qel_25 qk_25 g4 g5).1 tw_199 dX9_bottle_78 rfl ?_
        exact S_iret dX9_bottle_81
      · refine S_ite (fun g8 => ?_) (fun g8 => ?_)
        · refine S_tabIn (a0 := 2) (off := 57) (pc' := 82) dX9_bottle_25 g8 (by decide) (by decide) rfl (by decide) ?_
          refine S_aload_n 0 dX9_bottle_82 rfl rfl rfl ?_
          refine S_geti 2 qC_0 (by decide) (by decide) (qel_25 qk_25 g4 g5).1 tw_202 dX9_bottle_83 rfl ?_
          exact S_iret dX9_bottle_86
        · refine S_ite (fun g9 => ?_) (fun g9 => ?_)
          · refine S_tabIn (a0 := 3) (off := 62) (pc' := 87) dX9_bottle_25 g9 (by decide) (by decide) rfl (by decide) ?_
            refine S_aload_n 0 dX9_bottle_87 rfl rfl rfl ?_
            refine S_geti 3 qC_0 (by decide) (by decide) (qel_25 qk_25 g4 g5).1 tw_205 dX9_bottle_88 rfl ?_
            exact S_iret dX9_bottle_91
          · refine S_ite (fun g10 => ?_) (fun g10 => ?_)
            · refine S_tabIn (a0 := 4) (off := 67) (pc' := 92) dX9_bottle_25 g10 (by decide) (by decide) rfl (by decide) ?_
              refine S_aload_n 0 dX9_bottle_92 rfl rfl rfl ?_
              refine S_geti 4 qC_0 (by decide) (by decide) (qel_25 qk_25 g4 g5).1 tw_208 dX9_bottle_93 rfl ?_
              refine S_if_eq (tgt := 103) dX9_bottle_96 (by decide) rfl (fun _ => ?_) (fun _ => ?_)
              · refine S_iconst (a := 0) dX9_bottle_103 rfl (by decide) ?_
                exact S_iret dX9_bottle_104
              · refine S_iconst (a := 1) dX9_bottle_99 rfl (by decide) ?_
                refine S_goto (pc' := 104) dX9_bottle_100 (by decide) ?_
                exact S_iret dX9_bottle_104
            · refine S_ite (fun g11 => ?_) (fun g11 => ?_)
              · refine S_tabIn (a0 := 5) (off := 80) (pc' := 105) dX9_bottle_25 g11 (by decide) (by decide) rfl (by decide) ?_
                refine S_aload_n 0 dX9_bottle_105 rfl rfl rfl ?_
                refine S_geti 5 qC_0 (by decide) (by decide) (qel_25 qk_25 g4 g5).1 tw_211 dX9_bottle_106 rfl ?_
                exact S_iret dX9_bottle_109
              · refine S_ite (fun g12 => ?_) (fun g12 => ?_)
                · refine S_tabIn (a0 := 6) (off := 85) (pc' := 110) dX9_bottle_25 g12 (by decide) (by decide) rfl (by decide) ?_
                  refine S_aload_n 0 dX9_bottle_110 rfl rfl rfl ?_
                  refine S_geti 6 qC_0 (by decide) (by decide) (qel_25 qk_25 g4 g5).1 tw_214 dX9_bottle_111 rfl ?_
                  exact S_iret dX9_bottle_114
                · refine S_ite (fun g13 => ?_) (fun g13 => ?_)
                  · refine S_tabIn (a0 := 7) (off := 90) (pc' := 115) dX9_bottle_25 g13 (by decide) (by decide) rfl (by decide) ?_
                    refine S_aload_n 0 dX9_bottle_115 rfl rfl rfl ?_
                    refine S_geti 7 qC_0 (by decide) (by decide) (qel_25 qk_25 g4 g5).1 tw_218 dX9_bottle_116 rfl ?_
                    exact S_iret dX9_bottle_119
                  · refine S_tabOut (pc' := 120) dX9_bottle_25 (by omega) (by decide) ?_
                    refine S_bipush (a := (-8)) dX9_bottle_120 rfl (by decide) (by decide) ?_
                    exact S_iret dX9_bottle_122
  · refine S_bipush (a := (-8)) dX9_bottle_11 rfl (by decide) (by decide) ?_
    exact S_iret dX9_bottle_13
def DX0_takeFrom (i0 : Nat) (i1 : Nat) (h : qH) : Option (Int × qH) := (qlt (qu h i0 0 (h.1 i1 0)) fun h1 => (qlt (qu h1 i0 1 (h1.1 i1 1)) fun h2 => (qlt (qu h2 i0 2 (h2.1 i1 2)) fun h3 => (qlt (qu h3 i0 3 (h3.1 i1 3)) fun h4 => (if h4.1 i1 4 = 0 ∨ h4.1 i1 4 = 1 then qlt (qu h4 i0 4 (h4.1 i1 4)) fun h5 => (qlt (qu h5 i0 5 (h5.1 i1 5)) fun h6 => (qlt (qu h6 i0 6 (h6.1 i1 6)) fun h7 => (qlt (qu h7 i0 7 (h7.1 i1 7)) fun h8 => some (0, h8)))) else none)))))
set_option maxRecDepth 100000 in
theorem TX0_takeFrom {L : Nat} {xs : Nat → Int32} (i0 : Nat) (i1 : Nat) (t0 : qK i0 = (0, 8)) (t1 : qK i1 = (0, 8)) (h : qH) : qMet L xs yX0_takeFrom cX0_takeFrom 2 (none) 0 1 [qr i0, qr i1] h (DX0_takeFrom i0 i1 h) := by
  refine qMet.of (by decide +kernel) (Or.inl ⟨rfl, rfl⟩) (Nat.le_of_ble_eq_true rfl) ?_
  show qS L xs cX0_takeFrom "BottlePost$Bottle" 2 1 0 0 [(0, qr i0), (1, qr i1)] [] h (DX0_takeFrom i0 i1 h)
  unfold DX0_takeFrom
  refine S_aload_n 0 dX0_takeFrom_0 rfl rfl rfl ?_
  refine S_aload_n 1 dX0_takeFrom_1 rfl rfl rfl ?_
  refine S_geti 0 qC_0 (by decide) (by decide) t1 tw_192 dX0_takeFrom_2 rfl ?_
  refine S_puti 0 qC_0 (by decide) (by decide) rfl rfl t0 (by decide) tw_192 dX0_takeFrom_5 rfl ?_
  refine S_lh (fun h1 => ?_)
  refine S_aload_n 0 dX0_takeFrom_8 rfl rfl rfl ?_
  refine S_aload_n 1 dX0_takeFrom_9 rfl rfl rfl ?_
  refine S_geti 1 qC_0 (by decide) (by decide) t1 tw_196 dX0_takeFrom_10 rfl ?_
  refine S_puti 1 qC_0 (by decide) (by decide) rfl rfl t0 (by decide) tw_196 dX0_takeFrom_13 rfl ?_
  refine S_lh (fun h2 => ?_)
  refine S_aload_n 0 dX0_takeFrom_16 rfl rfl rfl ?_
  refine S_aload_n 1 dX0_takeFrom_17 rfl rfl rfl ?_
  refine S_geti 2 qC_0 (by decide) (by decide) t1 tw_200 dX0_takeFrom_18 rfl ?_
  refine S_puti 2 qC_0 (by decide) (by decide) rfl rfl t0 (by decide) tw_200 dX0_takeFrom_21 rfl ?_
  refine S_lh (fun h3 => ?_)
  refine S_aload_n 0 dX0_takeFrom_24 rfl rfl rfl ?_
  refine S_aload_n 1 dX0_takeFrom_25 rfl rfl rfl ?_
  refine S_geti 3 qC_0 (by decide) (by decide) t1 tw_203 dX0_takeFrom_26 rfl ?_
  refine S_puti 3 qC_0 (by decide) (by decide) rfl rfl t0 (by decide) tw_203 dX0_takeFrom_29 rfl ?_
  refine S_lh (fun h4 => ?_)
  refine S_aload_n 0 dX0_takeFrom_32 rfl rfl rfl ?_
  refine S_aload_n 1 dX0_takeFrom_33 rfl rfl rfl ?_
  refine S_geti 4 qC_0 (by decide) (by decide) t1 tw_206 dX0_takeFrom_34 rfl ?_
  refine S_ite (fun gz => ?_) (fun _ => S_none)
  refine S_putz qC_0 t0 gz tw_206 dX0_takeFrom_37 rfl ?_
  refine S_lh (fun h5 => ?_)
  refine S_aload_n 0 dX0_takeFrom_40 rfl rfl rfl ?_
  refine S_aload_n 1 dX0_takeFrom_41 rfl rfl rfl ?_
  refine S_geti 5 qC_0 (by decide) (by decide) t1 tw_209 dX0_takeFrom_42 rfl ?_
  refine S_puti 5 qC_0 (by decide) (by decide) rfl rfl t0 (by decide) tw_209 dX0_takeFrom_45 rfl ?_
  refine S_lh (fun h6 => ?_)
  refine S_aload_n 0 dX0_takeFrom_48 rfl rfl rfl ?_
  refine S_aload_n 1 dX0_takeFrom_49 rfl rfl rfl ?_
  refine S_geti 6 qC_0 (by decide) (by decide) t1 tw_212 dX0_takeFrom_50 rfl ?_
  refine S_puti 6 qC_0 (by decide) (by decide) rfl rfl t0 (by decide) tw_212 dX0_takeFrom_53 rfl ?_
  refine S_lh (fun h7 => ?_)
  refine S_aload_n 0 dX0_takeFrom_56 rfl rfl rfl ?_
  refine S_aload_n 1 dX0_takeFrom_57 rfl rfl rfl ?_
  refine S_geti 7 qC_0 (by decide) (by decide) t1 tw_215 dX0_takeFrom_58 rfl ?_
  refine S_puti 7 qC_0 (by decide) (by decide) rfl rfl t0 (by decide) tw_215 dX0_takeFrom_61 rfl ?_
  refine S_lh (fun h8 => ?_)
  exact S_vret dX0_takeFrom_64
def DX2_trail_b28 (k6 : Nat → Int → Int → Int → Int → qH → Option (Int × qH)) (i1 : Nat) (a2 : Int) (a3 : Int) (a4 : Int) (a6 : Int) (h : qH) : Option (Int × qH) := (if ¬ h.1 i1 0 = 0 then (k6 i1 a2 a3 a4 (qw (a6 + 1)) h) else (qlt (qorl a4 (qshll 1 (h.1 i1 1))) fun v1 => (k6 i1 a2 a3 v1 (qw (a6 + 1)) h)))
set_option maxRecDepth 100000 in
theorem TX2_trail_b28 {L : Nat} {xs : Nat → Int32} (k6 : Nat → Int → Int → Int → Int → qH → Option (Int × qH)) (hk6 : ∀ (i1 : Nat) (a2 : Int) (a3 : Int) (a4 : Int) (a6 : Int) (t1 : qK i1 = (0, 8)) (h : qH), qS L xs cX2_trail "BottlePost$Drift" 7 6 2 6 [(0, qr 4), (1, qr i1), (2, qi a2), (3, qi a3), (4, ql a4), (6, qi a6)] [] h (k6 i1 a2 a3 a4 a6 h)) (i1 : Nat) (a2 : Int) (a3 : Int) (a4 : Int) (a6 : Int) (t1 : qK i1 = (0, 8)) (h : qH) : qS L xs cX2_trail "BottlePost$Drift" 7 6 2 28 [(0, qr 4), (1, qr i1), (2, qi a2), (3, qi a3), (4, ql a4), (6, qi a6)] [] h (DX2_trail_b28 k6 i1 a2 a3 a4 a6 h) := by
  unfold DX2_trail_b28
  refine S_aload_n 1 dX2_trail_28 rfl rfl rfl ?_
  refine S_geti 0 qC_0 (by decide) (by decide) t1 tw_193 dX2_trail_29 rfl ?_
  refine S_if_ne (tgt := 46) dX2_trail_32 (by decide) rfl (fun _ => ?_) (fun _ => ?_)
  · refine S_iinc (lv' := [(6, qi (qw (a6 + 1))), (0, qr 4), (1, qr i1), (2, qi a2), (3, qi a3), (4, ql a4)]) 5 dX2_trail_46 rfl (by decide) rfl rfl ?_
    refine S_goto (pc' := 6) dX2_trail_49 (by decide) ?_
    refine S_sub [1, 2, 3, 4, 5, 0] rfl ?_
    exact hk6 i1 a2 a3 a4 (qw (a6 + 1)) t1 h
  · refine S_lload 4 dX2_trail_35 rfl rfl ?_
    refine S_lconst (a := 1) dX2_trail_37 rfl (by decide) (by decide) ?_
    refine S_aload_n 1 dX2_trail_38 rfl rfl rfl ?_
    refine S_geti 1 qC_0 (by decide) (by decide) t1 tw_197 dX2_trail_39 rfl ?_
    refine S_lshl dX2_trail_42 rfl ?_
    refine S_lor dX2_trail_43 rfl ?_
    refine S_lstore (lv' := [(4, ql (qorl a4 (qshll 1 (h.1 i1 1)))), (0, qr 4), (1, qr i1), (2, qi a2), (3, qi a3), (6, qi a6)]) dX2_trail_44 (by decide) rfl rfl ?_
    refine S_lj (fun v1 => ?_)
    refine S_iinc (lv' := [(6, qi (qw (a6 + 1))), (4, ql v1), (0, qr 4), (1, qr i1), (2, qi a2), (3, qi a3)]) 5 dX2_trail_46 rfl (by decide) rfl rfl ?_
    refine S_goto (pc' := 6) dX2_trail_49 (by decide) ?_
    refine S_sub [2, 3, 4, 5, 1, 0] rfl ?_
    exact hk6 i1 a2 a3 v1 (qw (a6 + 1)) t1 h
def DX2_trail_l6 : Nat → Nat → Int → Int → Int → Int → qH → Option (Int × qH)
  | 0, _, _, _, _, _, _ => none
  | n + 1, i1, a2, a3, a4, a6, h => (if a3 < a6 then some (a4, h) else (if a6 ≤ 0 then (DX2_trail_b28 (DX2_trail_l6 n) i1 a2 a3 a4 a6 h) else (qbd (DX2_carry i1 (qw (qw (a2 + a6) - 1)) h) fun r2 h3 => (DX2_trail_b28 (DX2_trail_l6 n) i1 a2 a3 a4 a6 h3))))
set_option maxRecDepth 100000 in
theorem TX2_trail_l6 {L : Nat} {xs : Nat → Int32} : ∀ (n : Nat) (i1 : Nat) (a2 : Int) (a3 : Int) (a4 : Int) (a6 : Int) (t1 : qK i1 = (0, 8)) (h : qH), qS L xs cX2_trail "BottlePost$Drift" 7 6 2 6 [(0, qr 4), (1, qr i1), (2, qi a2), (3, qi a3), (4, ql a4), (6, qi a6)] [] h (DX2_trail_l6 n i1 a2 a3 a4 a6 h) := by
  intro n
  induction n with
  | zero =>
    intro i1 a2 a3 a4 a6 t1 h
    exact S_none
  | succ n ih =>
    intro i1 a2 a3 a4 a6 t1 h
    rw [DX2_trail_l6.eq_2]
    refine S_iload 5 dX2_trail_6 rfl rfl ?_
    refine S_iload_n 3 dX2_trail_8 rfl rfl rfl ?_
    refine S_icmp_gt (tgt := 52) dX2_trail_9 (by decide) rfl (fun _ => ?_) (fun _ => ?_)
    · refine S_lload 4 dX2_trail_52 rfl rfl ?_
      exact S_lret dX2_trail_54
    · refine S_iload 5 dX2_trail_12 rfl rfl ?_
      refine S_if_le (tgt := 28) dX2_trail_14 (by decide) rfl (fun _ => ?_) (fun _ => ?_)
      · exact TX2_trail_b28 (DX2_trail_l6 n) ih i1 a2 a3 a4 a6 t1 h
      · refine S_aload_n 0 dX2_trail_17 rfl rfl rfl ?_
        refine S_aload_n 1 dX2_trail_18 rfl rfl rfl ?_
        refine S_iload_n 2 dX2_trail_19 rfl rfl rfl ?_
        refine S_iload 5 dX2_trail_20 rfl rfl ?_
        refine S_iadd dX2_trail_22 rfl ?_
        refine S_iconst (a := 1) dX2_trail_23 rfl (by decide) ?_
        refine S_isub dX2_trail_24 rfl ?_
        refine S_callV_0 (as := [qr i1, qi (qw (qw (a2 + a6) - 1))]) (st := []) (fun _ => rfl) (TX2_carry i1 (qw (qw (a2 + a6) - 1)) t1 h) yv_X2_carry tw_996 qC_2 qk_4 (by decide) rfl rfl (Nat.le_of_ble_eq_true rfl) dX2_trail_25 rfl (fun r2 h3 e4 => ?_)
        exact TX2_trail_b28 (DX2_trail_l6 n) ih i1 a2 a3 a4 a6 t1 h3
def DX2_trail (i1 : Nat) (a2 : Int) (a3 : Int) (h : qH) : Option (Int × qH) := (DX2_trail_l6 LF i1 a2 a3 0 0 h)
set_option maxRecDepth 100000 in
theorem TX2_trail {L : Nat} {xs : Nat → Int32} (i1 : Nat) (a2 : Int) (a3 : Int) (t1 : qK i1 = (0, 8)) (h : qH) : qMet L xs yX2_trail cX2_trail 7 (some .long) 2 6 [qr 4, qr i1, qi a2, qi a3] h (DX2_trail i1 a2 a3 h) := by
  refine qMet.of (by decide +kernel) (Or.inr (Or.inr (Or.inl ⟨rfl, rfl⟩))) (Nat.le_of_ble_eq_true rfl) ?_
  show qS L xs cX2_trail "BottlePost$Drift" 7 6 2 0 [(0, qr 4), (1, qr i1), (2, qi a2), (3, qi a3)] [] h (DX2_trail i1 a2 a3 h)
  unfold DX2_trail
  refine S_lconst (a := 0) dX2_trail_0 rfl (by decide) (by decide) ?_
  refine S_lstore (lv' := [(4, ql 0), (0, qr 4), (1, qr i1), (2, qi a2), (3, qi a3)]) dX2_trail_1 (by decide) rfl rfl ?_
  refine S_iconst (a := 0) dX2_trail_3 rfl (by decide) ?_
  refine S_istore (lv' := [(6, qi 0), (4, ql 0), (0, qr 4), (1, qr i1), (2, qi a2), (3, qi a3)]) dX2_trail_4 (by decide) rfl rfl ?_
  refine S_sub [2, 3, 4, 5, 1, 0] rfl ?_
  exact TX2_trail_l6 LF i1 a2 a3 0 0 t1 h
def DX9_followAll_l2 : Nat → Int → Int → qH → Option (Int × qH)
  | 0, _, _, _ => none
  | n + 1, a1, a2, h => (if 8 ≤ a2 then some (0, h) else (if 0 ≤ a2 ∧ a2 < 8 then qlt (qu h 163 a2.toNat 0) fun h1 => (qbd (DX7_has 24 a2 h1) fun r2 h3 => (if r2 = 0 then ((DX9_followAll_l2 n) a1 (qw (a2 + 1)) h3) else (if 0 ≤ a2 ∧ a2 < 8 then (qbd (DX0_takeFrom 156 (26 + a2.toNat) h3) fun r7 h8 => (qbd (DX2_trail 156 (h8.1 24 2) a1 h8) fun r10 h11 => (if 0 ≤ a2 ∧ a2 < 8 then qlt (qu h11 163 a2.toNat r10) fun h13 => ((DX9_followAll_l2 n) a1 (qw (a2 + 1)) h13) else none))) else none))) else none))
set_option maxRecDepth 100000 in
theorem TX9_followAll_l2 {L : Nat} {xs : Nat → Int32} : ∀ (n : Nat) (a1 : Int) (a2 : Int) (h : qH), qS L xs cX9_followAll "BottlePost" 3 7 0 2 [(0, qr 0), (1, qi a1), (2, qi a2)] [] h (DX9_followAll_l2 n a1 a2 h) := by
  intro n
  induction n with
  | zero =>
    intro a1 a2 h
    exact S_none
  | succ n ih =>
    intro a1 a2 h
    rw [DX9_followAll_l2.eq_2]
    refine S_iload_n 2 dX9_followAll_2 rfl rfl rfl ?_
    refine S_aload_n 0 dX9_followAll_3 rfl rfl rfl ?_
    refine S_getr (j := 163) (o := 163) 11 qC_9 (by decide) (by decide) qk_0 rfl rfl (by decide) tw_392 dX9_followAll_4 rfl ?_
    refine S_alen (N := 8) qk_163 (by decide) (by decide) rfl (by decide) dX9_followAll_7 rfl ?_
    refine S_icmp_ge (tgt := 76) dX9_followAll_8 (by decide) rfl (fun _ => ?_) (fun _ => ?_)
    · exact S_vret dX9_followAll_76
    · refine S_aload_n 0 dX9_followAll_11 rfl rfl rfl ?_
      refine S_getr (j := 163) (o := 163) 11 qC_9 (by decide) (by decide) qk_0 rfl rfl (by decide) tw_392 dX9_followAll_12 rfl ?_
      refine S_iload_n 2 dX9_followAll_15 rfl rfl rfl ?_
      refine S_lconst (a := 0) dX9_followAll_16 rfl (by decide) (by decide) ?_
      refine S_last (N := 8) qk_163 rfl dX9_followAll_17 rfl (fun _ _ => ?_)
      refine S_lh (fun h1 => ?_)
      refine S_aload_n 0 dX9_followAll_18 rfl rfl rfl ?_
      refine S_getr (j := 24) (o := 24) 5 qC_9 (by decide) (by decide) qk_0 rfl rfl (by decide) tw_386 dX9_followAll_19 rfl ?_
      refine S_iload_n 2 dX9_followAll_22 rfl rfl rfl ?_
      refine S_callV_i (as := [qi a2]) (st := []) (fun _ => rfl) (TX7_has 24 a2 qk_24 h1) yv_X7_has tw_822 qC_7 qk_24 (by decide) rfl rfl (Nat.le_of_ble_eq_true rfl) dX9_followAll_23 rfl (fun r2 h3 e4 => ?_)
      refine S_if_eq (tgt := 70) dX9_followAll_26 (by decide) rfl (fun _ => ?_) (fun _ => ?_)
      · refine S_iinc (lv' := [(2, qi (qw (a2 + 1))), (0, qr 0), (1, qi a1)]) 2 dX9_followAll_70 rfl (by decide) rfl rfl ?_
        refine S_goto (pc' := 2) dX9_followAll_73 (by decide) ?_
        refine S_sub [1, 2, 0] rfl ?_
        exact ih a1 (qw (a2 + 1)) h3
      · refine S_aload_n 0 dX9_followAll_29 rfl rfl rfl ?_
        refine S_getr (j := 156) (o := 156) 8 qC_9 (by decide) (by decide) qk_0 rfl rfl (by decide) tw_389 dX9_followAll_30 rfl ?_
        refine S_aload_n 0 dX9_followAll_33 rfl rfl rfl ?_
        refine S_getr (j := 24) (o := 24) 5 qC_9 (by decide) (by decide) qk_0 rfl rfl (by decide) tw_386 dX9_followAll_34 rfl ?_
        refine S_getr (j := 25) (o := 1) 0 qC_7 (by decide) (by decide) qk_24 rfl rfl (by decide) tw_272 dX9_followAll_37 rfl ?_
        refine S_iload_n 2 dX9_followAll_40 rfl rfl rfl ?_
        refine S_aald (j := (26 + a2.toNat)) (C := "BottlePost$Bottle") (N := 8) qk_25 (by decide) (by decide) (fun _ => rfl) rfl dX9_followAll_41 rfl (fun g5 g6 => (qel_25 qk_25 g5 g6).2) (fun g5 g6 => ?_)
        refine S_callV_0 (as := [qr (26 + a2.toNat)]) (st := []) (fun _ => rfl) (TX0_takeFrom 156 (26 + a2.toNat) qk_156 (qel_25 qk_25 g5 g6).1 h3) yv_X0_takeFrom tw_991 qC_0 qk_156 (by decide) rfl rfl (Nat.le_of_ble_eq_true rfl) dX9_followAll_42 rfl (fun r7 h8 e9 => ?_)
        refine S_aload_n 0 dX9_followAll_45 rfl rfl rfl ?_
        refine S_getr (j := 163) (o := 163) 11 qC_9 (by decide) (by decide) qk_0 rfl rfl (by decide) tw_392 dX9_followAll_46 rfl ?_
        refine S_iload_n 2 dX9_followAll_49 rfl rfl rfl ?_
        refine S_aload_n 0 dX9_followAll_50 rfl rfl rfl ?_
        refine S_getr (j := 4) (o := 4) 3 qC_9 (by decide) (by decide) qk_0 rfl rfl (by decide) tw_384 dX9_followAll_51 rfl ?_
        refine S_aload_n 0 dX9_followAll_54 rfl rfl rfl ?_
        refine S_getr (j := 156) (o := 156) 8 qC_9 (by decide) (by decide) qk_0 rfl rfl (by decide) tw_389 dX9_followAll_55 rfl ?_
        refine S_aload_n 0 dX9_followAll_58 rfl rfl rfl ?_
        refine S_getr (j := 24) (o := 24) 5 qC_9 (by decide) (by decide) qk_0 rfl rfl (by decide) tw_386 dX9_followAll_59 rfl ?_
        refine S_geti 2 qC_7 (by decide) (by decide) qk_24 tw_276 dX9_followAll_62 rfl ?_
        refine S_iload_n 1 dX9_followAll_65 rfl rfl rfl ?_
        refine S_callV_l (as := [qr 156, qi (h8.1 24 2), qi a1]) (st := [qi a2, qr 163]) (fun _ => rfl) (TX2_trail 156 (h8.1 24 2) a1 qk_156 h8) yv_X2_trail tw_1102 qC_2 qk_4 (by decide) rfl rfl (Nat.le_of_ble_eq_true rfl) dX9_followAll_66 rfl (fun r10 h11 e12 => ?_)
        refine S_last (N := 8) qk_163 rfl dX9_followAll_69 rfl (fun _ _ => ?_)
        refine S_lh (fun h13 => ?_)
        refine S_iinc (lv' := [(2, qi (qw (a2 + 1))), (0, qr 0), (1, qi a1)]) 2 dX9_followAll_70 rfl (by decide) rfl rfl ?_
        refine S_goto (pc' := 2) dX9_followAll_73 (by decide) ?_
        refine S_sub [1, 2, 0] rfl ?_
        exact ih a1 (qw (a2 + 1)) h13
def DX9_followAll (a1 : Int) (h : qH) : Option (Int × qH) := (DX9_followAll_l2 LF a1 0 h)
set_option maxRecDepth 100000 in
theorem TX9_followAll {L : Nat} {xs : Nat → Int32} (a1 : Int) (h : qH) : qMet L xs yX9_followAll cX9_followAll 3 (none) 0 7 [qr 0, qi a1] h (DX9_followAll a1 h) := by
  refine qMet.of (by decide +kernel) (Or.inl ⟨rfl, rfl⟩) (Nat.le_of_ble_eq_true rfl) ?_
  show qS L xs cX9_followAll "BottlePost" 3 7 0 0 [(0, qr 0), (1, qi a1)] [] h (DX9_followAll a1 h)
  unfold DX9_followAll
  refine S_iconst (a := 0) dX9_followAll_0 rfl (by decide) ?_
  refine S_istore_n (lv' := [(2, qi 0), (0, qr 0), (1, qi a1)]) dX9_followAll_1 rfl (by decide) rfl rfl ?_
  refine S_sub [1, 2, 0] rfl ?_
  exact TX9_followAll_l2 LF a1 0 h
def DX1_cells (i0 : Nat) (h : qH) : Option (Int × qH) := some (qw (h.1 i0 11 * h.1 i0 12), h)
set_option maxRecDepth 100000 in
theorem TX1_cells {L : Nat} {xs : Nat → Int32} (i0 : Nat) (t0 : qK i0 = (1, 20)) (h : qH) : qMet L xs yX1_cells cX1_cells 1 (some .int) 1 1 [qr i0] h (DX1_cells i0 h) := by
  refine qMet.of (by decide +kernel) (Or.inr (Or.inl ⟨rfl, rfl⟩)) (Nat.le_of_ble_eq_true rfl) ?_
  show qS L xs cX1_cells "BottlePost$Chart" 1 1 1 0 [(0, qr i0)] [] h (DX1_cells i0 h)
  unfold DX1_cells
  refine S_aload_n 0 dX1_cells_0 rfl rfl rfl ?_
  refine S_geti 11 qC_1 (by decide) (by decide) t0 tw_73 dX1_cells_1 rfl ?_
  refine S_aload_n 0 dX1_cells_4 rfl rfl rfl ?_
  refine S_geti 12 qC_1 (by decide) (by decide) t0 tw_77 dX1_cells_5 rfl ?_
  refine S_imul dX1_cells_8 rfl ?_
  exact S_iret dX1_cells_9
def DX1_isOpen (i0 : Nat) (a1 : Int) (h : qH) : Option (Int × qH) := (if a1 < 0 then some (0, h) else (if qw (h.1 i0 11 * h.1 i0 12) ≤ a1 then some (0, h) else (if 36 ≤ a1 then some (0, h) else (if 0 ≤ a1 ∧ a1 < 36 then (if ¬ h.1 (i0 + 1) a1.toNat = 0 then some (0, h) else some (1, h)) else none))))
set_option maxRecDepth 100000 in
theorem TX1_isOpen {L : Nat} {xs : Nat → Int32} (i0 : Nat) (a1 : Int) (t0 : qK i0 = (1, 20)) (h : qH) : qMet L xs yX1_isOpen cX1_isOpen 2 (some .boolean) 4 1 [qr i0, qi a1] h (DX1_isOpen i0 a1 h) := by
  refine qMet.of (by decide +kernel) (Or.inr (Or.inr (Or.inr (Or.inr (Or.inl ⟨rfl, rfl⟩))))) (Nat.le_of_ble_eq_true rfl) ?_
  show qS L xs cX1_isOpen "BottlePost$Chart" 2 1 4 0 [(0, qr i0), (1, qi a1)] [] h (DX1_isOpen i0 a1 h)
  unfold DX1_isOpen
  refine S_iload_n 1 dX1_isOpen_0 rfl rfl rfl ?_
  refine S_if_lt (tgt := 36) dX1_isOpen_1 (by decide) rfl (fun _ => ?_) (fun _ => ?_)
  · refine S_iconst (a := 0) dX1_isOpen_36 rfl (by decide) ?_
    exact S_zretl (by decide) dX1_isOpen_37
  · refine S_iload_n 1 dX1_isOpen_4 rfl rfl rfl ?_
    refine S_aload_n 0 dX1_isOpen_5 rfl rfl rfl ?_
    refine S_geti 11 qC_1 (by decide) (by decide) t0 tw_73 dX1_isOpen_6 rfl ?_
    refine S_aload_n 0 dX1_isOpen_9 rfl rfl rfl ?_
    refine S_geti 12 qC_1 (by decide) (by decide) t0 tw_77 dX1_isOpen_10 rfl ?_
    refine S_imul dX1_isOpen_13 rfl ?_
    refine S_icmp_ge (tgt := 36) dX1_isOpen_14 (by decide) rfl (fun _ => ?_) (fun _ => ?_)
    · refine S_iconst (a := 0) dX1_isOpen_36 rfl (by decide) ?_
      exact S_zretl (by decide) dX1_isOpen_37
    · refine S_iload_n 1 dX1_isOpen_17 rfl rfl rfl ?_
      refine S_bipush (a := 36) dX1_isOpen_18 rfl (by decide) (by decide) ?_
      refine S_icmp_ge (tgt := 36) dX1_isOpen_20 (by decide) rfl (fun _ => ?_) (fun _ => ?_)
      · refine S_iconst (a := 0) dX1_isOpen_36 rfl (by decide) ?_
        exact S_zretl (by decide) dX1_isOpen_37
      · refine S_aload_n 0 dX1_isOpen_23 rfl rfl rfl ?_
        refine S_getr (j := (i0 + 1)) (o := 1) 0 qC_1 (by decide) (by decide) t0 rfl rfl (qf_1_0 t0).2 tw_41 dX1_isOpen_24 rfl ?_
        refine S_iload_n 1 dX1_isOpen_27 rfl rfl rfl ?_
        refine S_iald (N := 36) (qf_1_0 t0).1 rfl dX1_isOpen_28 rfl (fun g1 g2 => ?_)
        refine S_if_ne (tgt := 36) dX1_isOpen_29 (by decide) rfl (fun _ => ?_) (fun _ => ?_)
        · refine S_iconst (a := 0) dX1_isOpen_36 rfl (by decide) ?_
          exact S_zretl (by decide) dX1_isOpen_37
        · refine S_iconst (a := 1) dX1_isOpen_32 rfl (by decide) ?_
          refine S_goto (pc' := 37) dX1_isOpen_33 (by decide) ?_
          exact S_zretl (by decide) dX1_isOpen_37
def DX9_calm_l65 : Nat → Int → Int → qH → Option (Int × qH)
  | 0, _, _, _ => none
  | n + 1, a2, a4, h => (if 8 ≤ a4 then some (a2, h) else (qbd (DX7_has 24 a4 h) fun r1 h2 => (if r1 = 0 then ((DX9_calm_l65 n) a2 (qw (a4 + 1)) h2) else (if 0 ≤ a4 ∧ a4 < 8 then (if ¬ h2.1 (26 + a4.toNat) 0 = 0 then ((DX9_calm_l65 n) a2 (qw (a4 + 1)) h2) else (if 0 ≤ a4 ∧ a4 < 8 then (qlt (qandl a2 (qxorl (h2.1 163 a4.toNat) (-1))) fun v8 => ((DX9_calm_l65 n) v8 (qw (a4 + 1)) h2)) else none)) else none))))
set_option maxRecDepth 100000 in
theorem TX9_calm_l65 {L : Nat} {xs : Nat → Int32} : ∀ (n : Nat) (a2 : Int) (a4 : Int) (h : qH), qS L xs cX9_calm "BottlePost" 5 8 2 65 [(0, qr 0), (2, ql a2), (4, qi a4)] [] h (DX9_calm_l65 n a2 a4 h) := by
  intro n
  induction n with
  | zero =>
    intro a2 a4 h
    exact S_none
  | succ n ih =>
    intro a2 a4 h
    rw [DX9_calm_l65.eq_2]
    refine S_iload 2 dX9_calm_65 rfl rfl ?_
    refine S_aload_n 0 dX9_calm_67 rfl rfl rfl ?_
    refine S_getr (j := 163) (o := 163) 11 qC_9 (by decide) (by decide) qk_0 rfl rfl (by decide) tw_392 dX9_calm_68 rfl ?_
    refine S_alen (N := 8) qk_163 (by decide) (by decide) rfl (by decide) dX9_calm_71 rfl ?_
    refine S_icmp_ge (tgt := 123) dX9_calm_72 (by decide) rfl (fun _ => ?_) (fun _ => ?_)
    · refine S_lload_n 1 dX9_calm_123 rfl rfl rfl ?_
      exact S_lret dX9_calm_124
    · refine S_aload_n 0 dX9_calm_75 rfl rfl rfl ?_
      refine S_getr (j := 24) (o := 24) 5 qC_9 (by decide) (by decide) qk_0 rfl rfl (by decide) tw_386 dX9_calm_76 rfl ?_
      refine S_iload 2 dX9_calm_79 rfl rfl ?_
      refine S_callV_i (as := [qi a4]) (st := []) (fun _ => rfl) (TX7_has 24 a4 qk_24 h) yv_X7_has tw_822 qC_7 qk_24 (by decide) rfl rfl (Nat.le_of_ble_eq_true rfl) dX9_calm_81 rfl (fun r1 h2 e3 => ?_)
      refine S_if_eq (tgt := 117) dX9_calm_84 (by decide) rfl (fun _ => ?_) (fun _ => ?_)
      · refine S_iinc (lv' := [(4, qi (qw (a4 + 1))), (0, qr 0), (2, ql a2)]) 2 dX9_calm_117 rfl (by decide) rfl rfl ?_
        refine S_goto (pc' := 65) dX9_calm_120 (by decide) ?_
        refine S_sub [1, 2, 0] rfl ?_
        exact ih a2 (qw (a4 + 1)) h2
      · refine S_aload_n 0 dX9_calm_87 rfl rfl rfl ?_
        refine S_getr (j := 24) (o := 24) 5 qC_9 (by decide) (by decide) qk_0 rfl rfl (by decide) tw_386 dX9_calm_88 rfl ?_
        refine S_getr (j := 25) (o := 1) 0 qC_7 (by decide) (by decide) qk_24 rfl rfl (by decide) tw_272 dX9_calm_91 rfl ?_
        refine S_iload 2 dX9_calm_94 rfl rfl ?_
        refine S_aald (j := (26 + a4.toNat)) (C := "BottlePost$Bottle") (N := 8) qk_25 (by decide) (by decide) (fun _ => rfl) rfl dX9_calm_96 rfl (fun g4 g5 => (qel_25 qk_25 g4 g5).2) (fun g4 g5 => ?_)
        refine S_geti 0 qC_0 (by decide) (by decide) (qel_25 qk_25 g4 g5).1 tw_195 dX9_calm_97 rfl ?_
        refine S_if_ne (tgt := 117) dX9_calm_100 (by decide) rfl (fun _ => ?_) (fun _ => ?_)
        · refine S_iinc (lv' := [(4, qi (qw (a4 + 1))), (0, qr 0), (2, ql a2)]) 2 dX9_calm_117 rfl (by decide) rfl rfl ?_
          refine S_goto (pc' := 65) dX9_calm_120 (by decide) ?_
          refine S_sub [1, 2, 0] rfl ?_
          exact ih a2 (qw (a4 + 1)) h2
        · refine S_lload_n 1 dX9_calm_103 rfl rfl rfl ?_
          refine S_aload_n 0 dX9_calm_104 rfl rfl rfl ?_
          refine S_getr (j := 163) (o := 163) 11 qC_9 (by decide) (by decide) qk_0 rfl rfl (by decide) tw_392 dX9_calm_105 rfl ?_
          refine S_iload 2 dX9_calm_108 rfl rfl ?_
          refine S_lald (N := 8) qk_163 rfl dX9_calm_110 rfl (fun g6 g7 => ?_)
          refine S_ldc2 (a := (-1)) dX9_calm_111 rfl (by rw [show Int64.ofInt (-1) = ((-1) : Int64) from by decide]; exact tw_960) (by decide) ?_
          refine S_lxor dX9_calm_114 rfl ?_
          refine S_land dX9_calm_115 rfl ?_
          refine S_lstore_n (lv' := [(2, ql (qandl a2 (qxorl (h2.1 163 a4.toNat) (-1)))), (0, qr 0), (4, qi a4)]) dX9_calm_116 rfl (by decide) rfl rfl ?_
          refine S_lj (fun v8 => ?_)
          refine S_iinc (lv' := [(4, qi (qw (a4 + 1))), (2, ql v8), (0, qr 0)]) 2 dX9_calm_117 rfl (by decide) rfl rfl ?_
          refine S_goto (pc' := 65) dX9_calm_120 (by decide) ?_
          refine S_sub [2, 1, 0] rfl ?_
          exact ih v8 (qw (a4 + 1)) h2
def DX9_calm_l25 : Nat → Int → Int → qH → Option (Int × qH)
  | 0, _, _, _ => none
  | n + 1, a2, a4, h => (qbd (DX1_cells 5 h) fun r9 h10 => (if r9 ≤ a4 then (DX9_calm_l65 LF a2 0 h10) else (qbd (DX1_isOpen 5 a4 h10) fun r12 h13 => (if r12 = 0 then ((DX9_calm_l25 n) a2 (qw (a4 + 1)) h13) else (qlt (qorl a2 (qshll 1 a4)) fun v15 => ((DX9_calm_l25 n) v15 (qw (a4 + 1)) h13))))))
set_option maxRecDepth 100000 in
theorem TX9_calm_l25 {L : Nat} {xs : Nat → Int32} : ∀ (n : Nat) (a2 : Int) (a4 : Int) (h : qH), qS L xs cX9_calm "BottlePost" 5 8 2 25 [(0, qr 0), (2, ql a2), (4, qi a4)] [] h (DX9_calm_l25 n a2 a4 h) := by
  intro n
  induction n with
  | zero =>
    intro a2 a4 h
    exact S_none
  | succ n ih =>
    intro a2 a4 h
    rw [DX9_calm_l25.eq_2]
    refine S_iload 2 dX9_calm_25 rfl rfl ?_
    refine S_aload_n 0 dX9_calm_27 rfl rfl rfl ?_
    refine S_getr (j := 5) (o := 5) 4 qC_9 (by decide) (by decide) qk_0 rfl rfl (by decide) tw_385 dX9_calm_28 rfl ?_
    refine S_callV_i (as := []) (st := [qi a4]) (fun _ => rfl) (TX1_cells 5 qk_5 h) yv_X1_cells tw_1114 qC_1 qk_5 (by decide) rfl rfl (Nat.le_of_ble_eq_true rfl) dX9_calm_31 rfl (fun r9 h10 e11 => ?_)
    refine S_icmp_ge (tgt := 62) dX9_calm_34 (by decide) rfl (fun _ => ?_) (fun _ => ?_)
    · refine S_iconst (a := 0) dX9_calm_62 rfl (by decide) ?_
      refine S_istore (lv' := [(4, qi 0), (0, qr 0), (2, ql a2)]) dX9_calm_63 (by decide) rfl rfl ?_
      refine S_sub [1, 2, 0] rfl ?_
      exact TX9_calm_l65 LF a2 0 h10
    · refine S_aload_n 0 dX9_calm_37 rfl rfl rfl ?_
      refine S_getr (j := 5) (o := 5) 4 qC_9 (by decide) (by decide) qk_0 rfl rfl (by decide) tw_385 dX9_calm_38 rfl ?_
      refine S_iload 2 dX9_calm_41 rfl rfl ?_
      refine S_callV_i (as := [qi a4]) (st := []) (fun _ => rfl) (TX1_isOpen 5 a4 qk_5 h10) yv_X1_isOpen tw_910 qC_1 qk_5 (by decide) rfl rfl (Nat.le_of_ble_eq_true rfl) dX9_calm_43 rfl (fun r12 h13 e14 => ?_)
      refine S_if_eq (tgt := 56) dX9_calm_46 (by decide) rfl (fun _ => ?_) (fun _ => ?_)
      · refine S_iinc (lv' := [(4, qi (qw (a4 + 1))), (0, qr 0), (2, ql a2)]) 2 dX9_calm_56 rfl (by decide) rfl rfl ?_
        refine S_goto (pc' := 25) dX9_calm_59 (by decide) ?_
        refine S_sub [1, 2, 0] rfl ?_
        exact ih a2 (qw (a4 + 1)) h13
      · refine S_lload_n 1 dX9_calm_49 rfl rfl rfl ?_
        refine S_lconst (a := 1) dX9_calm_50 rfl (by decide) (by decide) ?_
        refine S_iload 2 dX9_calm_51 rfl rfl ?_
        refine S_lshl dX9_calm_53 rfl ?_
        refine S_lor dX9_calm_54 rfl ?_
        refine S_lstore_n (lv' := [(2, ql (qorl a2 (qshll 1 a4))), (0, qr 0), (4, qi a4)]) dX9_calm_55 rfl (by decide) rfl rfl ?_
        refine S_lj (fun v15 => ?_)
        refine S_iinc (lv' := [(4, qi (qw (a4 + 1))), (2, ql v15), (0, qr 0)]) 2 dX9_calm_56 rfl (by decide) rfl rfl ?_
        refine S_goto (pc' := 25) dX9_calm_59 (by decide) ?_
        refine S_sub [2, 1, 0] rfl ?_
        exact ih v15 (qw (a4 + 1)) h13
def DX9_calm (a1 : Int) (h : qH) : Option (Int × qH) := (if a1 < 1 then some ((-3), h) else (if a1 ≤ 60 then (qbd (DX9_followAll a1 h) fun r16 h17 => (DX9_calm_l25 LF 0 0 h17)) else some ((-3), h)))
set_option maxRecDepth 100000 in
theorem TX9_calm {L : Nat} {xs : Nat → Int32} (a1 : Int) (h : qH) : qMet L xs yX9_calm cX9_calm 5 (some .long) 2 8 [qr 0, qi a1] h (DX9_calm a1 h) := by
  refine qMet.of (by decide +kernel) (Or.inr (Or.inr (Or.inl ⟨rfl, rfl⟩))) (Nat.le_of_ble_eq_true rfl) ?_
  show qS L xs cX9_calm "BottlePost" 5 8 2 0 [(0, qr 0), (1, qi a1)] [] h (DX9_calm a1 h)
  unfold DX9_calm
  refine S_iload_n 1 dX9_calm_0 rfl rfl rfl ?_
  refine S_iconst (a := 1) dX9_calm_1 rfl (by decide) ?_
  refine S_icmp_lt (tgt := 11) dX9_calm_2 (by decide) rfl (fun _ => ?_) (fun _ => ?_)
  · refine S_ldc2 (a := (-3)) dX9_calm_11 rfl (by rw [show Int64.ofInt (-3) = ((-3) : Int64) from by decide]; exact tw_1128) (by decide) ?_
    exact S_lret dX9_calm_14
  · refine S_iload_n 1 dX9_calm_5 rfl rfl rfl ?_
    refine S_bipush (a := 60) dX9_calm_6 rfl (by decide) (by decide) ?_
    refine S_icmp_le (tgt := 15) dX9_calm_8 (by decide) rfl (fun _ => ?_) (fun _ => ?_)
    · refine S_aload_n 0 dX9_calm_15 rfl rfl rfl ?_
      refine S_iload_n 1 dX9_calm_16 rfl rfl rfl ?_
      refine S_callV_0 (as := [qi a1]) (st := []) (fun _ => rfl) (TX9_followAll a1 h) yv_X9_followAll tw_1098 qC_9 qk_0 (by decide) rfl rfl (Nat.le_of_ble_eq_true rfl) dX9_calm_17 rfl (fun r16 h17 e18 => ?_)
      refine S_lconst (a := 0) dX9_calm_20 rfl (by decide) (by decide) ?_
      refine S_lstore_n (lv' := [(2, ql 0), (0, qr 0), (1, qi a1)]) dX9_calm_21 rfl (by decide) rfl rfl ?_
      refine S_iconst (a := 0) dX9_calm_22 rfl (by decide) ?_
      refine S_istore (lv' := [(4, qi 0), (2, ql 0), (0, qr 0), (1, qi a1)]) dX9_calm_23 (by decide) rfl rfl ?_
      refine S_sub [2, 1, 0] rfl ?_
      exact TX9_calm_l25 LF 0 0 h17
    · refine S_ldc2 (a := (-3)) dX9_calm_11 rfl (by rw [show Int64.ofInt (-3) = ((-3) : Int64) from by decide]; exact tw_1128) (by decide) ?_
      exact S_lret dX9_calm_14
def DX9_caughtOn_l4 : Nat → Int → Int → Int → qH → Option (Int × qH)
  | 0, _, _, _, _ => none
  | n + 1, a1, a2, a3, h => (if 8 ≤ a3 then some (a2, h) else (if 0 ≤ a3 ∧ a3 < 8 then (if qcmp (qandl (qshrl (h.1 163 a3.toNat) a1) 1) 0 = 0 then ((DX9_caughtOn_l4 n) a1 a2 (qw (a3 + 1)) h) else (qlt (qor a2 (qshl 1 a3)) fun v3 => ((DX9_caughtOn_l4 n) a1 v3 (qw (a3 + 1)) h))) else none))
set_option maxRecDepth 100000 in
theorem TX9_caughtOn_l4 {L : Nat} {xs : Nat → Int32} : ∀ (n : Nat) (a1 : Int) (a2 : Int) (a3 : Int) (h : qH), qS L xs cX9_caughtOn "BottlePost" 4 1 1 4 [(0, qr 0), (1, qi a1), (2, qi a2), (3, qi a3)] [] h (DX9_caughtOn_l4 n a1 a2 a3 h) := by
  intro n
  induction n with
  | zero =>
    intro a1 a2 a3 h
    exact S_none
  | succ n ih =>
    intro a1 a2 a3 h
    rw [DX9_caughtOn_l4.eq_2]
    refine S_iload_n 3 dX9_caughtOn_4 rfl rfl rfl ?_
    refine S_aload_n 0 dX9_caughtOn_5 rfl rfl rfl ?_
    refine S_getr (j := 163) (o := 163) 11 qC_9 (by decide) (by decide) qk_0 rfl rfl (by decide) tw_392 dX9_caughtOn_6 rfl ?_
    refine S_alen (N := 8) qk_163 (by decide) (by decide) rfl (by decide) dX9_caughtOn_9 rfl ?_
    refine S_icmp_ge (tgt := 40) dX9_caughtOn_10 (by decide) rfl (fun _ => ?_) (fun _ => ?_)
    · refine S_iload_n 2 dX9_caughtOn_40 rfl rfl rfl ?_
      exact S_iret dX9_caughtOn_41
    · refine S_aload_n 0 dX9_caughtOn_13 rfl rfl rfl ?_
      refine S_getr (j := 163) (o := 163) 11 qC_9 (by decide) (by decide) qk_0 rfl rfl (by decide) tw_392 dX9_caughtOn_14 rfl ?_
      refine S_iload_n 3 dX9_caughtOn_17 rfl rfl rfl ?_
      refine S_lald (N := 8) qk_163 rfl dX9_caughtOn_18 rfl (fun g1 g2 => ?_)
      refine S_iload_n 1 dX9_caughtOn_19 rfl rfl rfl ?_
      refine S_lshr dX9_caughtOn_20 rfl ?_
      refine S_lconst (a := 1) dX9_caughtOn_21 rfl (by decide) (by decide) ?_
      refine S_land dX9_caughtOn_22 rfl ?_
      refine S_lconst (a := 0) dX9_caughtOn_23 rfl (by decide) (by decide) ?_
      refine S_lcmp dX9_caughtOn_24 rfl ?_
      refine S_if_eq (tgt := 34) dX9_caughtOn_25 (by decide) rfl (fun _ => ?_) (fun _ => ?_)
      · refine S_iinc (lv' := [(3, qi (qw (a3 + 1))), (0, qr 0), (1, qi a1), (2, qi a2)]) 3 dX9_caughtOn_34 rfl (by decide) rfl rfl ?_
        refine S_goto (pc' := 4) dX9_caughtOn_37 (by decide) ?_
        refine S_sub [1, 2, 3, 0] rfl ?_
        exact ih a1 a2 (qw (a3 + 1)) h
      · refine S_iload_n 2 dX9_caughtOn_28 rfl rfl rfl ?_
        refine S_iconst (a := 1) dX9_caughtOn_29 rfl (by decide) ?_
        refine S_iload_n 3 dX9_caughtOn_30 rfl rfl rfl ?_
        refine S_ishl dX9_caughtOn_31 rfl ?_
        refine S_ior dX9_caughtOn_32 rfl ?_
        refine S_istore_n (lv' := [(2, qi (qor a2 (qshl 1 a3))), (0, qr 0), (1, qi a1), (3, qi a3)]) dX9_caughtOn_33 rfl (by decide) rfl rfl ?_
        refine S_li (fun v3 => ?_)
        refine S_iinc (lv' := [(3, qi (qw (a3 + 1))), (2, qi v3), (0, qr 0), (1, qi a1)]) 3 dX9_caughtOn_34 rfl (by decide) rfl rfl ?_
        refine S_goto (pc' := 4) dX9_caughtOn_37 (by decide) ?_
        refine S_sub [2, 3, 1, 0] rfl ?_
        exact ih a1 v3 (qw (a3 + 1)) h
def DX9_caughtOn (a1 : Int) (h : qH) : Option (Int × qH) := (DX9_caughtOn_l4 LF a1 0 0 h)
set_option maxRecDepth 100000 in
theorem TX9_caughtOn {L : Nat} {xs : Nat → Int32} (a1 : Int) (h : qH) : qMet L xs yX9_caughtOn cX9_caughtOn 4 (some .int) 1 1 [qr 0, qi a1] h (DX9_caughtOn a1 h) := by
  refine qMet.of (by decide +kernel) (Or.inr (Or.inl ⟨rfl, rfl⟩)) (Nat.le_of_ble_eq_true rfl) ?_
  show qS L xs cX9_caughtOn "BottlePost" 4 1 1 0 [(0, qr 0), (1, qi a1)] [] h (DX9_caughtOn a1 h)
  unfold DX9_caughtOn
  refine S_iconst (a := 0) dX9_caughtOn_0 rfl (by decide) ?_
  refine S_istore_n (lv' := [(2, qi 0), (0, qr 0), (1, qi a1)]) dX9_caughtOn_1 rfl (by decide) rfl rfl ?_
  refine S_iconst (a := 0) dX9_caughtOn_2 rfl (by decide) ?_
  refine S_istore_n (lv' := [(3, qi 0), (2, qi 0), (0, qr 0), (1, qi a1)]) dX9_caughtOn_3 rfl (by decide) rfl rfl ?_
  refine S_sub [2, 3, 1, 0] rfl ?_
  exact TX9_caughtOn_l4 LF a1 0 0 h
def DX9_catches (a1 : Int) (a2 : Int) (h : qH) : Option (Int × qH) := (qbd (DX1_isCell 5 a1 h) fun r1 h2 => (if ¬ r1 = 0 then (if a2 < 1 then some ((-3), h2) else (if a2 ≤ 60 then (qbd (DX1_isOpen 5 a1 h2) fun r4 h5 => (if ¬ r4 = 0 then (qbd (DX9_followAll a2 h5) fun r7 h8 => (qbd (DX9_caughtOn a1 h8) fun r10 h11 => some (r10, h11))) else some ((-5), h5))) else some ((-3), h2))) else some ((-2), h2)))
set_option maxRecDepth 100000 in
theorem TX9_catches {L : Nat} {xs : Nat → Int32} (a1 : Int) (a2 : Int) (h : qH) : qMet L xs yX9_catches cX9_catches 3 (some .int) 1 8 [qr 0, qi a1, qi a2] h (DX9_catches a1 a2 h) := by
  refine qMet.of (by decide +kernel) (Or.inr (Or.inl ⟨rfl, rfl⟩)) (Nat.le_of_ble_eq_true rfl) ?_
  show qS L xs cX9_catches "BottlePost" 3 8 1 0 [(0, qr 0), (1, qi a1), (2, qi a2)] [] h (DX9_catches a1 a2 h)
  unfold DX9_catches
  refine S_aload_n 0 dX9_catches_0 rfl rfl rfl ?_
  refine S_getr (j := 5) (o := 5) 4 qC_9 (by decide) (by decide) qk_0 rfl rfl (by decide) tw_385 dX9_catches_1 rfl ?_
  refine S_iload_n 1 dX9_catches_4 rfl rfl rfl ?_
  refine S_callV_i (as := [qi a1]) (st := []) (fun _ => rfl) (TX1_isCell 5 a1 qk_5 h) yv_X1_isCell tw_756 qC_1 qk_5 (by decide) rfl rfl (Nat.le_of_ble_eq_true rfl) dX9_catches_5 rfl (fun r1 h2 e3 => ?_)
  refine S_if_ne (tgt := 14) dX9_catches_8 (by decide) rfl (fun _ => ?_) (fun _ => ?_)
  · refine S_iload_n 2 dX9_catches_14 rfl rfl rfl ?_
    refine S_iconst (a := 1) dX9_catches_15 rfl (by decide) ?_
    refine S_icmp_lt (tgt := 25) dX9_catches_16 (by decide) rfl (fun _ => ?_) (fun _ => ?_)
    · refine S_bipush (a := (-3)) dX9_catches_25 rfl (by decide) (by decide) ?_
      exact S_iret dX9_catches_27
    · refine S_iload_n 2 dX9_catches_19 rfl rfl rfl ?_
      refine S_bipush (a := 60) dX9_catches_20 rfl (by decide) (by decide) ?_
      refine S_icmp_le (tgt := 28) dX9_catches_22 (by decide) rfl (fun _ => ?_) (fun _ => ?_)
      · refine S_aload_n 0 dX9_catches_28 rfl rfl rfl ?_
        refine S_getr (j := 5) (o := 5) 4 qC_9 (by decide) (by decide) qk_0 rfl rfl (by decide) tw_385 dX9_catches_29 rfl ?_
        refine S_iload_n 1 dX9_catches_32 rfl rfl rfl ?_
        refine S_callV_i (as := [qi a1]) (st := []) (fun _ => rfl) (TX1_isOpen 5 a1 qk_5 h2) yv_X1_isOpen tw_910 qC_1 qk_5 (by decide) rfl rfl (Nat.le_of_ble_eq_true rfl) dX9_catches_33 rfl (fun r4 h5 e6 => ?_)
        refine S_if_ne (tgt := 42) dX9_catches_36 (by decide) rfl (fun _ => ?_) (fun _ => ?_)
        · refine S_aload_n 0 dX9_catches_42 rfl rfl rfl ?_
          refine S_iload_n 2 dX9_catches_43 rfl rfl rfl ?_
          refine S_callV_0 (as := [qi a2]) (st := []) (fun _ => rfl) (TX9_followAll a2 h5) yv_X9_followAll tw_1098 qC_9 qk_0 (by decide) rfl rfl (Nat.le_of_ble_eq_true rfl) dX9_catches_44 rfl (fun r7 h8 e9 => ?_)
          refine S_aload_n 0 dX9_catches_47 rfl rfl rfl ?_
          refine S_iload_n 1 dX9_catches_48 rfl rfl rfl ?_
          refine S_callV_i (as := [qi a1]) (st := []) (fun _ => rfl) (TX9_caughtOn a1 h8) yv_X9_caughtOn tw_1106 qC_9 qk_0 (by decide) rfl rfl (Nat.le_of_ble_eq_true rfl) dX9_catches_49 rfl (fun r10 h11 e12 => ?_)
          exact S_iret dX9_catches_52
        · refine S_bipush (a := (-5)) dX9_catches_39 rfl (by decide) (by decide) ?_
          exact S_iret dX9_catches_41
      · refine S_bipush (a := (-3)) dX9_catches_25 rfl (by decide) (by decide) ?_
        exact S_iret dX9_catches_27
  · refine S_bipush (a := (-2)) dX9_catches_11 rfl (by decide) (by decide) ?_
    exact S_iret dX9_catches_13
def DX9_cell (a1 : Int) (h : qH) : Option (Int × qH) := (qbd (DX1_isCell 5 a1 h) fun r1 h2 => (if r1 = 0 then some ((-2), h2) else (if 0 ≤ a1 ∧ a1 < 36 then some (h2.1 6 a1.toNat, h2) else none)))
set_option maxRecDepth 100000 in
theorem TX9_cell {L : Nat} {xs : Nat → Int32} (a1 : Int) (h : qH) : qMet L xs yX9_cell cX9_cell 2 (some .int) 1 2 [qr 0, qi a1] h (DX9_cell a1 h) := by
  refine qMet.of (by decide +kernel) (Or.inr (Or.inl ⟨rfl, rfl⟩)) (Nat.le_of_ble_eq_true rfl) ?_
  show qS L xs cX9_cell "BottlePost" 2 2 1 0 [(0, qr 0), (1, qi a1)] [] h (DX9_cell a1 h)
  unfold DX9_cell
  refine S_aload_n 0 dX9_cell_0 rfl rfl rfl ?_
  refine S_getr (j := 5) (o := 5) 4 qC_9 (by decide) (by decide) qk_0 rfl rfl (by decide) tw_385 dX9_cell_1 rfl ?_
  refine S_iload_n 1 dX9_cell_4 rfl rfl rfl ?_
  refine S_callV_i (as := [qi a1]) (st := []) (fun _ => rfl) (TX1_isCell 5 a1 qk_5 h) yv_X1_isCell tw_756 qC_1 qk_5 (by decide) rfl rfl (Nat.le_of_ble_eq_true rfl) dX9_cell_5 rfl (fun r1 h2 e3 => ?_)
  refine S_if_eq (tgt := 23) dX9_cell_8 (by decide) rfl (fun _ => ?_) (fun _ => ?_)
  · refine S_bipush (a := (-2)) dX9_cell_23 rfl (by decide) (by decide) ?_
    exact S_iret dX9_cell_25
  · refine S_aload_n 0 dX9_cell_11 rfl rfl rfl ?_
    refine S_getr (j := 5) (o := 5) 4 qC_9 (by decide) (by decide) qk_0 rfl rfl (by decide) tw_385 dX9_cell_12 rfl ?_
    refine S_getr (j := 6) (o := 1) 0 qC_1 (by decide) (by decide) qk_5 rfl rfl (by decide) tw_42 dX9_cell_15 rfl ?_
    refine S_iload_n 1 dX9_cell_18 rfl rfl rfl ?_
    refine S_iald (N := 36) qk_6 rfl dX9_cell_19 rfl (fun g4 g5 => ?_)
    refine S_goto (pc' := 25) dX9_cell_20 (by decide) ?_
    exact S_iret dX9_cell_25
def DX0_place (i0 : Nat) (h : qH) : Option (Int × qH) := (if h.1 i0 0 = 0 then some (h.1 i0 1, h) else (if ¬ h.1 i0 0 = 1 then some ((-1), h) else some (h.1 i0 1, h)))
set_option maxRecDepth 100000 in
theorem TX0_place {L : Nat} {xs : Nat → Int32} (i0 : Nat) (t0 : qK i0 = (0, 8)) (h : qH) : qMet L xs yX0_place cX0_place 1 (some .int) 1 1 [qr i0] h (DX0_place i0 h) := by
  refine qMet.of (by decide +kernel) (Or.inr (Or.inl ⟨rfl, rfl⟩)) (Nat.le_of_ble_eq_true rfl) ?_
  show qS L xs cX0_place "BottlePost$Bottle" 1 1 1 0 [(0, qr i0)] [] h (DX0_place i0 h)
  unfold DX0_place
  refine S_aload_n 0 dX0_place_0 rfl rfl rfl ?_
  refine S_geti 0 qC_0 (by decide) (by decide) t0 tw_192 dX0_place_1 rfl ?_
  refine S_if_eq (tgt := 15) dX0_place_4 (by decide) rfl (fun _ => ?_) (fun _ => ?_)
  · refine S_aload_n 0 dX0_place_15 rfl rfl rfl ?_
    refine S_geti 1 qC_0 (by decide) (by decide) t0 tw_196 dX0_place_16 rfl ?_
    refine S_goto (pc' := 23) dX0_place_19 (by decide) ?_
    exact S_iret dX0_place_23
  · refine S_aload_n 0 dX0_place_7 rfl rfl rfl ?_
    refine S_geti 0 qC_0 (by decide) (by decide) t0 tw_192 dX0_place_8 rfl ?_
    refine S_iconst (a := 1) dX0_place_11 rfl (by decide) ?_
    refine S_icmp_ne (tgt := 22) dX0_place_12 (by decide) rfl (fun _ => ?_) (fun _ => ?_)
    · refine S_iconst (a := (-1)) dX0_place_22 rfl (by decide) ?_
      exact S_iret dX0_place_23
    · refine S_aload_n 0 dX0_place_15 rfl rfl rfl ?_
      refine S_geti 1 qC_0 (by decide) (by decide) t0 tw_196 dX0_place_16 rfl ?_
      refine S_goto (pc' := 23) dX0_place_19 (by decide) ?_
      exact S_iret dX0_place_23
def DX9_comesTo_l43 : Nat → Int → Int → qH → Option (Int × qH)
  | 0, _, _, _ => none
  | n + 1, a2, a3, h => (if 200 < a3 then some ((-1), h) else (qbd (DX0_place 156 h) fun r1 h2 => (if ¬ r1 = a2 then (qbd (DX2_carry 156 (qw (h2.1 24 2 + a3)) h2) fun r4 h5 => ((DX9_comesTo_l43 n) a2 (qw (a3 + 1)) h5)) else some (a3, h2))))
set_option maxRecDepth 100000 in
theorem TX9_comesTo_l43 {L : Nat} {xs : Nat → Int32} : ∀ (n : Nat) (a2 : Int) (a3 : Int) (h : qH), qS L xs cX9_comesTo "BottlePost" 4 6 1 43 [(0, qr 0), (2, qi a2), (3, qi a3)] [] h (DX9_comesTo_l43 n a2 a3 h) := by
  intro n
  induction n with
  | zero =>
    intro a2 a3 h
    exact S_none
  | succ n ih =>
    intro a2 a3 h
    rw [DX9_comesTo_l43.eq_2]
    refine S_iload_n 2 dX9_comesTo_43 rfl rfl rfl ?_
    refine S_sipush (a := 200) dX9_comesTo_44 rfl (by decide) (by decide) ?_
    refine S_icmp_gt (tgt := 89) dX9_comesTo_47 (by decide) rfl (fun _ => ?_) (fun _ => ?_)
    · refine S_iconst (a := (-1)) dX9_comesTo_89 rfl (by decide) ?_
      exact S_iret dX9_comesTo_90
    · refine S_aload_n 0 dX9_comesTo_50 rfl rfl rfl ?_
      refine S_getr (j := 156) (o := 156) 8 qC_9 (by decide) (by decide) qk_0 rfl rfl (by decide) tw_389 dX9_comesTo_51 rfl ?_
      refine S_callV_i (as := []) (st := []) (fun _ => rfl) (TX0_place 156 qk_156 h) yv_X0_place tw_1002 qC_0 qk_156 (by decide) rfl rfl (Nat.le_of_ble_eq_true rfl) dX9_comesTo_54 rfl (fun r1 h2 e3 => ?_)
      refine S_iload_n 1 dX9_comesTo_57 rfl rfl rfl ?_
      refine S_icmp_ne (tgt := 63) dX9_comesTo_58 (by decide) rfl (fun _ => ?_) (fun _ => ?_)
      · refine S_aload_n 0 dX9_comesTo_63 rfl rfl rfl ?_
        refine S_getr (j := 4) (o := 4) 3 qC_9 (by decide) (by decide) qk_0 rfl rfl (by decide) tw_384 dX9_comesTo_64 rfl ?_
        refine S_aload_n 0 dX9_comesTo_67 rfl rfl rfl ?_
        refine S_getr (j := 156) (o := 156) 8 qC_9 (by decide) (by decide) qk_0 rfl rfl (by decide) tw_389 dX9_comesTo_68 rfl ?_
        refine S_aload_n 0 dX9_comesTo_71 rfl rfl rfl ?_
        refine S_getr (j := 24) (o := 24) 5 qC_9 (by decide) (by decide) qk_0 rfl rfl (by decide) tw_386 dX9_comesTo_72 rfl ?_
        refine S_geti 2 qC_7 (by decide) (by decide) qk_24 tw_276 dX9_comesTo_75 rfl ?_
        refine S_iload_n 2 dX9_comesTo_78 rfl rfl rfl ?_
        refine S_iadd dX9_comesTo_79 rfl ?_
        refine S_callV_0 (as := [qr 156, qi (qw (h2.1 24 2 + a3))]) (st := []) (fun _ => rfl) (TX2_carry 156 (qw (h2.1 24 2 + a3)) qk_156 h2) yv_X2_carry tw_1001 qC_2 qk_4 (by decide) rfl rfl (Nat.le_of_ble_eq_true rfl) dX9_comesTo_80 rfl (fun r4 h5 e6 => ?_)
        refine S_iinc (lv' := [(3, qi (qw (a3 + 1))), (0, qr 0), (2, qi a2)]) 2 dX9_comesTo_83 rfl (by decide) rfl rfl ?_
        refine S_goto (pc' := 43) dX9_comesTo_86 (by decide) ?_
        refine S_sub [1, 2, 0] rfl ?_
        exact ih a2 (qw (a3 + 1)) h5
      · refine S_iload_n 2 dX9_comesTo_61 rfl rfl rfl ?_
        exact S_iret dX9_comesTo_62
def DX9_comesTo (a1 : Int) (a2 : Int) (h : qH) : Option (Int × qH) := (qbd (DX7_has 24 a1 h) fun r7 h8 => (if r7 = 0 then some ((-2), h8) else (qbd (DX1_isCell 5 a2 h8) fun r10 h11 => (if ¬ r10 = 0 then (if 0 ≤ a1 ∧ a1 < 8 then (qbd (DX0_takeFrom 156 (26 + a1.toNat) h11) fun r15 h16 => (DX9_comesTo_l43 LF a2 0 h16)) else none) else some ((-2), h11)))))
set_option maxRecDepth 100000 in
theorem TX9_comesTo {L : Nat} {xs : Nat → Int32} (a1 : Int) (a2 : Int) (h : qH) : qMet L xs yX9_comesTo cX9_comesTo 4 (some .int) 1 6 [qr 0, qi a1, qi a2] h (DX9_comesTo a1 a2 h) := by
  refine qMet.of (by decide +kernel) (Or.inr (Or.inl ⟨rfl, rfl⟩)) (Nat.le_of_ble_eq_true rfl) ?_
  show qS L xs cX9_comesTo "BottlePost" 4 6 1 0 [(0, qr 0), (1, qi a1), (2, qi a2)] [] h (DX9_comesTo a1 a2 h)
  unfold DX9_comesTo
  refine S_aload_n 0 dX9_comesTo_0 rfl rfl rfl ?_
  refine S_getr (j := 24) (o := 24) 5 qC_9 (by decide) (by decide) qk_0 rfl rfl (by decide) tw_386 dX9_comesTo_1 rfl ?_
  refine S_iload_n 1 dX9_comesTo_4 rfl rfl rfl ?_
  refine S_callV_i (as := [qi a1]) (st := []) (fun _ => rfl) (TX7_has 24 a1 qk_24 h) yv_X7_has tw_822 qC_7 qk_24 (by decide) rfl rfl (Nat.le_of_ble_eq_true rfl) dX9_comesTo_5 rfl (fun r7 h8 e9 => ?_)
  refine S_if_eq (tgt := 22) dX9_comesTo_8 (by decide) rfl (fun _ => ?_) (fun _ => ?_)
  · refine S_bipush (a := (-2)) dX9_comesTo_22 rfl (by decide) (by decide) ?_
    exact S_iret dX9_comesTo_24
  · refine S_aload_n 0 dX9_comesTo_11 rfl rfl rfl ?_
    refine S_getr (j := 5) (o := 5) 4 qC_9 (by decide) (by decide) qk_0 rfl rfl (by decide) tw_385 dX9_comesTo_12 rfl ?_
    refine S_iload_n 2 dX9_comesTo_15 rfl rfl rfl ?_
    refine S_callV_i (as := [qi a2]) (st := []) (fun _ => rfl) (TX1_isCell 5 a2 qk_5 h8) yv_X1_isCell tw_756 qC_1 qk_5 (by decide) rfl rfl (Nat.le_of_ble_eq_true rfl) dX9_comesTo_16 rfl (fun r10 h11 e12 => ?_)
    refine S_if_ne (tgt := 25) dX9_comesTo_19 (by decide) rfl (fun _ => ?_) (fun _ => ?_)
    · refine S_aload_n 0 dX9_comesTo_25 rfl rfl rfl ?_
      refine S_getr (j := 156) (o := 156) 8 qC_9 (by decide) (by decide) qk_0 rfl rfl (by decide) tw_389 dX9_comesTo_26 rfl ?_
      refine S_aload_n 0 dX9_comesTo_29 rfl rfl rfl ?_
      refine S_getr (j := 24) (o := 24) 5 qC_9 (by decide) (by decide) qk_0 rfl rfl (by decide) tw_386 dX9_comesTo_30 rfl ?_
      refine S_getr (j := 25) (o := 1) 0 qC_7 (by decide) (by decide) qk_24 rfl rfl (by decide) tw_272 dX9_comesTo_33 rfl ?_
      refine S_iload_n 1 dX9_comesTo_36 rfl rfl rfl ?_
      refine S_aald (j := (26 + a1.toNat)) (C := "BottlePost$Bottle") (N := 8) qk_25 (by decide) (by decide) (fun _ => rfl) rfl dX9_comesTo_37 rfl (fun g13 g14 => (qel_25 qk_25 g13 g14).2) (fun g13 g14 => ?_)
      refine S_callV_0 (as := [qr (26 + a1.toNat)]) (st := []) (fun _ => rfl) (TX0_takeFrom 156 (26 + a1.toNat) qk_156 (qel_25 qk_25 g13 g14).1 h11) yv_X0_takeFrom tw_991 qC_0 qk_156 (by decide) rfl rfl (Nat.le_of_ble_eq_true rfl) dX9_comesTo_38 rfl (fun r15 h16 e17 => ?_)
      refine S_iconst (a := 0) dX9_comesTo_41 rfl (by decide) ?_
      refine S_istore_n (lv' := [(3, qi 0), (0, qr 0), (1, qi a1), (2, qi a2)]) dX9_comesTo_42 rfl (by decide) rfl rfl ?_
      refine S_sub [1, 3, 0] rfl ?_
      exact TX9_comesTo_l43 LF a2 0 h16
    · refine S_bipush (a := (-2)) dX9_comesTo_22 rfl (by decide) (by decide) ?_
      exact S_iret dX9_comesTo_24
def DX7_countOf_l4 : Nat → Nat → Int → Int → Int → qH → Option (Int × qH)
  | 0, _, _, _, _, _ => none
  | n + 1, i0, a1, a2, a3, h => (if h.1 i0 1 ≤ a3 then some (a2, h) else (if 8 ≤ a3 then some (a2, h) else (if 0 ≤ a3 ∧ a3 < 8 then (if ¬ h.1 (i0 + 2 + a3.toNat) 0 = a1 then ((DX7_countOf_l4 n) i0 a1 a2 (qw (a3 + 1)) h) else (qlt (qw (a2 + 1)) fun v3 => ((DX7_countOf_l4 n) i0 a1 v3 (qw (a3 + 1)) h))) else none)))
set_option maxRecDepth 100000 in
theorem TX7_countOf_l4 {L : Nat} {xs : Nat → Int32} : ∀ (n : Nat) (i0 : Nat) (a1 : Int) (a2 : Int) (a3 : Int) (t0 : qK i0 = (7, 3)) (h : qH), qS L xs cX7_countOf "BottlePost$Waters" 4 1 1 4 [(0, qr i0), (1, qi a1), (2, qi a2), (3, qi a3)] [] h (DX7_countOf_l4 n i0 a1 a2 a3 h) := by
  intro n
  induction n with
  | zero =>
    intro i0 a1 a2 a3 t0 h
    exact S_none
  | succ n ih =>
    intro i0 a1 a2 a3 t0 h
    rw [DX7_countOf_l4.eq_2]
    refine S_iload_n 3 dX7_countOf_4 rfl rfl rfl ?_
    refine S_aload_n 0 dX7_countOf_5 rfl rfl rfl ?_
    refine S_geti 1 qC_7 (by decide) (by decide) t0 tw_273 dX7_countOf_6 rfl ?_
    refine S_icmp_ge (tgt := 40) dX7_countOf_9 (by decide) rfl (fun _ => ?_) (fun _ => ?_)
    · refine S_iload_n 2 dX7_countOf_40 rfl rfl rfl ?_
      exact S_iret dX7_countOf_41
    · refine S_iload_n 3 dX7_countOf_12 rfl rfl rfl ?_
      refine S_bipush (a := 8) dX7_countOf_13 rfl (by decide) (by decide) ?_
      refine S_icmp_ge (tgt := 40) dX7_countOf_15 (by decide) rfl (fun _ => ?_) (fun _ => ?_)
      · refine S_iload_n 2 dX7_countOf_40 rfl rfl rfl ?_
        exact S_iret dX7_countOf_41
      · refine S_aload_n 0 dX7_countOf_18 rfl rfl rfl ?_
        refine S_getr (j := (i0 + 1)) (o := 1) 0 qC_7 (by decide) (by decide) t0 rfl rfl (qf_7_0 t0).2 tw_271 dX7_countOf_19 rfl ?_
        refine S_iload_n 3 dX7_countOf_22 rfl rfl rfl ?_
        refine S_aald (j := (i0 + 2 + a3.toNat)) (C := "BottlePost$Bottle") (N := 8) (qf_7_0 t0).1 (by decide) (by decide) (fun _ => rfl) rfl dX7_countOf_23 rfl (fun g1 g2 => (qel_25 (qf_7_0 t0).1 g1 g2).2) (fun g1 g2 => ?_)
        refine S_geti 0 qC_0 (by decide) (by decide) (qel_25 (qf_7_0 t0).1 g1 g2).1 tw_194 dX7_countOf_24 rfl ?_
        refine S_iload_n 1 dX7_countOf_27 rfl rfl rfl ?_
        refine S_icmp_ne (tgt := 34) dX7_countOf_28 (by decide) rfl (fun _ => ?_) (fun _ => ?_)
        · refine S_iinc (lv' := [(3, qi (qw (a3 + 1))), (0, qr i0), (1, qi a1), (2, qi a2)]) 3 dX7_countOf_34 rfl (by decide) rfl rfl ?_
          refine S_goto (pc' := 4) dX7_countOf_37 (by decide) ?_
          refine S_sub [1, 2, 3, 0] rfl ?_
          exact ih i0 a1 a2 (qw (a3 + 1)) t0 h
        · refine S_iinc (lv' := [(2, qi (qw (a2 + 1))), (0, qr i0), (1, qi a1), (3, qi a3)]) 2 dX7_countOf_31 rfl (by decide) rfl rfl ?_
          refine S_li (fun v3 => ?_)
          refine S_iinc (lv' := [(3, qi (qw (a3 + 1))), (2, qi v3), (0, qr i0), (1, qi a1)]) 3 dX7_countOf_34 rfl (by decide) rfl rfl ?_
          refine S_goto (pc' := 4) dX7_countOf_37 (by decide) ?_
          refine S_sub [2, 3, 1, 0] rfl ?_
          exact ih i0 a1 v3 (qw (a3 + 1)) t0 h
def DX7_countOf (i0 : Nat) (a1 : Int) (h : qH) : Option (Int × qH) := (DX7_countOf_l4 LF i0 a1 0 0 h)
set_option maxRecDepth 100000 in
theorem TX7_countOf {L : Nat} {xs : Nat → Int32} (i0 : Nat) (a1 : Int) (t0 : qK i0 = (7, 3)) (h : qH) : qMet L xs yX7_countOf cX7_countOf 4 (some .int) 1 1 [qr i0, qi a1] h (DX7_countOf i0 a1 h) := by
  refine qMet.of (by decide +kernel) (Or.inr (Or.inl ⟨rfl, rfl⟩)) (Nat.le_of_ble_eq_true rfl) ?_
  show qS L xs cX7_countOf "BottlePost$Waters" 4 1 1 0 [(0, qr i0), (1, qi a1)] [] h (DX7_countOf i0 a1 h)
  unfold DX7_countOf
  refine S_iconst (a := 0) dX7_countOf_0 rfl (by decide) ?_
  refine S_istore_n (lv' := [(2, qi 0), (0, qr i0), (1, qi a1)]) dX7_countOf_1 rfl (by decide) rfl rfl ?_
  refine S_iconst (a := 0) dX7_countOf_2 rfl (by decide) ?_
  refine S_istore_n (lv' := [(3, qi 0), (2, qi 0), (0, qr i0), (1, qi a1)]) dX7_countOf_3 rfl (by decide) rfl rfl ?_
  refine S_sub [2, 3, 1, 0] rfl ?_
  exact TX7_countOf_l4 LF i0 a1 0 0 t0 h
def DX9_count (a1 : Int) (h : qH) : Option (Int × qH) := (if a1 = 0 then some (h.1 5 11, h) else (if a1 = 1 then some (h.1 5 12, h) else (if a1 = 2 then some (h.1 5 13, h) else (if a1 = 3 then some (h.1 5 14, h) else (if a1 = 4 then some (h.1 24 1, h) else (if a1 = 5 then (qbd (DX7_countOf 24 0 h) fun r7 h8 => some (r7, h8)) else (if a1 = 6 then (qbd (DX7_countOf 24 2 h) fun r11 h12 => some (r11, h12)) else (if a1 = 7 then some (h.1 24 2, h) else (if a1 = 8 then (qbd (DX1_phaseOf 5 (h.1 24 2) h) fun r16 h17 => some (r16, h17)) else (if a1 = 9 then (qbd (DX1_moonOf 5 (h.1 24 2) h) fun r20 h21 => some (r20, h21)) else (if a1 = 10 then some (h.1 44 2, h) else (if a1 = 11 then some (h.1 0 1, h) else (if a1 = 12 then some (h.1 5 16, h) else (if a1 = 13 then some (h.1 5 15, h) else some ((-1), h)))))))))))))))
set_option maxRecDepth 100000 in
theorem TX9_count {L : Nat} {xs : Nat → Int32} (a1 : Int) (h : qH) : qMet L xs yX9_count cX9_count 2 (some .int) 1 2 [qr 0, qi a1] h (DX9_count a1 h) := by
  refine qMet.of (by decide +kernel) (Or.inr (Or.inl ⟨rfl, rfl⟩)) (Nat.le_of_ble_eq_true rfl) ?_
  show qS L xs cX9_count "BottlePost" 2 2 1 0 [(0, qr 0), (1, qi a1)] [] h (DX9_count a1 h)
  unfold DX9_count
  refine S_iload_n 1 dX9_count_0 rfl rfl rfl ?_
  refine S_ite (fun g1 => ?_) (fun g1 => ?_)
  · refine S_tabIn (a0 := 0) (off := 71) (pc' := 72) dX9_count_1 g1 (by decide) (by decide) rfl (by decide) ?_
    refine S_aload_n 0 dX9_count_72 rfl rfl rfl ?_
    refine S_getr (j := 5) (o := 5) 4 qC_9 (by decide) (by decide) qk_0 rfl rfl (by decide) tw_385 dX9_count_73 rfl ?_
    refine S_geti 11 qC_1 (by decide) (by decide) qk_5 tw_76 dX9_count_76 rfl ?_
    exact S_iret dX9_count_79
  · refine S_ite (fun g2 => ?_) (fun g2 => ?_)
    · refine S_tabIn (a0 := 1) (off := 79) (pc' := 80) dX9_count_1 g2 (by decide) (by decide) rfl (by decide) ?_
      refine S_aload_n 0 dX9_count_80 rfl rfl rfl ?_
      refine S_getr (j := 5) (o := 5) 4 qC_9 (by decide) (by decide) qk_0 rfl rfl (by decide) tw_385 dX9_count_81 rfl ?_
      refine S_geti 12 qC_1 (by decide) (by decide) qk_5 tw_79 dX9_count_84 rfl ?_
      exact S_iret dX9_count_87
    · refine S_ite (fun g3 => ?_) (fun g3 => ?_)
      · refine S_tabIn (a0 := 2) (off := 87) (pc' := 88) dX9_count_1 g3 (by decide) (by decide) rfl (by decide) ?_
        refine S_aload_n 0 dX9_count_88 rfl rfl rfl ?_
        refine S_getr (j := 5) (o := 5) 4 qC_9 (by decide) (by decide) qk_0 rfl rfl (by decide) tw_385 dX9_count_89 rfl ?_
        refine S_geti 13 qC_1 (by decide) (by decide) qk_5 tw_81 dX9_count_92 rfl ?_
        exact S_iret dX9_count_95
      · refine S_ite (fun g4 => ?_) (fun g4 => ?_)
        · refine S_tabIn (a0 := 3) (off := 95) (pc' := 96) dX9_count_1 g4 (by decide) (by decide) rfl (by decide) ?_
          refine S_aload_n 0 dX9_count_96 rfl rfl rfl ?_
          refine S_getr (j := 5) (o := 5) 4 qC_9 (by decide) (by decide) qk_0 rfl rfl (by decide) tw_385 dX9_count_97 rfl ?_
          refine S_geti 14 qC_1 (by decide) (by decide) qk_5 tw_87 dX9_count_100 rfl ?_
          exact S_iret dX9_count_103
        · refine S_ite (fun g5 => ?_) (fun g5 => ?_)
          · refine S_tabIn (a0 := 4) (off := 103) (pc' := 104) dX9_count_1 g5 (by decide) (by decide) rfl (by decide) ?_
            refine S_aload_n 0 dX9_count_104 rfl rfl rfl ?_
            refine S_getr (j := 24) (o := 24) 5 qC_9 (by decide) (by decide) qk_0 rfl rfl (by decide) tw_386 dX9_count_105 rfl ?_
            refine S_geti 1 qC_7 (by decide) (by decide) qk_24 tw_274 dX9_count_108 rfl ?_
            exact S_iret dX9_count_111
          · refine S_ite (fun g6 => ?_) (fun g6 => ?_)
            · refine S_tabIn (a0 := 5) (off := 111) (pc' := 112) dX9_count_1 g6 (by decide) (by decide) rfl (by decide) ?_
              refine S_aload_n 0 dX9_count_112 rfl rfl rfl ?_
              refine S_getr (j := 24) (o := 24) 5 qC_9 (by decide) (by decide) qk_0 rfl rfl (by decide) tw_386 dX9_count_113 rfl ?_
              refine S_iconst (a := 0) dX9_count_116 rfl (by decide) ?_
              refine S_callV_i (as := [qi 0]) (st := []) (fun _ => rfl) (TX7_countOf 24 0 qk_24 h) yv_X7_countOf tw_869 qC_7 qk_24 (by decide) rfl rfl (Nat.le_of_ble_eq_true rfl) dX9_count_117 rfl (fun r7 h8 e9 => ?_)
              exact S_iret dX9_count_120
            · refine S_ite (fun g10 => ?_) (fun g10 => ?_)
              · refine S_tabIn (a0 := 6) (off := 120) (pc' := 121) dX9_count_1 g10 (by decide) (by decide) rfl (by decide) ?_
                refine S_aload_n 0 dX9_count_121 rfl rfl rfl ?_
                refine S_getr (j := 24) (o := 24) 5 qC_9 (by decide) (by decide) qk_0 rfl rfl (by decide) tw_386 dX9_count_122 rfl ?_
                refine S_iconst (a := 2) dX9_count_125 rfl (by decide) ?_
                refine S_callV_i (as := [qi 2]) (st := []) (fun _ => rfl) (TX7_countOf 24 2 qk_24 h) yv_X7_countOf tw_869 qC_7 qk_24 (by decide) rfl rfl (Nat.le_of_ble_eq_true rfl) dX9_count_126 rfl (fun r11 h12 e13 => ?_)
                exact S_iret dX9_count_129
              · refine S_ite (fun g14 => ?_) (fun g14 => ?_)
                · refine S_tabIn (a0 := 7) (off := 129) (pc' := 130) dX9_count_1 g14 (by decide) (by decide) rfl (by decide) ?_
                  refine S_aload_n 0 dX9_count_130 rfl rfl rfl ?_
                  refine S_getr (j := 24) (o := 24) 5 qC_9 (by decide) (by decide) qk_0 rfl rfl (by decide) tw_386 dX9_count_131 rfl ?_
                  refine S_geti 2 qC_7 (by decide) (by decide) qk_24 tw_276 dX9_count_134 rfl ?_
                  exact S_iret dX9_count_137
                · refine S_ite (fun g15 => ?_) (fun g15 => ?_)
                  · refine S_tabIn (a0 := 8) (off := 137) (pc' := 138) dX9_count_1 g15 (by decide) (by decide) rfl (by decide) ?_
                    refine S_aload_n 0 dX9_count_138 rfl rfl rfl ?_
                    refine S_getr (j := 5) (o := 5) 4 qC_9 (by decide) (by decide) qk_0 rfl rfl (by decide) tw_385 dX9_count_139 rfl ?_
                    refine S_aload_n 0 dX9_count_142 rfl rfl rfl ?_
                    refine S_getr (j := 24) (o := 24) 5 qC_9 (by decide) (by decide) qk_0 rfl rfl (by decide) tw_386 dX9_count_143 rfl ?_
                    refine S_geti 2 qC_7 (by decide) (by decide) qk_24 tw_276 dX9_count_146 rfl ?_
                    refine S_callV_i (as := [qi (h.1 24 2)]) (st := []) (fun _ => rfl) (TX1_phaseOf 5 (h.1 24 2) qk_5 h) yv_X1_phaseOf tw_1139 qC_1 qk_5 (by decide) rfl rfl (Nat.le_of_ble_eq_true rfl) dX9_count_149 rfl (fun r16 h17 e18 => ?_)
                    exact S_iret dX9_count_152
                  · refine S_ite (fun g19 => ?_) (fun g19 => ?_)
                    · refine S_tabIn (a0 := 9) (off := 152) (pc' := 153) dX9_count_1 g19 (by decide) (by decide) rfl (by decide) ?_
                      refine S_aload_n 0 dX9_count_153 rfl rfl rfl ?_
                      refine S_getr (j := 5) (o := 5) 4 qC_9 (by decide) (by decide) qk_0 rfl rfl (by decide) tw_385 dX9_count_154 rfl ?_
                      refine S_aload_n 0 dX9_count_157 rfl rfl rfl ?_
                      refine S_getr (j := 24) (o := 24) 5 qC_9 (by decide) (by decide) qk_0 rfl rfl (by decide) tw_386 dX9_count_158 rfl ?_
                      refine S_geti 2 qC_7 (by decide) (by decide) qk_24 tw_276 dX9_count_161 rfl ?_
                      refine S_callV_i (as := [qi (h.1 24 2)]) (st := []) (fun _ => rfl) (TX1_moonOf 5 (h.1 24 2) qk_5 h) yv_X1_moonOf tw_1140 qC_1 qk_5 (by decide) rfl rfl (Nat.le_of_ble_eq_true rfl) dX9_count_164 rfl (fun r20 h21 e22 => ?_)
                      exact S_iret dX9_count_167
                    · refine S_ite (fun g23 => ?_) (fun g23 => ?_)
                      · refine S_tabIn (a0 := 10) (off := 167) (pc' := 168) dX9_count_1 g23 (by decide) (by decide) rfl (by decide) ?_
                        refine S_aload_n 0 dX9_count_168 rfl rfl rfl ?_
                        refine S_getr (j := 44) (o := 44) 7 qC_9 (by decide) (by decide) qk_0 rfl rfl (by decide) tw_388 dX9_count_169 rfl ?_
                        refine S_geti 2 qC_3 (by decide) (by decide) qk_44 tw_296 dX9_count_172 rfl ?_
                        exact S_iret dX9_count_175
                      · refine S_ite (fun g24 => ?_) (fun g24 => ?_)
                        · refine S_tabIn (a0 := 11) (off := 175) (pc' := 176) dX9_count_1 g24 (by decide) (by decide) rfl (by decide) ?_
                          refine S_aload_n 0 dX9_count_176 rfl rfl rfl ?_
                          refine S_geti 1 qC_9 (by decide) (by decide) qk_0 tw_382 dX9_count_177 rfl ?_
                          exact S_iret dX9_count_180
                        · refine S_ite (fun g25 => ?_) (fun g25 => ?_)
                          · refine S_tabIn (a0 := 12) (off := 180) (pc' := 181) dX9_count_1 g25 (by decide) (by decide) rfl (by decide) ?_
                            refine S_aload_n 0 dX9_count_181 rfl rfl rfl ?_
                            refine S_getr (j := 5) (o := 5) 4 qC_9 (by decide) (by decide) qk_0 rfl rfl (by decide) tw_385 dX9_count_182 rfl ?_
                            refine S_geti 16 qC_1 (by decide) (by decide) qk_5 tw_92 dX9_count_185 rfl ?_
                            exact S_iret dX9_count_188
                          · refine S_ite (fun g26 => ?_) (fun g26 => ?_)
                            · refine S_tabIn (a0 := 13) (off := 188) (pc' := 189) dX9_count_1 g26 (by decide) (by decide) rfl (by decide) ?_
                              refine S_aload_n 0 dX9_count_189 rfl rfl rfl ?_
                              refine S_getr (j := 5) (o := 5) 4 qC_9 (by decide) (by decide) qk_0 rfl rfl (by decide) tw_385 dX9_count_190 rfl ?_
                              refine S_geti 15 qC_1 (by decide) (by decide) qk_5 tw_90 dX9_count_193 rfl ?_
                              exact S_iret dX9_count_196
                            · refine S_tabOut (pc' := 197) dX9_count_1 (by omega) (by decide) ?_
                              refine S_iconst (a := (-1)) dX9_count_197 rfl (by decide) ?_
                              exact S_iret dX9_count_198
def DX9_current (a1 : Int) (a2 : Int) (h : qH) : Option (Int × qH) := (qbd (DX1_isCell 5 a1 h) fun r1 h2 => (if r1 = 0 then some ((-2), h2) else (if a2 < 0 then some ((-2), h2) else (if a2 < h2.1 5 13 then (qbd (DX1_currentAt 5 a1 a2 h2) fun r4 h5 => some (r4, h5)) else some ((-2), h2)))))
set_option maxRecDepth 100000 in
theorem TX9_current {L : Nat} {xs : Nat → Int32} (a1 : Int) (a2 : Int) (h : qH) : qMet L xs yX9_current cX9_current 3 (some .int) 1 3 [qr 0, qi a1, qi a2] h (DX9_current a1 a2 h) := by
  refine qMet.of (by decide +kernel) (Or.inr (Or.inl ⟨rfl, rfl⟩)) (Nat.le_of_ble_eq_true rfl) ?_
  show qS L xs cX9_current "BottlePost" 3 3 1 0 [(0, qr 0), (1, qi a1), (2, qi a2)] [] h (DX9_current a1 a2 h)
  unfold DX9_current
  refine S_aload_n 0 dX9_current_0 rfl rfl rfl ?_
  refine S_getr (j := 5) (o := 5) 4 qC_9 (by decide) (by decide) qk_0 rfl rfl (by decide) tw_385 dX9_current_1 rfl ?_
  refine S_iload_n 1 dX9_current_4 rfl rfl rfl ?_
  refine S_callV_i (as := [qi a1]) (st := []) (fun _ => rfl) (TX1_isCell 5 a1 qk_5 h) yv_X1_isCell tw_756 qC_1 qk_5 (by decide) rfl rfl (Nat.le_of_ble_eq_true rfl) dX9_current_5 rfl (fun r1 h2 e3 => ?_)
  refine S_if_eq (tgt := 26) dX9_current_8 (by decide) rfl (fun _ => ?_) (fun _ => ?_)
  · refine S_bipush (a := (-2)) dX9_current_26 rfl (by decide) (by decide) ?_
    exact S_iret dX9_current_28
  · refine S_iload_n 2 dX9_current_11 rfl rfl rfl ?_
    refine S_if_lt (tgt := 26) dX9_current_12 (by decide) rfl (fun _ => ?_) (fun _ => ?_)
    · refine S_bipush (a := (-2)) dX9_current_26 rfl (by decide) (by decide) ?_
      exact S_iret dX9_current_28
    · refine S_iload_n 2 dX9_current_15 rfl rfl rfl ?_
      refine S_aload_n 0 dX9_current_16 rfl rfl rfl ?_
      refine S_getr (j := 5) (o := 5) 4 qC_9 (by decide) (by decide) qk_0 rfl rfl (by decide) tw_385 dX9_current_17 rfl ?_
      refine S_geti 13 qC_1 (by decide) (by decide) qk_5 tw_81 dX9_current_20 rfl ?_
      refine S_icmp_lt (tgt := 29) dX9_current_23 (by decide) rfl (fun _ => ?_) (fun _ => ?_)
      · refine S_aload_n 0 dX9_current_29 rfl rfl rfl ?_
        refine S_getr (j := 5) (o := 5) 4 qC_9 (by decide) (by decide) qk_0 rfl rfl (by decide) tw_385 dX9_current_30 rfl ?_
        refine S_iload_n 1 dX9_current_33 rfl rfl rfl ?_
        refine S_iload_n 2 dX9_current_34 rfl rfl rfl ?_
        refine S_callV_i (as := [qi a1, qi a2]) (st := []) (fun _ => rfl) (TX1_currentAt 5 a1 a2 qk_5 h2) yv_X1_currentAt tw_781 qC_1 qk_5 (by decide) rfl rfl (Nat.le_of_ble_eq_true rfl) dX9_current_35 rfl (fun r4 h5 e6 => ?_)
        exact S_iret dX9_current_38
      · refine S_bipush (a := (-2)) dX9_current_26 rfl (by decide) (by decide) ?_
        exact S_iret dX9_current_28
def DX2_settle_b26 (k2 : Nat → Int → Int → qH → Option (Int × qH)) (i1 : Nat) (a2 : Int) (a3 : Int) (h : qH) : Option (Int × qH) := (qbd (DX2_carry i1 (qw (a2 + a3)) h) fun r1 h2 => (k2 i1 a2 (qw (a3 + 1)) h2))
set_option maxRecDepth 100000 in
theorem TX2_settle_b26 {L : Nat} {xs : Nat → Int32} (k2 : Nat → Int → Int → qH → Option (Int × qH)) (hk2 : ∀ (i1 : Nat) (a2 : Int) (a3 : Int) (t1 : qK i1 = (0, 8)) (h : qH), qS L xs cX2_settle "BottlePost$Drift" 4 6 1 2 [(0, qr 4), (1, qr i1), (2, qi a2), (3, qi a3)] [] h (k2 i1 a2 a3 h)) (i1 : Nat) (a2 : Int) (a3 : Int) (t1 : qK i1 = (0, 8)) (h : qH) : qS L xs cX2_settle "BottlePost$Drift" 4 6 1 26 [(0, qr 4), (1, qr i1), (2, qi a2), (3, qi a3)] [] h (DX2_settle_b26 k2 i1 a2 a3 h) := by
  unfold DX2_settle_b26
  refine S_aload_n 0 dX2_settle_26 rfl rfl rfl ?_
  refine S_aload_n 1 dX2_settle_27 rfl rfl rfl ?_
  refine S_iload_n 2 dX2_settle_28 rfl rfl rfl ?_
  refine S_iload_n 3 dX2_settle_29 rfl rfl rfl ?_
  refine S_iadd dX2_settle_30 rfl ?_
  refine S_callV_0 (as := [qr i1, qi (qw (a2 + a3))]) (st := []) (fun _ => rfl) (TX2_carry i1 (qw (a2 + a3)) t1 h) yv_X2_carry tw_996 qC_2 qk_4 (by decide) rfl rfl (Nat.le_of_ble_eq_true rfl) dX2_settle_31 rfl (fun r1 h2 e3 => ?_)
  refine S_iinc (lv' := [(3, qi (qw (a3 + 1))), (0, qr 4), (1, qr i1), (2, qi a2)]) 3 dX2_settle_34 rfl (by decide) rfl rfl ?_
  refine S_goto (pc' := 2) dX2_settle_37 (by decide) ?_
  refine S_sub [1, 2, 3, 0] rfl ?_
  exact hk2 i1 a2 (qw (a3 + 1)) t1 h2
def DX2_settle_l2 : Nat → Nat → Int → Int → qH → Option (Int × qH)
  | 0, _, _, _, _ => none
  | n + 1, i1, a2, a3, h => (if 200 ≤ a3 then (if h.1 i1 0 = 0 then some ((-1), h) else (if h.1 i1 0 = 1 then some ((-1), h) else some (200, h))) else (if h.1 i1 0 = 0 then (DX2_settle_b26 (DX2_settle_l2 n) i1 a2 a3 h) else (if h.1 i1 0 = 1 then (DX2_settle_b26 (DX2_settle_l2 n) i1 a2 a3 h) else some (a3, h))))
set_option maxRecDepth 100000 in
theorem TX2_settle_l2 {L : Nat} {xs : Nat → Int32} : ∀ (n : Nat) (i1 : Nat) (a2 : Int) (a3 : Int) (t1 : qK i1 = (0, 8)) (h : qH), qS L xs cX2_settle "BottlePost$Drift" 4 6 1 2 [(0, qr 4), (1, qr i1), (2, qi a2), (3, qi a3)] [] h (DX2_settle_l2 n i1 a2 a3 h) := by
  intro n
  induction n with
  | zero =>
    intro i1 a2 a3 t1 h
    exact S_none
  | succ n ih =>
    intro i1 a2 a3 t1 h
    rw [DX2_settle_l2.eq_2]
    refine S_iload_n 3 dX2_settle_2 rfl rfl rfl ?_
    refine S_sipush (a := 200) dX2_settle_3 rfl (by decide) (by decide) ?_
    refine S_icmp_ge (tgt := 40) dX2_settle_6 (by decide) rfl (fun _ => ?_) (fun _ => ?_)
    · refine S_aload_n 1 dX2_settle_40 rfl rfl rfl ?_
      refine S_geti 0 qC_0 (by decide) (by decide) t1 tw_193 dX2_settle_41 rfl ?_
      refine S_if_eq (tgt := 61) dX2_settle_44 (by decide) rfl (fun _ => ?_) (fun _ => ?_)
      · refine S_iconst (a := (-1)) dX2_settle_61 rfl (by decide) ?_
        exact S_iret dX2_settle_62
      · refine S_aload_n 1 dX2_settle_47 rfl rfl rfl ?_
        refine S_geti 0 qC_0 (by decide) (by decide) t1 tw_193 dX2_settle_48 rfl ?_
        refine S_iconst (a := 1) dX2_settle_51 rfl (by decide) ?_
        refine S_icmp_eq (tgt := 61) dX2_settle_52 (by decide) rfl (fun _ => ?_) (fun _ => ?_)
        · refine S_iconst (a := (-1)) dX2_settle_61 rfl (by decide) ?_
          exact S_iret dX2_settle_62
        · refine S_sipush (a := 200) dX2_settle_55 rfl (by decide) (by decide) ?_
          refine S_goto (pc' := 62) dX2_settle_58 (by decide) ?_
          exact S_iret dX2_settle_62
    · refine S_aload_n 1 dX2_settle_9 rfl rfl rfl ?_
      refine S_geti 0 qC_0 (by decide) (by decide) t1 tw_193 dX2_settle_10 rfl ?_
      refine S_if_eq (tgt := 26) dX2_settle_13 (by decide) rfl (fun _ => ?_) (fun _ => ?_)
      · exact TX2_settle_b26 (DX2_settle_l2 n) ih i1 a2 a3 t1 h
      · refine S_aload_n 1 dX2_settle_16 rfl rfl rfl ?_
        refine S_geti 0 qC_0 (by decide) (by decide) t1 tw_193 dX2_settle_17 rfl ?_
        refine S_iconst (a := 1) dX2_settle_20 rfl (by decide) ?_
        refine S_icmp_eq (tgt := 26) dX2_settle_21 (by decide) rfl (fun _ => ?_) (fun _ => ?_)
        · exact TX2_settle_b26 (DX2_settle_l2 n) ih i1 a2 a3 t1 h
        · refine S_iload_n 3 dX2_settle_24 rfl rfl rfl ?_
          exact S_iret dX2_settle_25
def DX2_settle (i1 : Nat) (a2 : Int) (h : qH) : Option (Int × qH) := (DX2_settle_l2 LF i1 a2 0 h)
set_option maxRecDepth 100000 in
theorem TX2_settle {L : Nat} {xs : Nat → Int32} (i1 : Nat) (a2 : Int) (t1 : qK i1 = (0, 8)) (h : qH) : qMet L xs yX2_settle cX2_settle 4 (some .int) 1 6 [qr 4, qr i1, qi a2] h (DX2_settle i1 a2 h) := by
  refine qMet.of (by decide +kernel) (Or.inr (Or.inl ⟨rfl, rfl⟩)) (Nat.le_of_ble_eq_true rfl) ?_
  show qS L xs cX2_settle "BottlePost$Drift" 4 6 1 0 [(0, qr 4), (1, qr i1), (2, qi a2)] [] h (DX2_settle i1 a2 h)
  unfold DX2_settle
  refine S_iconst (a := 0) dX2_settle_0 rfl (by decide) ?_
  refine S_istore_n (lv' := [(3, qi 0), (0, qr 4), (1, qr i1), (2, qi a2)]) dX2_settle_1 rfl (by decide) rfl rfl ?_
  refine S_sub [1, 2, 3, 0] rfl ?_
  exact TX2_settle_l2 LF i1 a2 0 t1 h
def DX9_deadly_l5 : Nat → Int → Int → Int → qH → Option (Int × qH)
  | 0, _, _, _, _ => none
  | n + 1, a1, a2, a4, h => (qbd (DX1_cells 5 h) fun r1 h2 => (if r1 ≤ a4 then some (a2, h2) else (qbd (DX1_isOpen 5 a4 h2) fun r4 h5 => (if r4 = 0 then ((DX9_deadly_l5 n) a1 a2 (qw (a4 + 1)) h5) else (qbd (DX0_launch 156 (-1) (-1) a1 a4 h5) fun r7 h8 => (qbd (DX2_settle 156 (h8.1 24 2) h8) fun r10 h11 => (if ¬ h11.1 156 0 = 3 then ((DX9_deadly_l5 n) a1 a2 (qw (a4 + 1)) h11) else (qlt (qorl a2 (qshll 1 a4)) fun v13 => ((DX9_deadly_l5 n) a1 v13 (qw (a4 + 1)) h11)))))))))
set_option maxRecDepth 100000 in
theorem TX9_deadly_l5 {L : Nat} {xs : Nat → Int32} : ∀ (n : Nat) (a1 : Int) (a2 : Int) (a4 : Int) (h : qH), qS L xs cX9_deadly "BottlePost" 5 7 2 5 [(0, qr 0), (1, qi a1), (2, ql a2), (4, qi a4)] [] h (DX9_deadly_l5 n a1 a2 a4 h) := by
  intro n
  induction n with
  | zero =>
    intro a1 a2 a4 h
    exact S_none
  | succ n ih =>
    intro a1 a2 a4 h
    rw [DX9_deadly_l5.eq_2]
    refine S_iload 3 dX9_deadly_5 rfl rfl ?_
    refine S_aload_n 0 dX9_deadly_7 rfl rfl rfl ?_
    refine S_getr (j := 5) (o := 5) 4 qC_9 (by decide) (by decide) qk_0 rfl rfl (by decide) tw_385 dX9_deadly_8 rfl ?_
    refine S_callV_i (as := []) (st := [qi a4]) (fun _ => rfl) (TX1_cells 5 qk_5 h) yv_X1_cells tw_1114 qC_1 qk_5 (by decide) rfl rfl (Nat.le_of_ble_eq_true rfl) dX9_deadly_11 rfl (fun r1 h2 e3 => ?_)
    refine S_icmp_ge (tgt := 84) dX9_deadly_14 (by decide) rfl (fun _ => ?_) (fun _ => ?_)
    · refine S_lload_n 2 dX9_deadly_84 rfl rfl rfl ?_
      exact S_lret dX9_deadly_85
    · refine S_aload_n 0 dX9_deadly_17 rfl rfl rfl ?_
      refine S_getr (j := 5) (o := 5) 4 qC_9 (by decide) (by decide) qk_0 rfl rfl (by decide) tw_385 dX9_deadly_18 rfl ?_
      refine S_iload 3 dX9_deadly_21 rfl rfl ?_
      refine S_callV_i (as := [qi a4]) (st := []) (fun _ => rfl) (TX1_isOpen 5 a4 qk_5 h2) yv_X1_isOpen tw_910 qC_1 qk_5 (by decide) rfl rfl (Nat.le_of_ble_eq_true rfl) dX9_deadly_23 rfl (fun r4 h5 e6 => ?_)
      refine S_if_eq (tgt := 78) dX9_deadly_26 (by decide) rfl (fun _ => ?_) (fun _ => ?_)
      · refine S_iinc (lv' := [(4, qi (qw (a4 + 1))), (0, qr 0), (1, qi a1), (2, ql a2)]) 3 dX9_deadly_78 rfl (by decide) rfl rfl ?_
        refine S_goto (pc' := 5) dX9_deadly_81 (by decide) ?_
        refine S_sub [1, 2, 3, 0] rfl ?_
        exact ih a1 a2 (qw (a4 + 1)) h5
      · refine S_aload_n 0 dX9_deadly_29 rfl rfl rfl ?_
        refine S_getr (j := 156) (o := 156) 8 qC_9 (by decide) (by decide) qk_0 rfl rfl (by decide) tw_389 dX9_deadly_30 rfl ?_
        refine S_iconst (a := (-1)) dX9_deadly_33 rfl (by decide) ?_
        refine S_iconst (a := (-1)) dX9_deadly_34 rfl (by decide) ?_
        refine S_iload_n 1 dX9_deadly_35 rfl rfl rfl ?_
        refine S_iload 3 dX9_deadly_36 rfl rfl ?_
        refine S_callV_0 (as := [qi (-1), qi (-1), qi a1, qi a4]) (st := []) (fun _ => rfl) (TX0_launch 156 (-1) (-1) a1 a4 qk_156 h5) yv_X0_launch tw_1133 qC_0 qk_156 (by decide) rfl rfl (Nat.le_of_ble_eq_true rfl) dX9_deadly_38 rfl (fun r7 h8 e9 => ?_)
        refine S_aload_n 0 dX9_deadly_41 rfl rfl rfl ?_
        refine S_getr (j := 4) (o := 4) 3 qC_9 (by decide) (by decide) qk_0 rfl rfl (by decide) tw_384 dX9_deadly_42 rfl ?_
        refine S_aload_n 0 dX9_deadly_45 rfl rfl rfl ?_
        refine S_getr (j := 156) (o := 156) 8 qC_9 (by decide) (by decide) qk_0 rfl rfl (by decide) tw_389 dX9_deadly_46 rfl ?_
        refine S_aload_n 0 dX9_deadly_49 rfl rfl rfl ?_
        refine S_getr (j := 24) (o := 24) 5 qC_9 (by decide) (by decide) qk_0 rfl rfl (by decide) tw_386 dX9_deadly_50 rfl ?_
        refine S_geti 2 qC_7 (by decide) (by decide) qk_24 tw_276 dX9_deadly_53 rfl ?_
        refine S_callV_i (as := [qr 156, qi (h8.1 24 2)]) (st := []) (fun _ => rfl) (TX2_settle 156 (h8.1 24 2) qk_156 h8) yv_X2_settle tw_992 qC_2 qk_4 (by decide) rfl rfl (Nat.le_of_ble_eq_true rfl) dX9_deadly_56 rfl (fun r10 h11 e12 => ?_)
        refine S_pop dX9_deadly_59 rfl rfl ?_
        refine S_aload_n 0 dX9_deadly_60 rfl rfl rfl ?_
        refine S_getr (j := 156) (o := 156) 8 qC_9 (by decide) (by decide) qk_0 rfl rfl (by decide) tw_389 dX9_deadly_61 rfl ?_
        refine S_geti 0 qC_0 (by decide) (by decide) qk_156 tw_195 dX9_deadly_64 rfl ?_
        refine S_iconst (a := 3) dX9_deadly_67 rfl (by decide) ?_
        refine S_icmp_ne (tgt := 78) dX9_deadly_68 (by decide) rfl (fun _ => ?_) (fun _ => ?_)
        · refine S_iinc (lv' := [(4, qi (qw (a4 + 1))), (0, qr 0), (1, qi a1), (2, ql a2)]) 3 dX9_deadly_78 rfl (by decide) rfl rfl ?_
          refine S_goto (pc' := 5) dX9_deadly_81 (by decide) ?_
          refine S_sub [1, 2, 3, 0] rfl ?_
          exact ih a1 a2 (qw (a4 + 1)) h11
        · refine S_lload_n 2 dX9_deadly_71 rfl rfl rfl ?_
          refine S_lconst (a := 1) dX9_deadly_72 rfl (by decide) (by decide) ?_
          refine S_iload 3 dX9_deadly_73 rfl rfl ?_
          refine S_lshl dX9_deadly_75 rfl ?_
          refine S_lor dX9_deadly_76 rfl ?_
          refine S_lstore_n (lv' := [(2, ql (qorl a2 (qshll 1 a4))), (0, qr 0), (1, qi a1), (4, qi a4)]) dX9_deadly_77 rfl (by decide) rfl rfl ?_
          refine S_lj (fun v13 => ?_)
          refine S_iinc (lv' := [(4, qi (qw (a4 + 1))), (2, ql v13), (0, qr 0), (1, qi a1)]) 3 dX9_deadly_78 rfl (by decide) rfl rfl ?_
          refine S_goto (pc' := 5) dX9_deadly_81 (by decide) ?_
          refine S_sub [2, 3, 1, 0] rfl ?_
          exact ih a1 v13 (qw (a4 + 1)) h11
def DX9_deadly (a1 : Int) (h : qH) : Option (Int × qH) := (DX9_deadly_l5 LF a1 0 0 h)
set_option maxRecDepth 100000 in
theorem TX9_deadly {L : Nat} {xs : Nat → Int32} (a1 : Int) (h : qH) : qMet L xs yX9_deadly cX9_deadly 5 (some .long) 2 7 [qr 0, qi a1] h (DX9_deadly a1 h) := by
  refine qMet.of (by decide +kernel) (Or.inr (Or.inr (Or.inl ⟨rfl, rfl⟩))) (Nat.le_of_ble_eq_true rfl) ?_
  show qS L xs cX9_deadly "BottlePost" 5 7 2 0 [(0, qr 0), (1, qi a1)] [] h (DX9_deadly a1 h)
  unfold DX9_deadly
  refine S_lconst (a := 0) dX9_deadly_0 rfl (by decide) (by decide) ?_
  refine S_lstore_n (lv' := [(2, ql 0), (0, qr 0), (1, qi a1)]) dX9_deadly_1 rfl (by decide) rfl rfl ?_
  refine S_iconst (a := 0) dX9_deadly_2 rfl (by decide) ?_
  refine S_istore (lv' := [(4, qi 0), (2, ql 0), (0, qr 0), (1, qi a1)]) dX9_deadly_3 (by decide) rfl rfl ?_
  refine S_sub [2, 3, 1, 0] rfl ?_
  exact TX9_deadly_l5 LF a1 0 0 h
