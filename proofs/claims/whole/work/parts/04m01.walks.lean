def DX1_isSpring (i0 : Nat) (a1 : Int) (h : qH) : Option (Int × qH) := (if h.1 i0 17 ≤ 0 then some (0, h) else (if h.1 i0 17 = 0 then none else (if h.1 i0 18 ≤ qrem a1 (h.1 i0 17) then some (0, h) else some (1, h))))
set_option maxRecDepth 100000 in
theorem TX1_isSpring {L : Nat} {xs : Nat → Int32} (i0 : Nat) (a1 : Int) (t0 : qK i0 = (1, 20)) (h : qH) : qMet L xs yX1_isSpring cX1_isSpring 2 (some .boolean) 4 1 [qr i0, qi a1] h (DX1_isSpring i0 a1 h) := by
  refine qMet.of (by decide +kernel) (Or.inr (Or.inr (Or.inr (Or.inr (Or.inl ⟨rfl, rfl⟩))))) (Nat.le_of_ble_eq_true rfl) ?_
  show qS L xs cX1_isSpring "BottlePost$Chart" 2 1 4 0 [(0, qr i0), (1, qi a1)] [] h (DX1_isSpring i0 a1 h)
  unfold DX1_isSpring
  refine S_aload_n 0 dX1_isSpring_0 rfl rfl rfl ?_
  refine S_geti 17 qC_1 (by decide) (by decide) t0 tw_94 dX1_isSpring_1 rfl ?_
  refine S_if_le (tgt := 24) dX1_isSpring_4 (by decide) rfl (fun _ => ?_) (fun _ => ?_)
  · refine S_iconst (a := 0) dX1_isSpring_24 rfl (by decide) ?_
    exact S_zretl (by decide) dX1_isSpring_25
  · refine S_iload_n 1 dX1_isSpring_7 rfl rfl rfl ?_
    refine S_aload_n 0 dX1_isSpring_8 rfl rfl rfl ?_
    refine S_geti 17 qC_1 (by decide) (by decide) t0 tw_94 dX1_isSpring_9 rfl ?_
    refine S_ite (fun _ => S_none) (fun gz => ?_)
    refine S_irem dX1_isSpring_12 rfl gz ?_
    refine S_aload_n 0 dX1_isSpring_13 rfl rfl rfl ?_
    refine S_geti 18 qC_1 (by decide) (by decide) t0 tw_96 dX1_isSpring_14 rfl ?_
    refine S_icmp_ge (tgt := 24) dX1_isSpring_17 (by decide) rfl (fun _ => ?_) (fun _ => ?_)
    · refine S_iconst (a := 0) dX1_isSpring_24 rfl (by decide) ?_
      exact S_zretl (by decide) dX1_isSpring_25
    · refine S_iconst (a := 1) dX1_isSpring_20 rfl (by decide) ?_
      refine S_goto (pc' := 25) dX1_isSpring_21 (by decide) ?_
      exact S_zretl (by decide) dX1_isSpring_25
def DX1_beside (i0 : Nat) (a1 : Int) (a2 : Int) (h : qH) : Option (Int × qH) := (if a1 < 0 then some ((-1), h) else (if qw (h.1 i0 11 * h.1 i0 12) ≤ a1 then some ((-1), h) else (if 0 < h.1 i0 11 then (if a2 = 1 then (if a1 < h.1 i0 11 then some ((-1), h) else some (qw (a1 - h.1 i0 11), h)) else (if a2 = 2 then (if h.1 i0 11 = 0 then none else (if qw (h.1 i0 11 - 1) ≤ qrem a1 (h.1 i0 11) then some ((-1), h) else some (qw (a1 + 1), h))) else (if a2 = 3 then (if qw (h.1 i0 11 * h.1 i0 12) ≤ qw (a1 + h.1 i0 11) then some ((-1), h) else some (qw (a1 + h.1 i0 11), h)) else (if a2 = 4 then (if h.1 i0 11 = 0 then none else (if qrem a1 (h.1 i0 11) ≤ 0 then some ((-1), h) else some (qw (a1 - 1), h))) else some ((-1), h))))) else some ((-1), h))))
set_option maxRecDepth 100000 in
theorem TX1_beside {L : Nat} {xs : Nat → Int32} (i0 : Nat) (a1 : Int) (a2 : Int) (t0 : qK i0 = (1, 20)) (h : qH) : qMet L xs yX1_beside cX1_beside 3 (some .int) 1 1 [qr i0, qi a1, qi a2] h (DX1_beside i0 a1 a2 h) := by
  refine qMet.of (by decide +kernel) (Or.inr (Or.inl ⟨rfl, rfl⟩)) (Nat.le_of_ble_eq_true rfl) ?_
  show qS L xs cX1_beside "BottlePost$Chart" 3 1 1 0 [(0, qr i0), (1, qi a1), (2, qi a2)] [] h (DX1_beside i0 a1 a2 h)
  unfold DX1_beside
  refine S_iload_n 1 dX1_beside_0 rfl rfl rfl ?_
  refine S_if_lt (tgt := 24) dX1_beside_1 (by decide) rfl (fun _ => ?_) (fun _ => ?_)
  · refine S_iconst (a := (-1)) dX1_beside_24 rfl (by decide) ?_
    exact S_iret dX1_beside_25
  · refine S_iload_n 1 dX1_beside_4 rfl rfl rfl ?_
    refine S_aload_n 0 dX1_beside_5 rfl rfl rfl ?_
    refine S_geti 11 qC_1 (by decide) (by decide) t0 tw_73 dX1_beside_6 rfl ?_
    refine S_aload_n 0 dX1_beside_9 rfl rfl rfl ?_
    refine S_geti 12 qC_1 (by decide) (by decide) t0 tw_77 dX1_beside_10 rfl ?_
    refine S_imul dX1_beside_13 rfl ?_
    refine S_icmp_ge (tgt := 24) dX1_beside_14 (by decide) rfl (fun _ => ?_) (fun _ => ?_)
    · refine S_iconst (a := (-1)) dX1_beside_24 rfl (by decide) ?_
      exact S_iret dX1_beside_25
    · refine S_aload_n 0 dX1_beside_17 rfl rfl rfl ?_
      refine S_geti 11 qC_1 (by decide) (by decide) t0 tw_73 dX1_beside_18 rfl ?_
      refine S_if_gt (tgt := 26) dX1_beside_21 (by decide) rfl (fun _ => ?_) (fun _ => ?_)
      · refine S_iload_n 2 dX1_beside_26 rfl rfl rfl ?_
        refine S_ite (fun g1 => ?_) (fun g1 => ?_)
        · refine S_tabIn (a0 := 1) (off := 29) (pc' := 56) dX1_beside_27 g1 (by decide) (by decide) rfl (by decide) ?_
          refine S_iload_n 1 dX1_beside_56 rfl rfl rfl ?_
          refine S_aload_n 0 dX1_beside_57 rfl rfl rfl ?_
          refine S_geti 11 qC_1 (by decide) (by decide) t0 tw_73 dX1_beside_58 rfl ?_
          refine S_icmp_lt (tgt := 73) dX1_beside_61 (by decide) rfl (fun _ => ?_) (fun _ => ?_)
          · refine S_iconst (a := (-1)) dX1_beside_73 rfl (by decide) ?_
            exact S_iret dX1_beside_74
          · refine S_iload_n 1 dX1_beside_64 rfl rfl rfl ?_
            refine S_aload_n 0 dX1_beside_65 rfl rfl rfl ?_
            refine S_geti 11 qC_1 (by decide) (by decide) t0 tw_73 dX1_beside_66 rfl ?_
            refine S_isub dX1_beside_69 rfl ?_
            refine S_goto (pc' := 74) dX1_beside_70 (by decide) ?_
            exact S_iret dX1_beside_74
        · refine S_ite (fun g2 => ?_) (fun g2 => ?_)
          · refine S_tabIn (a0 := 2) (off := 48) (pc' := 75) dX1_beside_27 g2 (by decide) (by decide) rfl (by decide) ?_
            refine S_iload_n 1 dX1_beside_75 rfl rfl rfl ?_
            refine S_aload_n 0 dX1_beside_76 rfl rfl rfl ?_
            refine S_geti 11 qC_1 (by decide) (by decide) t0 tw_73 dX1_beside_77 rfl ?_
            refine S_ite (fun _ => S_none) (fun gz => ?_)
            refine S_irem dX1_beside_80 rfl gz ?_
            refine S_aload_n 0 dX1_beside_81 rfl rfl rfl ?_
            refine S_geti 11 qC_1 (by decide) (by decide) t0 tw_73 dX1_beside_82 rfl ?_
            refine S_iconst (a := 1) dX1_beside_85 rfl (by decide) ?_
            refine S_isub dX1_beside_86 rfl ?_
            refine S_icmp_ge (tgt := 96) dX1_beside_87 (by decide) rfl (fun _ => ?_) (fun _ => ?_)
            · refine S_iconst (a := (-1)) dX1_beside_96 rfl (by decide) ?_
              exact S_iret dX1_beside_97
            · refine S_iload_n 1 dX1_beside_90 rfl rfl rfl ?_
              refine S_iconst (a := 1) dX1_beside_91 rfl (by decide) ?_
              refine S_iadd dX1_beside_92 rfl ?_
              refine S_goto (pc' := 97) dX1_beside_93 (by decide) ?_
              exact S_iret dX1_beside_97
          · refine S_ite (fun g3 => ?_) (fun g3 => ?_)
            · refine S_tabIn (a0 := 3) (off := 71) (pc' := 98) dX1_beside_27 g3 (by decide) (by decide) rfl (by decide) ?_
              refine S_iload_n 1 dX1_beside_98 rfl rfl rfl ?_
              refine S_aload_n 0 dX1_beside_99 rfl rfl rfl ?_
              refine S_geti 11 qC_1 (by decide) (by decide) t0 tw_73 dX1_beside_100 rfl ?_
              refine S_iadd dX1_beside_103 rfl ?_
              refine S_aload_n 0 dX1_beside_104 rfl rfl rfl ?_
              refine S_geti 11 qC_1 (by decide) (by decide) t0 tw_73 dX1_beside_105 rfl ?_
              refine S_aload_n 0 dX1_beside_108 rfl rfl rfl ?_
              refine S_geti 12 qC_1 (by decide) (by decide) t0 tw_77 dX1_beside_109 rfl ?_
              refine S_imul dX1_beside_112 rfl ?_
              refine S_icmp_ge (tgt := 125) dX1_beside_113 (by decide) rfl (fun _ => ?_) (fun _ => ?_)
              · refine S_iconst (a := (-1)) dX1_beside_125 rfl (by decide) ?_
                exact S_iret dX1_beside_126
              · refine S_iload_n 1 dX1_beside_116 rfl rfl rfl ?_
                refine S_aload_n 0 dX1_beside_117 rfl rfl rfl ?_
                refine S_geti 11 qC_1 (by decide) (by decide) t0 tw_73 dX1_beside_118 rfl ?_
                refine S_iadd dX1_beside_121 rfl ?_
                refine S_goto (pc' := 126) dX1_beside_122 (by decide) ?_
                exact S_iret dX1_beside_126
            · refine S_ite (fun g4 => ?_) (fun g4 => ?_)
              · refine S_tabIn (a0 := 4) (off := 100) (pc' := 127) dX1_beside_27 g4 (by decide) (by decide) rfl (by decide) ?_
                refine S_iload_n 1 dX1_beside_127 rfl rfl rfl ?_
                refine S_aload_n 0 dX1_beside_128 rfl rfl rfl ?_
                refine S_geti 11 qC_1 (by decide) (by decide) t0 tw_73 dX1_beside_129 rfl ?_
                refine S_ite (fun _ => S_none) (fun gz => ?_)
                refine S_irem dX1_beside_132 rfl gz ?_
                refine S_if_le (tgt := 142) dX1_beside_133 (by decide) rfl (fun _ => ?_) (fun _ => ?_)
                · refine S_iconst (a := (-1)) dX1_beside_142 rfl (by decide) ?_
                  exact S_iret dX1_beside_143
                · refine S_iload_n 1 dX1_beside_136 rfl rfl rfl ?_
                  refine S_iconst (a := 1) dX1_beside_137 rfl (by decide) ?_
                  refine S_isub dX1_beside_138 rfl ?_
                  refine S_goto (pc' := 143) dX1_beside_139 (by decide) ?_
                  exact S_iret dX1_beside_143
              · refine S_tabOut (pc' := 144) dX1_beside_27 (by omega) (by decide) ?_
                refine S_iconst (a := (-1)) dX1_beside_144 rfl (by decide) ?_
                exact S_iret dX1_beside_145
      · refine S_iconst (a := (-1)) dX1_beside_24 rfl (by decide) ?_
        exact S_iret dX1_beside_25
def DX2_step (i1 : Nat) (a2 : Int) (h : qH) : Option (Int × qH) := (qbd (DX1_beside 5 (h.1 i1 1) a2 h) fun r1 h2 => (qbd (DX1_isCell 5 r1 h2) fun r4 h5 => (if ¬ r4 = 0 then (qlt (qu h5 i1 1 r1) fun h7 => (if 0 ≤ r1 ∧ r1 < 36 then (if ¬ h7.1 6 r1.toNat = 1 then (if 0 ≤ r1 ∧ r1 < 36 then (if h7.1 6 r1.toNat < 10 then some (0, h7) else (qlt (qu h7 i1 0 1) fun h12 => some (0, h12))) else none) else (qlt (qu h7 i1 0 3) fun h13 => some (0, h13))) else none)) else some (0, h5))))
set_option maxRecDepth 100000 in
theorem TX2_step {L : Nat} {xs : Nat → Int32} (i1 : Nat) (a2 : Int) (t1 : qK i1 = (0, 8)) (h : qH) : qMet L xs yX2_step cX2_step 4 (none) 0 2 [qr 4, qr i1, qi a2] h (DX2_step i1 a2 h) := by
  refine qMet.of (by decide +kernel) (Or.inl ⟨rfl, rfl⟩) (Nat.le_of_ble_eq_true rfl) ?_
  show qS L xs cX2_step "BottlePost$Drift" 4 2 0 0 [(0, qr 4), (1, qr i1), (2, qi a2)] [] h (DX2_step i1 a2 h)
  unfold DX2_step
  refine S_aload_n 0 dX2_step_0 rfl rfl rfl ?_
  refine S_getr (j := 5) (o := 1) 0 qC_2 (by decide) (by decide) qk_4 rfl rfl (by decide) tw_236 dX2_step_1 rfl ?_
  refine S_aload_n 1 dX2_step_4 rfl rfl rfl ?_
  refine S_geti 1 qC_0 (by decide) (by decide) t1 tw_197 dX2_step_5 rfl ?_
  refine S_iload_n 2 dX2_step_8 rfl rfl rfl ?_
  refine S_callV_i (as := [qi (h.1 i1 1), qi a2]) (st := []) (fun _ => rfl) (TX1_beside 5 (h.1 i1 1) a2 qk_5 h) yv_X1_beside tw_890 qC_1 qk_5 (by decide) rfl rfl (Nat.le_of_ble_eq_true rfl) dX2_step_9 rfl (fun r1 h2 e3 => ?_)
  refine S_istore_n (lv' := [(3, qi r1), (0, qr 4), (1, qr i1), (2, qi a2)]) dX2_step_12 rfl (by decide) rfl rfl ?_
  refine S_aload_n 1 dX2_step_13 rfl rfl rfl ?_
  refine S_getr (j := 5) (o := 1) 0 qC_2 (by decide) (by decide) qk_4 rfl rfl (by decide) tw_236 dX2_step_14 rfl ?_
  refine S_iload_n 0 dX2_step_17 rfl rfl rfl ?_
  refine S_callV_i (as := [qi r1]) (st := []) (fun _ => rfl) (TX1_isCell 5 r1 qk_5 h2) yv_X1_isCell tw_794 qC_1 qk_5 (by decide) rfl rfl (Nat.le_of_ble_eq_true rfl) dX2_step_18 rfl (fun r4 h5 e6 => ?_)
  refine S_if_ne (tgt := 25) dX2_step_21 (by decide) rfl (fun _ => ?_) (fun _ => ?_)
  · refine S_aload_n 2 dX2_step_25 rfl rfl rfl ?_
    refine S_iload_n 0 dX2_step_26 rfl rfl rfl ?_
    refine S_puti 1 qC_0 (by decide) (by decide) rfl rfl t1 (by decide) tw_197 dX2_step_27 rfl ?_
    refine S_lh (fun h7 => ?_)
    refine S_aload_n 1 dX2_step_30 rfl rfl rfl ?_
    refine S_getr (j := 5) (o := 1) 0 qC_2 (by decide) (by decide) qk_4 rfl rfl (by decide) tw_236 dX2_step_31 rfl ?_
    refine S_getr (j := 6) (o := 1) 0 qC_1 (by decide) (by decide) qk_5 rfl rfl (by decide) tw_43 dX2_step_34 rfl ?_
    refine S_iload_n 0 dX2_step_37 rfl rfl rfl ?_
    refine S_iald (N := 36) qk_6 rfl dX2_step_38 rfl (fun g8 g9 => ?_)
    refine S_iconst (a := 1) dX2_step_39 rfl (by decide) ?_
    refine S_icmp_ne (tgt := 51) dX2_step_40 (by decide) rfl (fun _ => ?_) (fun _ => ?_)
    · refine S_aload_n 1 dX2_step_51 rfl rfl rfl ?_
      refine S_getr (j := 5) (o := 1) 0 qC_2 (by decide) (by decide) qk_4 rfl rfl (by decide) tw_236 dX2_step_52 rfl ?_
      refine S_getr (j := 6) (o := 1) 0 qC_1 (by decide) (by decide) qk_5 rfl rfl (by decide) tw_43 dX2_step_55 rfl ?_
      refine S_iload_n 0 dX2_step_58 rfl rfl rfl ?_
      refine S_iald (N := 36) qk_6 rfl dX2_step_59 rfl (fun g10 g11 => ?_)
      refine S_bipush (a := 10) dX2_step_60 rfl (by decide) (by decide) ?_
      refine S_icmp_lt (tgt := 70) dX2_step_62 (by decide) rfl (fun _ => ?_) (fun _ => ?_)
      · exact S_vret dX2_step_70
      · refine S_aload_n 2 dX2_step_65 rfl rfl rfl ?_
        refine S_iconst (a := 1) dX2_step_66 rfl (by decide) ?_
        refine S_puti 0 qC_0 (by decide) (by decide) rfl rfl t1 (by decide) tw_193 dX2_step_67 rfl ?_
        refine S_lh (fun h12 => ?_)
        exact S_vret dX2_step_70
    · refine S_aload_n 2 dX2_step_43 rfl rfl rfl ?_
      refine S_iconst (a := 3) dX2_step_44 rfl (by decide) ?_
      refine S_puti 0 qC_0 (by decide) (by decide) rfl rfl t1 (by decide) tw_193 dX2_step_45 rfl ?_
      refine S_lh (fun h13 => ?_)
      refine S_goto (pc' := 70) dX2_step_48 (by decide) ?_
      exact S_vret dX2_step_70
  · exact S_vret dX2_step_24
def DJ9_floorMod_7cf53 (a0 : Int) (a1 : Int) (h : qH) : Option (Int × qH) := (if a1 = 0 then none else (qlt (qrem a0 a1) fun v1 => (if 0 ≤ qxor a0 a1 then some (v1, h) else (if v1 = 0 then some (v1, h) else some (qw (v1 + a1), h)))))
set_option maxRecDepth 100000 in
theorem TJ9_floorMod_7cf53 {L : Nat} {xs : Nat → Int32} (a0 : Int) (a1 : Int) (h : qH) : qMet L xs yJ9_floorMod_7cf53 cJ9_floorMod_7cf53 3 (some .int) 1 1 [qi a0, qi a1] h (DJ9_floorMod_7cf53 a0 a1 h) := by
  refine qMet.ofF (by decide +kernel) (Or.inr (Or.inl ⟨rfl, rfl⟩)) (Nat.le_of_ble_eq_true rfl) ?_
  show qS L xs cJ9_floorMod_7cf53 "java/lang/Math" 3 1 1 0 [(0, qi a0), (1, qi a1)] [] h (DJ9_floorMod_7cf53 a0 a1 h)
  unfold DJ9_floorMod_7cf53
  refine S_iload_n 0 dJ9_floorMod_7cf53_0 rfl rfl rfl ?_
  refine S_iload_n 1 dJ9_floorMod_7cf53_1 rfl rfl rfl ?_
  refine S_ite (fun _ => S_none) (fun gz => ?_)
  refine S_irem dJ9_floorMod_7cf53_2 rfl gz ?_
  refine S_istore_n (lv' := [(2, qi (qrem a0 a1)), (0, qi a0), (1, qi a1)]) dJ9_floorMod_7cf53_3 rfl (by decide) rfl rfl ?_
  refine S_li (fun v1 => ?_)
  refine S_iload_n 1 dJ9_floorMod_7cf53_4 rfl rfl rfl ?_
  refine S_iload_n 2 dJ9_floorMod_7cf53_5 rfl rfl rfl ?_
  refine S_ixor dJ9_floorMod_7cf53_6 rfl ?_
  refine S_if_ge (tgt := 18) dJ9_floorMod_7cf53_7 (by decide) rfl (fun _ => ?_) (fun _ => ?_)
  · refine S_iload_n 0 dJ9_floorMod_7cf53_18 rfl rfl rfl ?_
    exact S_iret dJ9_floorMod_7cf53_19
  · refine S_iload_n 0 dJ9_floorMod_7cf53_10 rfl rfl rfl ?_
    refine S_if_eq (tgt := 18) dJ9_floorMod_7cf53_11 (by decide) rfl (fun _ => ?_) (fun _ => ?_)
    · refine S_iload_n 0 dJ9_floorMod_7cf53_18 rfl rfl rfl ?_
      exact S_iret dJ9_floorMod_7cf53_19
    · refine S_iload_n 0 dJ9_floorMod_7cf53_14 rfl rfl rfl ?_
      refine S_iload_n 2 dJ9_floorMod_7cf53_15 rfl rfl rfl ?_
      refine S_iadd dJ9_floorMod_7cf53_16 rfl ?_
      exact S_iret dJ9_floorMod_7cf53_17
def DX2_windAt_b56 (a1 : Int) (a2 : Int) (h : qH) : Option (Int × qH) := (qbd (DX1_phaseOf 5 a2 h) fun r1 h2 => (qbd (DX1_moonOf 5 a2 h2) fun r4 h5 => (qlt (qw (qw (qw (qw (a1 * 6) + r1) * 30) + r4)) fun v7 => (if v7 < 0 then some (0, h5) else (if h5.2.1 = true then (if v7 < 6480 then (if h5.2.1 = true then (if 0 ≤ v7 ∧ v7 < 6480 then (if ¬ h5.1 225 v7.toNat = 0 then (if h5.2.1 = true then (if 0 ≤ v7 ∧ v7 < 6480 then some (qw (h5.1 225 v7.toNat - 1), h5) else none) else none) else (if h5.1 5 11 = 0 then none else (qlt (qu h5 14 0 (qrem a1 (h5.1 5 11))) fun h12 => (if h12.1 5 11 = 0 then none else (qlt (qu h12 14 1 (qdiv a1 (h12.1 5 11))) fun h13 => (qlt (qu h13 14 2 r1) fun h14 => (qlt (qu h14 14 3 r4) fun h15 => (qbd (DX2_lawSays (h15.1 5 7) (h15.1 5 8) h15) fun r16 h17 => (qbd (DJ9_floorMod_7cf53 r16 5 h17) fun r19 h20 => (if h20.2.1 = true then (if 0 ≤ v7 ∧ v7 < 6480 then qlt (qu h20 225 v7.toNat (qb8 (qb8 (qw (r19 + 1))))) fun h22 => (if h22.2.1 = true then (if 0 ≤ v7 ∧ v7 < 6480 then some (qw (h22.1 225 v7.toNat - 1), h22) else none) else none) else none) else none)))))))))) else none) else none) else some (0, h5)) else none)))))
set_option maxRecDepth 100000 in
theorem TX2_windAt_b56 {L : Nat} {xs : Nat → Int32} (a1 : Int) (a2 : Int) (h : qH) : qS L xs cX2_windAt "BottlePost$Drift" 7 3 1 56 [(0, qr 4), (1, qi a1), (2, qi a2)] [] h (DX2_windAt_b56 a1 a2 h) := by
  unfold DX2_windAt_b56
  refine S_aload_n 0 dX2_windAt_56 rfl rfl rfl ?_
  refine S_getr (j := 5) (o := 1) 0 qC_2 (by decide) (by decide) qk_4 rfl rfl (by decide) tw_236 dX2_windAt_57 rfl ?_
  refine S_iload_n 2 dX2_windAt_60 rfl rfl rfl ?_
  refine S_callV_i (as := [qi a2]) (st := []) (fun _ => rfl) (TX1_phaseOf 5 a2 qk_5 h) yv_X1_phaseOf tw_795 qC_1 qk_5 (by decide) rfl rfl (Nat.le_of_ble_eq_true rfl) dX2_windAt_61 rfl (fun r1 h2 e3 => ?_)
  refine S_istore_n (lv' := [(3, qi r1), (0, qr 4), (1, qi a1), (2, qi a2)]) dX2_windAt_64 rfl (by decide) rfl rfl ?_
  refine S_aload_n 1 dX2_windAt_65 rfl rfl rfl ?_
  refine S_getr (j := 5) (o := 1) 0 qC_2 (by decide) (by decide) qk_4 rfl rfl (by decide) tw_236 dX2_windAt_66 rfl ?_
  refine S_iload_n 3 dX2_windAt_69 rfl rfl rfl ?_
  refine S_callV_i (as := [qi a2]) (st := []) (fun _ => rfl) (TX1_moonOf 5 a2 qk_5 h2) yv_X1_moonOf tw_799 qC_1 qk_5 (by decide) rfl rfl (Nat.le_of_ble_eq_true rfl) dX2_windAt_70 rfl (fun r4 h5 e6 => ?_)
  refine S_istore (lv' := [(4, qi r4), (3, qi r1), (0, qr 4), (1, qi a1), (2, qi a2)]) dX2_windAt_73 (by decide) rfl rfl ?_
  refine S_iload_n 3 dX2_windAt_75 rfl rfl rfl ?_
  refine S_bipush (a := 6) dX2_windAt_76 rfl (by decide) (by decide) ?_
  refine S_imul dX2_windAt_78 rfl ?_
  refine S_iload_n 1 dX2_windAt_79 rfl rfl rfl ?_
  refine S_iadd dX2_windAt_80 rfl ?_
  refine S_bipush (a := 30) dX2_windAt_81 rfl (by decide) (by decide) ?_
  refine S_imul dX2_windAt_83 rfl ?_
  refine S_iload 0 dX2_windAt_84 rfl rfl ?_
  refine S_iadd dX2_windAt_86 rfl ?_
  refine S_istore (lv' := [(5, qi (qw (qw (qw (qw (a1 * 6) + r1) * 30) + r4))), (4, qi r4), (3, qi r1), (0, qr 4), (1, qi a1), (2, qi a2)]) dX2_windAt_87 (by decide) rfl rfl ?_
  refine S_li (fun v7 => ?_)
  refine S_iload 0 dX2_windAt_89 rfl rfl ?_
  refine S_if_lt (tgt := 104) dX2_windAt_91 (by decide) rfl (fun _ => ?_) (fun _ => ?_)
  · refine S_iconst (a := 0) dX2_windAt_104 rfl (by decide) ?_
    exact S_iret dX2_windAt_105
  · refine S_iload 0 dX2_windAt_94 rfl rfl ?_
    refine S_aload_n 3 dX2_windAt_96 rfl rfl rfl ?_
    refine S_getw qC_2 tw_243 dX2_windAt_97 rfl (fun gf => ?_) (fun _ => S_none)
    refine S_alen (N := 6480) qk_225 (by decide) (by decide) rfl (by decide) dX2_windAt_100 rfl ?_
    refine S_icmp_lt (tgt := 106) dX2_windAt_101 (by decide) rfl (fun _ => ?_) (fun _ => ?_)
    · refine S_aload_n 3 dX2_windAt_106 rfl rfl rfl ?_
      refine S_getw qC_2 tw_243 dX2_windAt_107 rfl (fun gf => ?_) (fun _ => S_none)
      refine S_iload 0 dX2_windAt_110 rfl rfl ?_
      refine S_bald (N := 6480) qk_225 rfl dX2_windAt_112 rfl (fun g8 g9 => ?_)
      refine S_if_ne (tgt := 197) dX2_windAt_113 (by decide) rfl (fun _ => ?_) (fun _ => ?_)
      · refine S_aload_n 3 dX2_windAt_197 rfl rfl rfl ?_
        refine S_getw qC_2 tw_243 dX2_windAt_198 rfl (fun gf => ?_) (fun _ => S_none)
        refine S_iload 0 dX2_windAt_201 rfl rfl ?_
        refine S_bald (N := 6480) qk_225 rfl dX2_windAt_203 rfl (fun g10 g11 => ?_)
        refine S_iconst (a := 1) dX2_windAt_204 rfl (by decide) ?_
        refine S_isub dX2_windAt_205 rfl ?_
        exact S_iret dX2_windAt_206
      · refine S_aload_n 3 dX2_windAt_116 rfl rfl rfl ?_
        refine S_getr (j := 14) (o := 10) 2 qC_2 (by decide) (by decide) qk_4 rfl rfl (by decide) tw_241 dX2_windAt_117 rfl ?_
        refine S_iconst (a := 0) dX2_windAt_120 rfl (by decide) ?_
        refine S_iload_n 4 dX2_windAt_121 rfl rfl rfl ?_
        refine S_aload_n 3 dX2_windAt_122 rfl rfl rfl ?_
        refine S_getr (j := 5) (o := 1) 0 qC_2 (by decide) (by decide) qk_4 rfl rfl (by decide) tw_236 dX2_windAt_123 rfl ?_
        refine S_geti 11 qC_1 (by decide) (by decide) qk_5 tw_74 dX2_windAt_126 rfl ?_
        refine S_ite (fun _ => S_none) (fun gz => ?_)
        refine S_irem dX2_windAt_129 rfl gz ?_
        refine S_pick_t ((0 : Int) ≤ 0 ∧ (0 : Int) < 7) (by decide) ?_
        refine S_iast (N := 7) qk_14 rfl dX2_windAt_130 rfl (fun _ _ => ?_)
        refine S_lh (fun h12 => ?_)
        refine S_aload_n 3 dX2_windAt_131 rfl rfl rfl ?_
        refine S_getr (j := 14) (o := 10) 2 qC_2 (by decide) (by decide) qk_4 rfl rfl (by decide) tw_241 dX2_windAt_132 rfl ?_
        refine S_iconst (a := 1) dX2_windAt_135 rfl (by decide) ?_
        refine S_iload_n 4 dX2_windAt_136 rfl rfl rfl ?_
        refine S_aload_n 3 dX2_windAt_137 rfl rfl rfl ?_
        refine S_getr (j := 5) (o := 1) 0 qC_2 (by decide) (by decide) qk_4 rfl rfl (by decide) tw_236 dX2_windAt_138 rfl ?_
        refine S_geti 11 qC_1 (by decide) (by decide) qk_5 tw_74 dX2_windAt_141 rfl ?_
        refine S_ite (fun _ => S_none) (fun gz => ?_)
        refine S_idiv dX2_windAt_144 rfl gz ?_
        refine S_pick_t ((0 : Int) ≤ 1 ∧ (1 : Int) < 7) (by decide) ?_
        refine S_iast (N := 7) qk_14 rfl dX2_windAt_145 rfl (fun _ _ => ?_)
        refine S_lh (fun h13 => ?_)
        refine S_aload_n 3 dX2_windAt_146 rfl rfl rfl ?_
        refine S_getr (j := 14) (o := 10) 2 qC_2 (by decide) (by decide) qk_4 rfl rfl (by decide) tw_241 dX2_windAt_147 rfl ?_
        refine S_iconst (a := 2) dX2_windAt_150 rfl (by decide) ?_
        refine S_iload_n 2 dX2_windAt_151 rfl rfl rfl ?_
        refine S_pick_t ((0 : Int) ≤ 2 ∧ (2 : Int) < 7) (by decide) ?_
        refine S_iast (N := 7) qk_14 rfl dX2_windAt_152 rfl (fun _ _ => ?_)
        refine S_lh (fun h14 => ?_)
        refine S_aload_n 3 dX2_windAt_153 rfl rfl rfl ?_
        refine S_getr (j := 14) (o := 10) 2 qC_2 (by decide) (by decide) qk_4 rfl rfl (by decide) tw_241 dX2_windAt_154 rfl ?_
        refine S_iconst (a := 3) dX2_windAt_157 rfl (by decide) ?_
        refine S_iload 1 dX2_windAt_158 rfl rfl ?_
        refine S_pick_t ((0 : Int) ≤ 3 ∧ (3 : Int) < 7) (by decide) ?_
        refine S_iast (N := 7) qk_14 rfl dX2_windAt_160 rfl (fun _ _ => ?_)
        refine S_lh (fun h15 => ?_)
        refine S_aload_n 3 dX2_windAt_161 rfl rfl rfl ?_
        refine S_aload_n 3 dX2_windAt_162 rfl rfl rfl ?_
        refine S_getr (j := 5) (o := 1) 0 qC_2 (by decide) (by decide) qk_4 rfl rfl (by decide) tw_236 dX2_windAt_163 rfl ?_
        refine S_geti 7 qC_1 (by decide) (by decide) qk_5 tw_62 dX2_windAt_166 rfl ?_
        refine S_aload_n 3 dX2_windAt_169 rfl rfl rfl ?_
        refine S_getr (j := 5) (o := 1) 0 qC_2 (by decide) (by decide) qk_4 rfl rfl (by decide) tw_236 dX2_windAt_170 rfl ?_
        refine S_geti 8 qC_1 (by decide) (by decide) qk_5 tw_65 dX2_windAt_173 rfl ?_
        refine S_callV_i (as := [qi (h15.1 5 7), qi (h15.1 5 8)]) (st := []) (fun _ => rfl) (TX2_lawSays (h15.1 5 7) (h15.1 5 8) h15) yv_X2_lawSays tw_803 qC_2 qk_4 (by decide) rfl rfl (Nat.le_of_ble_eq_true rfl) dX2_windAt_176 rfl (fun r16 h17 e18 => ?_)
        refine S_iconst (a := 5) dX2_windAt_179 rfl (by decide) ?_
        refine S_callS_i (as := [qi r16, qi 5]) (st := []) (fun _ => rfl) (TJ9_floorMod_7cf53 r16 5 h17) yv_J9_floorMod_7cf53 tw_815 (by decide) rfl rfl (Nat.le_of_ble_eq_true rfl) dX2_windAt_180 rfl (fun r19 h20 e21 => ?_)
        refine S_istore (lv' := [(6, qi r19), (5, qi v7), (4, qi r4), (3, qi r1), (0, qr 4), (1, qi a1), (2, qi a2)]) dX2_windAt_183 (by decide) rfl rfl ?_
        refine S_aload_n 4 dX2_windAt_185 rfl rfl rfl ?_
        refine S_getw qC_2 tw_243 dX2_windAt_186 rfl (fun gf => ?_) (fun _ => S_none)
        refine S_iload 1 dX2_windAt_189 rfl rfl ?_
        refine S_iload 0 dX2_windAt_191 rfl rfl ?_
        refine S_iconst (a := 1) dX2_windAt_193 rfl (by decide) ?_
        refine S_iadd dX2_windAt_194 rfl ?_
        refine S_i2b dX2_windAt_195 rfl ?_
        refine S_bast (N := 6480) qk_225 rfl dX2_windAt_196 rfl (fun _ _ => ?_)
        refine S_lh (fun h22 => ?_)
        refine S_aload_n 4 dX2_windAt_197 rfl rfl rfl ?_
        refine S_getw qC_2 tw_243 dX2_windAt_198 rfl (fun gf => ?_) (fun _ => S_none)
        refine S_iload 1 dX2_windAt_201 rfl rfl ?_
        refine S_bald (N := 6480) qk_225 rfl dX2_windAt_203 rfl (fun g23 g24 => ?_)
        refine S_iconst (a := 1) dX2_windAt_204 rfl (by decide) ?_
        refine S_isub dX2_windAt_205 rfl ?_
        exact S_iret dX2_windAt_206
    · refine S_iconst (a := 0) dX2_windAt_104 rfl (by decide) ?_
      exact S_iret dX2_windAt_105
def DX2_windAt (a1 : Int) (a2 : Int) (h : qH) : Option (Int × qH) := (qbd (DX1_isCell 5 a1 h) fun r25 h26 => (if r25 = 0 then some (0, h26) else (if h26.1 5 11 ≤ 0 then some (0, h26) else (if h26.1 5 7 < h26.1 5 8 then (if h26.2.1 = true then (DX2_windAt_b56 a1 a2 h26) else (if h26.2.1 = true then none else qlt (qalw h26) fun h28 => (DX2_windAt_b56 a1 a2 h28))) else some (0, h26)))))
set_option maxRecDepth 100000 in
theorem TX2_windAt {L : Nat} {xs : Nat → Int32} (a1 : Int) (a2 : Int) (h : qH) : qMet L xs yX2_windAt cX2_windAt 7 (some .int) 1 3 [qr 4, qi a1, qi a2] h (DX2_windAt a1 a2 h) := by
  refine qMet.of (by decide +kernel) (Or.inr (Or.inl ⟨rfl, rfl⟩)) (Nat.le_of_ble_eq_true rfl) ?_
  show qS L xs cX2_windAt "BottlePost$Drift" 7 3 1 0 [(0, qr 4), (1, qi a1), (2, qi a2)] [] h (DX2_windAt a1 a2 h)
  unfold DX2_windAt
  refine S_aload_n 0 dX2_windAt_0 rfl rfl rfl ?_
  refine S_getr (j := 5) (o := 1) 0 qC_2 (by decide) (by decide) qk_4 rfl rfl (by decide) tw_236 dX2_windAt_1 rfl ?_
  refine S_iload_n 1 dX2_windAt_4 rfl rfl rfl ?_
  refine S_callV_i (as := [qi a1]) (st := []) (fun _ => rfl) (TX1_isCell 5 a1 qk_5 h) yv_X1_isCell tw_794 qC_1 qk_5 (by decide) rfl rfl (Nat.le_of_ble_eq_true rfl) dX2_windAt_5 rfl (fun r25 h26 e27 => ?_)
  refine S_if_eq (tgt := 38) dX2_windAt_8 (by decide) rfl (fun _ => ?_) (fun _ => ?_)
  · refine S_iconst (a := 0) dX2_windAt_38 rfl (by decide) ?_
    exact S_iret dX2_windAt_39
  · refine S_aload_n 0 dX2_windAt_11 rfl rfl rfl ?_
    refine S_getr (j := 5) (o := 1) 0 qC_2 (by decide) (by decide) qk_4 rfl rfl (by decide) tw_236 dX2_windAt_12 rfl ?_
    refine S_geti 11 qC_1 (by decide) (by decide) qk_5 tw_74 dX2_windAt_15 rfl ?_
    refine S_if_le (tgt := 38) dX2_windAt_18 (by decide) rfl (fun _ => ?_) (fun _ => ?_)
    · refine S_iconst (a := 0) dX2_windAt_38 rfl (by decide) ?_
      exact S_iret dX2_windAt_39
    · refine S_aload_n 0 dX2_windAt_21 rfl rfl rfl ?_
      refine S_getr (j := 5) (o := 1) 0 qC_2 (by decide) (by decide) qk_4 rfl rfl (by decide) tw_236 dX2_windAt_22 rfl ?_
      refine S_geti 7 qC_1 (by decide) (by decide) qk_5 tw_62 dX2_windAt_25 rfl ?_
      refine S_aload_n 0 dX2_windAt_28 rfl rfl rfl ?_
      refine S_getr (j := 5) (o := 1) 0 qC_2 (by decide) (by decide) qk_4 rfl rfl (by decide) tw_236 dX2_windAt_29 rfl ?_
      refine S_geti 8 qC_1 (by decide) (by decide) qk_5 tw_65 dX2_windAt_32 rfl ?_
      refine S_icmp_lt (tgt := 40) dX2_windAt_35 (by decide) rfl (fun _ => ?_) (fun _ => ?_)
      · refine S_aload_n 0 dX2_windAt_40 rfl rfl rfl ?_
        refine S_getw qC_2 tw_243 dX2_windAt_41 rfl (fun gf => ?_) (fun gf => ?_)
        · refine S_ifnonnull_r (pc' := 56) dX2_windAt_44 (by decide) ?_
          exact TX2_windAt_b56 a1 a2 h26
        · refine S_ifnonnull_n dX2_windAt_44 rfl ?_
          refine S_aload_n 0 dX2_windAt_47 rfl rfl rfl ?_
          refine S_sipush (a := 6480) dX2_windAt_48 rfl (by decide) (by decide) ?_
          refine S_ite (fun _ => S_none) (fun gf => ?_)
          refine S_alw gf qC_2 tw_243 dX2_windAt_51 dX2_windAt_53 rfl rfl ?_
          refine S_lh (fun h28 => ?_)
          exact TX2_windAt_b56 a1 a2 h28
      · refine S_iconst (a := 0) dX2_windAt_38 rfl (by decide) ?_
        exact S_iret dX2_windAt_39
def DX2_go_b68 (i1 : Nat) (a2 : Int) (h : qH) : Option (Int × qH) := (if ¬ h.1 i1 0 = 0 then some (0, h) else (if ¬ h.1 i1 4 = 0 then some (0, h) else (qbd (DX2_windAt (h.1 i1 1) a2 h) fun r1 h2 => (qbd (DX2_step i1 r1 h2) fun r4 h5 => some (0, h5)))))
set_option maxRecDepth 100000 in
theorem TX2_go_b68 {L : Nat} {xs : Nat → Int32} (i1 : Nat) (a2 : Int) (t1 : qK i1 = (0, 8)) (h : qH) : qS L xs cX2_go "BottlePost$Drift" 4 4 0 68 [(0, qr 4), (1, qr i1), (2, qi a2)] [] h (DX2_go_b68 i1 a2 h) := by
  unfold DX2_go_b68
  refine S_aload_n 1 dX2_go_68 rfl rfl rfl ?_
  refine S_geti 0 qC_0 (by decide) (by decide) t1 tw_193 dX2_go_69 rfl ?_
  refine S_if_ne (tgt := 96) dX2_go_72 (by decide) rfl (fun _ => ?_) (fun _ => ?_)
  · exact S_vret dX2_go_96
  · refine S_aload_n 1 dX2_go_75 rfl rfl rfl ?_
    refine S_geti 4 qC_0 (by decide) (by decide) t1 tw_207 dX2_go_76 rfl ?_
    refine S_if_ne (tgt := 96) dX2_go_79 (by decide) rfl (fun _ => ?_) (fun _ => ?_)
    · exact S_vret dX2_go_96
    · refine S_aload_n 0 dX2_go_82 rfl rfl rfl ?_
      refine S_aload_n 1 dX2_go_83 rfl rfl rfl ?_
      refine S_aload_n 0 dX2_go_84 rfl rfl rfl ?_
      refine S_aload_n 1 dX2_go_85 rfl rfl rfl ?_
      refine S_geti 1 qC_0 (by decide) (by decide) t1 tw_197 dX2_go_86 rfl ?_
      refine S_iload_n 2 dX2_go_89 rfl rfl rfl ?_
      refine S_callV_i (as := [qi (h.1 i1 1), qi a2]) (st := [qr i1, qr 4]) (fun _ => rfl) (TX2_windAt (h.1 i1 1) a2 h) yv_X2_windAt tw_895 qC_2 qk_4 (by decide) rfl rfl (Nat.le_of_ble_eq_true rfl) dX2_go_90 rfl (fun r1 h2 e3 => ?_)
      refine S_callV_0 (as := [qr i1, qi r1]) (st := []) (fun _ => rfl) (TX2_step i1 r1 t1 h2) yv_X2_step tw_886 qC_2 qk_4 (by decide) rfl rfl (Nat.le_of_ble_eq_true rfl) dX2_go_93 rfl (fun r4 h5 e6 => ?_)
      exact S_vret dX2_go_96
def DX2_go_b33 (i1 : Nat) (a2 : Int) (a3 : Int) (h : qH) : Option (Int × qH) := (if ¬ h.1 i1 0 = 0 then (DX2_go_b68 i1 a2 h) else (qbd (DX1_isSpring 5 a2 h) fun r7 h8 => (if r7 = 0 then (DX2_go_b68 i1 a2 h8) else (qbd (DX1_currentAt 5 (h8.1 i1 1) a3 h8) fun r10 h11 => (qbd (DX2_step i1 r10 h11) fun r13 h14 => (DX2_go_b68 i1 a2 h14))))))
set_option maxRecDepth 100000 in
theorem TX2_go_b33 {L : Nat} {xs : Nat → Int32} (i1 : Nat) (a2 : Int) (a3 : Int) (t1 : qK i1 = (0, 8)) (h : qH) : qS L xs cX2_go "BottlePost$Drift" 4 4 0 33 [(0, qr 4), (1, qr i1), (2, qi a2), (3, qi a3)] [] h (DX2_go_b33 i1 a2 a3 h) := by
  unfold DX2_go_b33
  refine S_aload_n 1 dX2_go_33 rfl rfl rfl ?_
  refine S_geti 0 qC_0 (by decide) (by decide) t1 tw_193 dX2_go_34 rfl ?_
  refine S_if_ne (tgt := 68) dX2_go_37 (by decide) rfl (fun _ => ?_) (fun _ => ?_)
  · refine S_sub [0, 1, 2] rfl ?_
    exact TX2_go_b68 i1 a2 t1 h
  · refine S_aload_n 0 dX2_go_40 rfl rfl rfl ?_
    refine S_getr (j := 5) (o := 1) 0 qC_2 (by decide) (by decide) qk_4 rfl rfl (by decide) tw_236 dX2_go_41 rfl ?_
    refine S_iload_n 2 dX2_go_44 rfl rfl rfl ?_
    refine S_callV_i (as := [qi a2]) (st := []) (fun _ => rfl) (TX1_isSpring 5 a2 qk_5 h) yv_X1_isSpring tw_891 qC_1 qk_5 (by decide) rfl rfl (Nat.le_of_ble_eq_true rfl) dX2_go_45 rfl (fun r7 h8 e9 => ?_)
    refine S_if_eq (tgt := 68) dX2_go_48 (by decide) rfl (fun _ => ?_) (fun _ => ?_)
    · refine S_sub [0, 1, 2] rfl ?_
      exact TX2_go_b68 i1 a2 t1 h8
    · refine S_aload_n 0 dX2_go_51 rfl rfl rfl ?_
      refine S_aload_n 1 dX2_go_52 rfl rfl rfl ?_
      refine S_aload_n 0 dX2_go_53 rfl rfl rfl ?_
      refine S_getr (j := 5) (o := 1) 0 qC_2 (by decide) (by decide) qk_4 rfl rfl (by decide) tw_236 dX2_go_54 rfl ?_
      refine S_aload_n 1 dX2_go_57 rfl rfl rfl ?_
      refine S_geti 1 qC_0 (by decide) (by decide) t1 tw_197 dX2_go_58 rfl ?_
      refine S_iload_n 3 dX2_go_61 rfl rfl rfl ?_
      refine S_callV_i (as := [qi (h8.1 i1 1), qi a3]) (st := [qr i1, qr 4]) (fun _ => rfl) (TX1_currentAt 5 (h8.1 i1 1) a3 qk_5 h8) yv_X1_currentAt tw_885 qC_1 qk_5 (by decide) rfl rfl (Nat.le_of_ble_eq_true rfl) dX2_go_62 rfl (fun r10 h11 e12 => ?_)
      refine S_callV_0 (as := [qr i1, qi r10]) (st := []) (fun _ => rfl) (TX2_step i1 r10 t1 h11) yv_X2_step tw_886 qC_2 qk_4 (by decide) rfl rfl (Nat.le_of_ble_eq_true rfl) dX2_go_65 rfl (fun r13 h14 e15 => ?_)
      refine S_sub [0, 1, 2] rfl ?_
      exact TX2_go_b68 i1 a2 t1 h14
def DX2_go (i1 : Nat) (a2 : Int) (h : qH) : Option (Int × qH) := (qbd (DX1_phaseOf 5 a2 h) fun r16 h17 => (if ¬ h17.1 i1 0 = 0 then (DX2_go_b33 i1 a2 r16 h17) else (qbd (DX1_currentAt 5 (h17.1 i1 1) r16 h17) fun r19 h20 => (qbd (DX2_step i1 r19 h20) fun r22 h23 => (DX2_go_b33 i1 a2 r16 h23)))))
set_option maxRecDepth 100000 in
theorem TX2_go {L : Nat} {xs : Nat → Int32} (i1 : Nat) (a2 : Int) (t1 : qK i1 = (0, 8)) (h : qH) : qMet L xs yX2_go cX2_go 4 (none) 0 4 [qr 4, qr i1, qi a2] h (DX2_go i1 a2 h) := by
  refine qMet.of (by decide +kernel) (Or.inl ⟨rfl, rfl⟩) (Nat.le_of_ble_eq_true rfl) ?_
  show qS L xs cX2_go "BottlePost$Drift" 4 4 0 0 [(0, qr 4), (1, qr i1), (2, qi a2)] [] h (DX2_go i1 a2 h)
  unfold DX2_go
  refine S_aload_n 0 dX2_go_0 rfl rfl rfl ?_
  refine S_getr (j := 5) (o := 1) 0 qC_2 (by decide) (by decide) qk_4 rfl rfl (by decide) tw_236 dX2_go_1 rfl ?_
  refine S_iload_n 2 dX2_go_4 rfl rfl rfl ?_
  refine S_callV_i (as := [qi a2]) (st := []) (fun _ => rfl) (TX1_phaseOf 5 a2 qk_5 h) yv_X1_phaseOf tw_795 qC_1 qk_5 (by decide) rfl rfl (Nat.le_of_ble_eq_true rfl) dX2_go_5 rfl (fun r16 h17 e18 => ?_)
  refine S_istore_n (lv' := [(3, qi r16), (0, qr 4), (1, qr i1), (2, qi a2)]) dX2_go_8 rfl (by decide) rfl rfl ?_
  refine S_aload_n 2 dX2_go_9 rfl rfl rfl ?_
  refine S_geti 0 qC_0 (by decide) (by decide) t1 tw_193 dX2_go_10 rfl ?_
  refine S_if_ne (tgt := 33) dX2_go_13 (by decide) rfl (fun _ => ?_) (fun _ => ?_)
  · refine S_sub [1, 2, 3, 0] rfl ?_
    exact TX2_go_b33 i1 a2 r16 t1 h17
  · refine S_aload_n 1 dX2_go_16 rfl rfl rfl ?_
    refine S_aload_n 2 dX2_go_17 rfl rfl rfl ?_
    refine S_aload_n 1 dX2_go_18 rfl rfl rfl ?_
    refine S_getr (j := 5) (o := 1) 0 qC_2 (by decide) (by decide) qk_4 rfl rfl (by decide) tw_236 dX2_go_19 rfl ?_
    refine S_aload_n 2 dX2_go_22 rfl rfl rfl ?_
    refine S_geti 1 qC_0 (by decide) (by decide) t1 tw_197 dX2_go_23 rfl ?_
    refine S_iload_n 0 dX2_go_26 rfl rfl rfl ?_
    refine S_callV_i (as := [qi (h17.1 i1 1), qi r16]) (st := [qr i1, qr 4]) (fun _ => rfl) (TX1_currentAt 5 (h17.1 i1 1) r16 qk_5 h17) yv_X1_currentAt tw_885 qC_1 qk_5 (by decide) rfl rfl (Nat.le_of_ble_eq_true rfl) dX2_go_27 rfl (fun r19 h20 e21 => ?_)
    refine S_callV_0 (as := [qr i1, qi r19]) (st := []) (fun _ => rfl) (TX2_step i1 r19 t1 h20) yv_X2_step tw_886 qC_2 qk_4 (by decide) rfl rfl (Nat.le_of_ble_eq_true rfl) dX2_go_30 rfl (fun r22 h23 e24 => ?_)
    refine S_sub [1, 2, 3, 0] rfl ?_
    exact TX2_go_b33 i1 a2 r16 t1 h23
def DX2_carry_b77 (i1 : Nat) (a2 : Int) (h : qH) : Option (Int × qH) := (if ¬ h.1 i1 0 = 1 then some (0, h) else (qbd (DX2_find i1 a2 h) fun r1 h2 => some (0, h2)))
set_option maxRecDepth 100000 in
theorem TX2_carry_b77 {L : Nat} {xs : Nat → Int32} (i1 : Nat) (a2 : Int) (t1 : qK i1 = (0, 8)) (h : qH) : qS L xs cX2_carry "BottlePost$Drift" 3 5 0 77 [(0, qr 4), (1, qr i1), (2, qi a2)] [] h (DX2_carry_b77 i1 a2 h) := by
  unfold DX2_carry_b77
  refine S_aload_n 1 dX2_carry_77 rfl rfl rfl ?_
  refine S_geti 0 qC_0 (by decide) (by decide) t1 tw_193 dX2_carry_78 rfl ?_
  refine S_iconst (a := 1) dX2_carry_81 rfl (by decide) ?_
  refine S_icmp_ne (tgt := 91) dX2_carry_82 (by decide) rfl (fun _ => ?_) (fun _ => ?_)
  · exact S_vret dX2_carry_91
  · refine S_aload_n 0 dX2_carry_85 rfl rfl rfl ?_
    refine S_aload_n 1 dX2_carry_86 rfl rfl rfl ?_
    refine S_iload_n 2 dX2_carry_87 rfl rfl rfl ?_
    refine S_callV_0 (as := [qr i1, qi a2]) (st := []) (fun _ => rfl) (TX2_find i1 a2 t1 h) yv_X2_find tw_896 qC_2 qk_4 (by decide) rfl rfl (Nat.le_of_ble_eq_true rfl) dX2_carry_88 rfl (fun r1 h2 e3 => ?_)
    exact S_vret dX2_carry_91
def DX2_carry_b16 (i1 : Nat) (a2 : Int) (h : qH) : Option (Int × qH) := (qbd (DX2_go i1 a2 h) fun r4 h5 => (if ¬ h5.1 i1 0 = 3 then (qlt (qu h5 i1 5 (qw (h5.1 i1 5 + 1))) fun h7 => (if ¬ h7.1 i1 0 = 0 then (DX2_carry_b77 i1 a2 h7) else (if h7.1 5 19 ≤ 0 then (DX2_carry_b77 i1 a2 h7) else (if h7.1 i1 5 < h7.1 5 19 then (DX2_carry_b77 i1 a2 h7) else (qlt (qu h7 i1 0 4) fun h8 => (DX2_carry_b77 i1 a2 h8)))))) else some (0, h5)))
set_option maxRecDepth 100000 in
theorem TX2_carry_b16 {L : Nat} {xs : Nat → Int32} (i1 : Nat) (a2 : Int) (t1 : qK i1 = (0, 8)) (h : qH) : qS L xs cX2_carry "BottlePost$Drift" 3 5 0 16 [(0, qr 4), (1, qr i1), (2, qi a2)] [] h (DX2_carry_b16 i1 a2 h) := by
  unfold DX2_carry_b16
  refine S_aload_n 0 dX2_carry_16 rfl rfl rfl ?_
  refine S_aload_n 1 dX2_carry_17 rfl rfl rfl ?_
  refine S_iload_n 2 dX2_carry_18 rfl rfl rfl ?_
  refine S_callV_0 (as := [qr i1, qi a2]) (st := []) (fun _ => rfl) (TX2_go i1 a2 t1 h) yv_X2_go tw_881 qC_2 qk_4 (by decide) rfl rfl (Nat.le_of_ble_eq_true rfl) dX2_carry_19 rfl (fun r4 h5 e6 => ?_)
  refine S_aload_n 1 dX2_carry_22 rfl rfl rfl ?_
  refine S_geti 0 qC_0 (by decide) (by decide) t1 tw_193 dX2_carry_23 rfl ?_
  refine S_iconst (a := 3) dX2_carry_26 rfl (by decide) ?_
  refine S_icmp_ne (tgt := 31) dX2_carry_27 (by decide) rfl (fun _ => ?_) (fun _ => ?_)
  · refine S_aload_n 1 dX2_carry_31 rfl rfl rfl ?_
    refine S_dup dX2_carry_32 rfl rfl ?_
    refine S_geti 5 qC_0 (by decide) (by decide) t1 tw_210 dX2_carry_33 rfl ?_
    refine S_iconst (a := 1) dX2_carry_36 rfl (by decide) ?_
    refine S_iadd dX2_carry_37 rfl ?_
    refine S_puti 5 qC_0 (by decide) (by decide) rfl rfl t1 (by decide) tw_210 dX2_carry_38 rfl ?_
    refine S_lh (fun h7 => ?_)
    refine S_aload_n 1 dX2_carry_41 rfl rfl rfl ?_
    refine S_geti 0 qC_0 (by decide) (by decide) t1 tw_193 dX2_carry_42 rfl ?_
    refine S_if_ne (tgt := 77) dX2_carry_45 (by decide) rfl (fun _ => ?_) (fun _ => ?_)
    · exact TX2_carry_b77 i1 a2 t1 h7
    · refine S_aload_n 0 dX2_carry_48 rfl rfl rfl ?_
      refine S_getr (j := 5) (o := 1) 0 qC_2 (by decide) (by decide) qk_4 rfl rfl (by decide) tw_236 dX2_carry_49 rfl ?_
      refine S_geti 19 qC_1 (by decide) (by decide) qk_5 tw_99 dX2_carry_52 rfl ?_
      refine S_if_le (tgt := 77) dX2_carry_55 (by decide) rfl (fun _ => ?_) (fun _ => ?_)
      · exact TX2_carry_b77 i1 a2 t1 h7
      · refine S_aload_n 1 dX2_carry_58 rfl rfl rfl ?_
        refine S_geti 5 qC_0 (by decide) (by decide) t1 tw_210 dX2_carry_59 rfl ?_
        refine S_aload_n 0 dX2_carry_62 rfl rfl rfl ?_
        refine S_getr (j := 5) (o := 1) 0 qC_2 (by decide) (by decide) qk_4 rfl rfl (by decide) tw_236 dX2_carry_63 rfl ?_
        refine S_geti 19 qC_1 (by decide) (by decide) qk_5 tw_99 dX2_carry_66 rfl ?_
        refine S_icmp_lt (tgt := 77) dX2_carry_69 (by decide) rfl (fun _ => ?_) (fun _ => ?_)
        · exact TX2_carry_b77 i1 a2 t1 h7
        · refine S_aload_n 1 dX2_carry_72 rfl rfl rfl ?_
          refine S_iconst (a := 4) dX2_carry_73 rfl (by decide) ?_
          refine S_puti 0 qC_0 (by decide) (by decide) rfl rfl t1 (by decide) tw_193 dX2_carry_74 rfl ?_
          refine S_lh (fun h8 => ?_)
          exact TX2_carry_b77 i1 a2 t1 h8
  · exact S_vret dX2_carry_30
def DX2_carry (i1 : Nat) (a2 : Int) (h : qH) : Option (Int × qH) := (if h.1 i1 0 = 0 then (DX2_carry_b16 i1 a2 h) else (if h.1 i1 0 = 1 then (DX2_carry_b16 i1 a2 h) else some (0, h)))
set_option maxRecDepth 100000 in
theorem TX2_carry {L : Nat} {xs : Nat → Int32} (i1 : Nat) (a2 : Int) (t1 : qK i1 = (0, 8)) (h : qH) : qMet L xs yX2_carry cX2_carry 3 (none) 0 5 [qr 4, qr i1, qi a2] h (DX2_carry i1 a2 h) := by
  refine qMet.of (by decide +kernel) (Or.inl ⟨rfl, rfl⟩) (Nat.le_of_ble_eq_true rfl) ?_
  show qS L xs cX2_carry "BottlePost$Drift" 3 5 0 0 [(0, qr 4), (1, qr i1), (2, qi a2)] [] h (DX2_carry i1 a2 h)
  unfold DX2_carry
  refine S_aload_n 1 dX2_carry_0 rfl rfl rfl ?_
  refine S_geti 0 qC_0 (by decide) (by decide) t1 tw_193 dX2_carry_1 rfl ?_
  refine S_if_eq (tgt := 16) dX2_carry_4 (by decide) rfl (fun _ => ?_) (fun _ => ?_)
  · exact TX2_carry_b16 i1 a2 t1 h
  · refine S_aload_n 1 dX2_carry_7 rfl rfl rfl ?_
    refine S_geti 0 qC_0 (by decide) (by decide) t1 tw_193 dX2_carry_8 rfl ?_
    refine S_iconst (a := 1) dX2_carry_11 rfl (by decide) ?_
    refine S_icmp_eq (tgt := 16) dX2_carry_12 (by decide) rfl (fun _ => ?_) (fun _ => ?_)
    · exact TX2_carry_b16 i1 a2 t1 h
    · exact S_vret dX2_carry_15
def DX2_outcome_b243 (a8 : Int) (a9 : Int) (b0 : Int) (h : qH) : Option (Int × qH) := (if a9 = 0 then some (b0, h) else (if h.2.2.1 = true then (if 0 ≤ a8 ∧ a8 < 12960 then qlt (qu h 226 a8.toNat (qs16 (qs16 b0))) fun h1 => some (b0, h1) else none) else none))
set_option maxRecDepth 100000 in
theorem TX2_outcome_b243 {L : Nat} {xs : Nat → Int32} (a8 : Int) (a9 : Int) (b0 : Int) (h : qH) : qS L xs cX2_outcome "BottlePost$Drift" 12 6 1 243 [(0, qr 4), (8, qi a8), (9, qi a9)] [qi b0] h (DX2_outcome_b243 a8 a9 b0 h) := by
  unfold DX2_outcome_b243
  refine S_istore (lv' := [(11, qi b0), (0, qr 4), (8, qi a8), (9, qi a9)]) dX2_outcome_243 (by decide) rfl rfl ?_
  refine S_iload 3 dX2_outcome_245 rfl rfl ?_
  refine S_if_eq (tgt := 260) dX2_outcome_247 (by decide) rfl (fun _ => ?_) (fun _ => ?_)
  · refine S_iload 0 dX2_outcome_260 rfl rfl ?_
    exact S_iret dX2_outcome_262
  · refine S_aload_n 1 dX2_outcome_250 rfl rfl rfl ?_
    refine S_geto qC_2 tw_244 dX2_outcome_251 rfl (fun gf => ?_) (fun _ => S_none)
    refine S_iload 2 dX2_outcome_254 rfl rfl ?_
    refine S_iload 0 dX2_outcome_256 rfl rfl ?_
    refine S_i2s dX2_outcome_258 rfl ?_
    refine S_sast (N := 12960) qk_226 rfl dX2_outcome_259 rfl (fun _ _ => ?_)
    refine S_lh (fun h1 => ?_)
    refine S_iload 0 dX2_outcome_260 rfl rfl ?_
    exact S_iret dX2_outcome_262
def DX2_outcome_b213 (a8 : Int) (a9 : Int) (a10 : Int) (h : qH) : Option (Int × qH) := (if ¬ h.1 13 0 = 2 then (DX2_outcome_b243 a8 a9 1 h) else (DX2_outcome_b243 a8 a9 (qw (qw (qw (a10 * 8) + h.1 13 7) + 2)) h))
set_option maxRecDepth 100000 in
theorem TX2_outcome_b213 {L : Nat} {xs : Nat → Int32} (a8 : Int) (a9 : Int) (a10 : Int) (h : qH) : qS L xs cX2_outcome "BottlePost$Drift" 12 6 1 213 [(0, qr 4), (8, qi a8), (9, qi a9), (10, qi a10)] [] h (DX2_outcome_b213 a8 a9 a10 h) := by
  unfold DX2_outcome_b213
  refine S_aload_n 0 dX2_outcome_213 rfl rfl rfl ?_
  refine S_getr (j := 13) (o := 9) 1 qC_2 (by decide) (by decide) qk_4 rfl rfl (by decide) tw_240 dX2_outcome_214 rfl ?_
  refine S_geti 0 qC_0 (by decide) (by decide) qk_13 tw_193 dX2_outcome_217 rfl ?_
  refine S_iconst (a := 2) dX2_outcome_220 rfl (by decide) ?_
  refine S_icmp_ne (tgt := 242) dX2_outcome_221 (by decide) rfl (fun _ => ?_) (fun _ => ?_)
  · refine S_iconst (a := 1) dX2_outcome_242 rfl (by decide) ?_
    refine S_sub [0, 1, 2] rfl ?_
    exact TX2_outcome_b243 a8 a9 1 h
  · refine S_iload 3 dX2_outcome_224 rfl rfl ?_
    refine S_bipush (a := 8) dX2_outcome_226 rfl (by decide) (by decide) ?_
    refine S_imul dX2_outcome_228 rfl ?_
    refine S_aload_n 0 dX2_outcome_229 rfl rfl rfl ?_
    refine S_getr (j := 13) (o := 9) 1 qC_2 (by decide) (by decide) qk_4 rfl rfl (by decide) tw_240 dX2_outcome_230 rfl ?_
    refine S_geti 7 qC_0 (by decide) (by decide) qk_13 tw_217 dX2_outcome_233 rfl ?_
    refine S_iadd dX2_outcome_236 rfl ?_
    refine S_iconst (a := 2) dX2_outcome_237 rfl (by decide) ?_
    refine S_iadd dX2_outcome_238 rfl ?_
    refine S_goto (pc' := 243) dX2_outcome_239 (by decide) ?_
    refine S_sub [0, 1, 2] rfl ?_
    exact TX2_outcome_b243 a8 a9 (qw (qw (qw (a10 * 8) + h.1 13 7) + 2)) h
def DX2_outcome_b194 (k165 : Int → Int → Int → Int → qH → Option (Int × qH)) (a4 : Int) (a8 : Int) (a9 : Int) (a10 : Int) (h : qH) : Option (Int × qH) := (qbd (DX2_carry 13 (qw (a4 + a10)) h) fun r2 h3 => (k165 a4 a8 a9 (qw (a10 + 1)) h3))
set_option maxRecDepth 100000 in
theorem TX2_outcome_b194 {L : Nat} {xs : Nat → Int32} (k165 : Int → Int → Int → Int → qH → Option (Int × qH)) (hk165 : ∀ (a4 : Int) (a8 : Int) (a9 : Int) (a10 : Int) (h : qH), qS L xs cX2_outcome "BottlePost$Drift" 12 6 1 165 [(0, qr 4), (4, qi a4), (8, qi a8), (9, qi a9), (10, qi a10)] [] h (k165 a4 a8 a9 a10 h)) (a4 : Int) (a8 : Int) (a9 : Int) (a10 : Int) (h : qH) : qS L xs cX2_outcome "BottlePost$Drift" 12 6 1 194 [(0, qr 4), (4, qi a4), (8, qi a8), (9, qi a9), (10, qi a10)] [] h (DX2_outcome_b194 k165 a4 a8 a9 a10 h) := by
  unfold DX2_outcome_b194
  refine S_aload_n 0 dX2_outcome_194 rfl rfl rfl ?_
  refine S_aload_n 0 dX2_outcome_195 rfl rfl rfl ?_
  refine S_getr (j := 13) (o := 9) 1 qC_2 (by decide) (by decide) qk_4 rfl rfl (by decide) tw_240 dX2_outcome_196 rfl ?_
  refine S_iload 1 dX2_outcome_199 rfl rfl ?_
  refine S_iload 4 dX2_outcome_201 rfl rfl ?_
  refine S_iadd dX2_outcome_203 rfl ?_
  refine S_callV_0 (as := [qr 13, qi (qw (a4 + a10))]) (st := []) (fun _ => rfl) (TX2_carry 13 (qw (a4 + a10)) qk_13 h) yv_X2_carry tw_996 qC_2 qk_4 (by decide) rfl rfl (Nat.le_of_ble_eq_true rfl) dX2_outcome_204 rfl (fun r2 h3 e4 => ?_)
  refine S_iinc (lv' := [(10, qi (qw (a10 + 1))), (0, qr 4), (4, qi a4), (8, qi a8), (9, qi a9)]) 4 dX2_outcome_207 rfl (by decide) rfl rfl ?_
  refine S_goto (pc' := 165) dX2_outcome_210 (by decide) ?_
  refine S_sub [1, 2, 3, 4, 0] rfl ?_
  exact hk165 a4 a8 a9 (qw (a10 + 1)) h3
def DX2_outcome_l165 : Nat → Int → Int → Int → Int → qH → Option (Int × qH)
  | 0, _, _, _, _, _ => none
  | n + 1, a4, a8, a9, a10, h => (if 200 ≤ a10 then (DX2_outcome_b213 a8 a9 a10 h) else (if h.1 13 0 = 0 then (DX2_outcome_b194 (DX2_outcome_l165 n) a4 a8 a9 a10 h) else (if ¬ h.1 13 0 = 1 then (DX2_outcome_b213 a8 a9 a10 h) else (DX2_outcome_b194 (DX2_outcome_l165 n) a4 a8 a9 a10 h))))
set_option maxRecDepth 100000 in
theorem TX2_outcome_l165 {L : Nat} {xs : Nat → Int32} : ∀ (n : Nat) (a4 : Int) (a8 : Int) (a9 : Int) (a10 : Int) (h : qH), qS L xs cX2_outcome "BottlePost$Drift" 12 6 1 165 [(0, qr 4), (4, qi a4), (8, qi a8), (9, qi a9), (10, qi a10)] [] h (DX2_outcome_l165 n a4 a8 a9 a10 h) := by
  intro n
  induction n with
  | zero =>
    intro a4 a8 a9 a10 h
    exact S_none
  | succ n ih =>
    intro a4 a8 a9 a10 h
    rw [DX2_outcome_l165.eq_2]
    refine S_iload 4 dX2_outcome_165 rfl rfl ?_
    refine S_sipush (a := 200) dX2_outcome_167 rfl (by decide) (by decide) ?_
    refine S_icmp_ge (tgt := 213) dX2_outcome_170 (by decide) rfl (fun _ => ?_) (fun _ => ?_)
    · refine S_sub [0, 2, 3, 4] rfl ?_
      exact TX2_outcome_b213 a8 a9 a10 h
    · refine S_aload_n 0 dX2_outcome_173 rfl rfl rfl ?_
      refine S_getr (j := 13) (o := 9) 1 qC_2 (by decide) (by decide) qk_4 rfl rfl (by decide) tw_240 dX2_outcome_174 rfl ?_
      refine S_geti 0 qC_0 (by decide) (by decide) qk_13 tw_193 dX2_outcome_177 rfl ?_
      refine S_if_eq (tgt := 194) dX2_outcome_180 (by decide) rfl (fun _ => ?_) (fun _ => ?_)
      · exact TX2_outcome_b194 (DX2_outcome_l165 n) ih a4 a8 a9 a10 h
      · refine S_aload_n 0 dX2_outcome_183 rfl rfl rfl ?_
        refine S_getr (j := 13) (o := 9) 1 qC_2 (by decide) (by decide) qk_4 rfl rfl (by decide) tw_240 dX2_outcome_184 rfl ?_
        refine S_geti 0 qC_0 (by decide) (by decide) qk_13 tw_193 dX2_outcome_187 rfl ?_
        refine S_iconst (a := 1) dX2_outcome_190 rfl (by decide) ?_
        refine S_icmp_ne (tgt := 213) dX2_outcome_191 (by decide) rfl (fun _ => ?_) (fun _ => ?_)
        · refine S_sub [0, 2, 3, 4] rfl ?_
          exact TX2_outcome_b213 a8 a9 a10 h
        · exact TX2_outcome_b194 (DX2_outcome_l165 n) ih a4 a8 a9 a10 h
def DX2_outcome_b150 (a1 : Int) (a2 : Int) (a3 : Int) (a4 : Int) (a5 : Int) (a8 : Int) (a9 : Int) (h : qH) : Option (Int × qH) := (qbd (DX0_launch 13 a1 a2 a3 a5 h) fun r5 h6 => (DX2_outcome_l165 LF a4 a8 a9 0 h6))
set_option maxRecDepth 100000 in
theorem TX2_outcome_b150 {L : Nat} {xs : Nat → Int32} (a1 : Int) (a2 : Int) (a3 : Int) (a4 : Int) (a5 : Int) (a8 : Int) (a9 : Int) (h : qH) : qS L xs cX2_outcome "BottlePost$Drift" 12 6 1 150 [(0, qr 4), (1, qi a1), (2, qi a2), (3, qi a3), (4, qi a4), (5, qi a5), (8, qi a8), (9, qi a9)] [] h (DX2_outcome_b150 a1 a2 a3 a4 a5 a8 a9 h) := by
  unfold DX2_outcome_b150
  refine S_aload_n 0 dX2_outcome_150 rfl rfl rfl ?_
  refine S_getr (j := 13) (o := 9) 1 qC_2 (by decide) (by decide) qk_4 rfl rfl (by decide) tw_240 dX2_outcome_151 rfl ?_
  refine S_iload_n 1 dX2_outcome_154 rfl rfl rfl ?_
  refine S_iload_n 2 dX2_outcome_155 rfl rfl rfl ?_
  refine S_iload_n 3 dX2_outcome_156 rfl rfl rfl ?_
  refine S_iload 5 dX2_outcome_157 rfl rfl ?_
  refine S_callV_0 (as := [qi a1, qi a2, qi a3, qi a5]) (st := []) (fun _ => rfl) (TX0_launch 13 a1 a2 a3 a5 qk_13 h) yv_X0_launch tw_1026 qC_0 qk_13 (by decide) rfl rfl (Nat.le_of_ble_eq_true rfl) dX2_outcome_159 rfl (fun r5 h6 e7 => ?_)
  refine S_iconst (a := 0) dX2_outcome_162 rfl (by decide) ?_
  refine S_istore (lv' := [(10, qi 0), (0, qr 4), (1, qi a1), (2, qi a2), (3, qi a3), (4, qi a4), (5, qi a5), (8, qi a8), (9, qi a9)]) dX2_outcome_163 (by decide) rfl rfl ?_
  refine S_sub [1, 5, 7, 8, 0] rfl ?_
  exact TX2_outcome_l165 LF a4 a8 a9 0 h6
def DX2_outcome_b125 (a1 : Int) (a2 : Int) (a3 : Int) (a4 : Int) (a5 : Int) (a8 : Int) (b0 : Int) (h : qH) : Option (Int × qH) := (if b0 = 0 then (DX2_outcome_b150 a1 a2 a3 a4 a5 a8 b0 h) else (if h.2.2.1 = true then (if 0 ≤ a8 ∧ a8 < 12960 then (if h.1 226 a8.toNat = 0 then (DX2_outcome_b150 a1 a2 a3 a4 a5 a8 b0 h) else (if h.2.2.1 = true then (if 0 ≤ a8 ∧ a8 < 12960 then some (h.1 226 a8.toNat, h) else none) else none)) else none) else none))
set_option maxRecDepth 100000 in
theorem TX2_outcome_b125 {L : Nat} {xs : Nat → Int32} (a1 : Int) (a2 : Int) (a3 : Int) (a4 : Int) (a5 : Int) (a8 : Int) (b0 : Int) (h : qH) : qS L xs cX2_outcome "BottlePost$Drift" 12 6 1 125 [(0, qr 4), (1, qi a1), (2, qi a2), (3, qi a3), (4, qi a4), (5, qi a5), (8, qi a8)] [qi b0] h (DX2_outcome_b125 a1 a2 a3 a4 a5 a8 b0 h) := by
  unfold DX2_outcome_b125
  refine S_istore (lv' := [(9, qi b0), (0, qr 4), (1, qi a1), (2, qi a2), (3, qi a3), (4, qi a4), (5, qi a5), (8, qi a8)]) dX2_outcome_125 (by decide) rfl rfl ?_
  refine S_iload 0 dX2_outcome_127 rfl rfl ?_
  refine S_if_eq (tgt := 150) dX2_outcome_129 (by decide) rfl (fun _ => ?_) (fun _ => ?_)
  · refine S_sub [1, 2, 3, 4, 5, 6, 7, 0] rfl ?_
    exact TX2_outcome_b150 a1 a2 a3 a4 a5 a8 b0 h
  · refine S_aload_n 1 dX2_outcome_132 rfl rfl rfl ?_
    refine S_geto qC_2 tw_244 dX2_outcome_133 rfl (fun gf => ?_) (fun _ => S_none)
    refine S_iload 7 dX2_outcome_136 rfl rfl ?_
    refine S_sald (N := 12960) qk_226 rfl dX2_outcome_138 rfl (fun g8 g9 => ?_)
    refine S_if_eq (tgt := 150) dX2_outcome_139 (by decide) rfl (fun _ => ?_) (fun _ => ?_)
    · refine S_sub [1, 2, 3, 4, 5, 6, 7, 0] rfl ?_
      exact TX2_outcome_b150 a1 a2 a3 a4 a5 a8 b0 h
    · refine S_aload_n 1 dX2_outcome_142 rfl rfl rfl ?_
      refine S_geto qC_2 tw_244 dX2_outcome_143 rfl (fun gf => ?_) (fun _ => S_none)
      refine S_iload 7 dX2_outcome_146 rfl rfl ?_
      refine S_sald (N := 12960) qk_226 rfl dX2_outcome_148 rfl (fun g10 g11 => ?_)
      exact S_iret dX2_outcome_149
def DX2_outcome_b64 (a1 : Int) (a2 : Int) (a3 : Int) (a4 : Int) (a5 : Int) (b0 : Int) (b1 : Int) (h : qH) : Option (Int × qH) := (qlt (qw (b1 + b0)) fun v12 => (qbd (DX1_phaseOf 5 a4 h) fun r13 h14 => (qbd (DX1_moonOf 5 a4 h14) fun r16 h17 => (qlt (qw (qw (qw (qw (v12 * 6) + r13) * 30) + r16)) fun v19 => (if ¬ h17.1 4 6 = (-1) then (DX2_outcome_b125 a1 a2 a3 a4 a5 v19 0 h17) else (if v19 < 0 then (DX2_outcome_b125 a1 a2 a3 a4 a5 v19 0 h17) else (if h17.2.2.1 = true then (if 12960 ≤ v19 then (DX2_outcome_b125 a1 a2 a3 a4 a5 v19 0 h17) else (DX2_outcome_b125 a1 a2 a3 a4 a5 v19 1 h17)) else none)))))))
set_option maxRecDepth 100000 in
theorem TX2_outcome_b64 {L : Nat} {xs : Nat → Int32} (a1 : Int) (a2 : Int) (a3 : Int) (a4 : Int) (a5 : Int) (b0 : Int) (b1 : Int) (h : qH) : qS L xs cX2_outcome "BottlePost$Drift" 12 6 1 64 [(0, qr 4), (1, qi a1), (2, qi a2), (3, qi a3), (4, qi a4), (5, qi a5)] [qi b0, qi b1] h (DX2_outcome_b64 a1 a2 a3 a4 a5 b0 b1 h) := by
  unfold DX2_outcome_b64
  refine S_iadd dX2_outcome_64 rfl ?_
  refine S_istore (lv' := [(7, qi (qw (b1 + b0))), (0, qr 4), (1, qi a1), (2, qi a2), (3, qi a3), (4, qi a4), (5, qi a5)]) dX2_outcome_65 (by decide) rfl rfl ?_
  refine S_li (fun v12 => ?_)
  refine S_iload 0 dX2_outcome_67 rfl rfl ?_
  refine S_bipush (a := 6) dX2_outcome_69 rfl (by decide) (by decide) ?_
  refine S_imul dX2_outcome_71 rfl ?_
  refine S_aload_n 1 dX2_outcome_72 rfl rfl rfl ?_
  refine S_getr (j := 5) (o := 1) 0 qC_2 (by decide) (by decide) qk_4 rfl rfl (by decide) tw_236 dX2_outcome_73 rfl ?_
  refine S_iload 5 dX2_outcome_76 rfl rfl ?_
  refine S_callV_i (as := [qi a4]) (st := [qi (qw (v12 * 6))]) (fun _ => rfl) (TX1_phaseOf 5 a4 qk_5 h) yv_X1_phaseOf tw_795 qC_1 qk_5 (by decide) rfl rfl (Nat.le_of_ble_eq_true rfl) dX2_outcome_78 rfl (fun r13 h14 e15 => ?_)
  refine S_iadd dX2_outcome_81 rfl ?_
  refine S_bipush (a := 30) dX2_outcome_82 rfl (by decide) (by decide) ?_
  refine S_imul dX2_outcome_84 rfl ?_
  refine S_aload_n 1 dX2_outcome_85 rfl rfl rfl ?_
  refine S_getr (j := 5) (o := 1) 0 qC_2 (by decide) (by decide) qk_4 rfl rfl (by decide) tw_236 dX2_outcome_86 rfl ?_
  refine S_iload 5 dX2_outcome_89 rfl rfl ?_
  refine S_callV_i (as := [qi a4]) (st := [qi (qw (qw (qw (v12 * 6) + r13) * 30))]) (fun _ => rfl) (TX1_moonOf 5 a4 qk_5 h14) yv_X1_moonOf tw_799 qC_1 qk_5 (by decide) rfl rfl (Nat.le_of_ble_eq_true rfl) dX2_outcome_91 rfl (fun r16 h17 e18 => ?_)
  refine S_iadd dX2_outcome_94 rfl ?_
  refine S_istore (lv' := [(8, qi (qw (qw (qw (qw (v12 * 6) + r13) * 30) + r16))), (7, qi v12), (0, qr 4), (1, qi a1), (2, qi a2), (3, qi a3), (4, qi a4), (5, qi a5)]) dX2_outcome_95 (by decide) rfl rfl ?_
  refine S_li (fun v19 => ?_)
  refine S_aload_n 2 dX2_outcome_97 rfl rfl rfl ?_
  refine S_geti 6 qC_2 (by decide) (by decide) qk_4 tw_245 dX2_outcome_98 rfl ?_
  refine S_iconst (a := (-1)) dX2_outcome_101 rfl (by decide) ?_
  refine S_icmp_ne (tgt := 124) dX2_outcome_102 (by decide) rfl (fun _ => ?_) (fun _ => ?_)
  · refine S_iconst (a := 0) dX2_outcome_124 rfl (by decide) ?_
    refine S_sub [2, 3, 4, 5, 6, 7, 0] rfl ?_
    exact TX2_outcome_b125 a1 a2 a3 a4 a5 v19 0 h17
  · refine S_iload 0 dX2_outcome_105 rfl rfl ?_
    refine S_if_lt (tgt := 124) dX2_outcome_107 (by decide) rfl (fun _ => ?_) (fun _ => ?_)
    · refine S_iconst (a := 0) dX2_outcome_124 rfl (by decide) ?_
      refine S_sub [2, 3, 4, 5, 6, 7, 0] rfl ?_
      exact TX2_outcome_b125 a1 a2 a3 a4 a5 v19 0 h17
    · refine S_iload 0 dX2_outcome_110 rfl rfl ?_
      refine S_aload_n 2 dX2_outcome_112 rfl rfl rfl ?_
      refine S_geto qC_2 tw_244 dX2_outcome_113 rfl (fun gf => ?_) (fun _ => S_none)
      refine S_alen (N := 12960) qk_226 (by decide) (by decide) rfl (by decide) dX2_outcome_116 rfl ?_
      refine S_icmp_ge (tgt := 124) dX2_outcome_117 (by decide) rfl (fun _ => ?_) (fun _ => ?_)
      · refine S_iconst (a := 0) dX2_outcome_124 rfl (by decide) ?_
        refine S_sub [2, 3, 4, 5, 6, 7, 0] rfl ?_
        exact TX2_outcome_b125 a1 a2 a3 a4 a5 v19 0 h17
      · refine S_iconst (a := 1) dX2_outcome_120 rfl (by decide) ?_
        refine S_goto (pc' := 125) dX2_outcome_121 (by decide) ?_
        refine S_sub [2, 3, 4, 5, 6, 7, 0] rfl ?_
        exact TX2_outcome_b125 a1 a2 a3 a4 a5 v19 1 h17
def DX2_outcome_b48 (a1 : Int) (a2 : Int) (a3 : Int) (a4 : Int) (a5 : Int) (b0 : Int) (b1 : Int) (h : qH) : Option (Int × qH) := (qlt (qw (b1 + b0)) fun v20 => (if a3 = 0 then (DX2_outcome_b64 a1 a2 a3 a4 a5 0 (qw (v20 * 2)) h) else (DX2_outcome_b64 a1 a2 a3 a4 a5 1 (qw (v20 * 2)) h)))
set_option maxRecDepth 100000 in
theorem TX2_outcome_b48 {L : Nat} {xs : Nat → Int32} (a1 : Int) (a2 : Int) (a3 : Int) (a4 : Int) (a5 : Int) (b0 : Int) (b1 : Int) (h : qH) : qS L xs cX2_outcome "BottlePost$Drift" 12 6 1 48 [(0, qr 4), (1, qi a1), (2, qi a2), (3, qi a3), (4, qi a4), (5, qi a5)] [qi b0, qi b1] h (DX2_outcome_b48 a1 a2 a3 a4 a5 b0 b1 h) := by
  unfold DX2_outcome_b48
  refine S_iadd dX2_outcome_48 rfl ?_
  refine S_istore (lv' := [(6, qi (qw (b1 + b0))), (0, qr 4), (1, qi a1), (2, qi a2), (3, qi a3), (4, qi a4), (5, qi a5)]) dX2_outcome_49 (by decide) rfl rfl ?_
  refine S_li (fun v20 => ?_)
  refine S_iload 0 dX2_outcome_51 rfl rfl ?_
  refine S_iconst (a := 2) dX2_outcome_53 rfl (by decide) ?_
  refine S_imul dX2_outcome_54 rfl ?_
  refine S_iload_n 4 dX2_outcome_55 rfl rfl rfl ?_
  refine S_if_eq (tgt := 63) dX2_outcome_56 (by decide) rfl (fun _ => ?_) (fun _ => ?_)
  · refine S_iconst (a := 0) dX2_outcome_63 rfl (by decide) ?_
    refine S_sub [1, 2, 3, 4, 5, 6] rfl ?_
    exact TX2_outcome_b64 a1 a2 a3 a4 a5 0 (qw (v20 * 2)) h
  · refine S_iconst (a := 1) dX2_outcome_59 rfl (by decide) ?_
    refine S_goto (pc' := 64) dX2_outcome_60 (by decide) ?_
    refine S_sub [1, 2, 3, 4, 5, 6] rfl ?_
    exact TX2_outcome_b64 a1 a2 a3 a4 a5 1 (qw (v20 * 2)) h
def DX2_outcome_b34 (a1 : Int) (a2 : Int) (a3 : Int) (a4 : Int) (a5 : Int) (h : qH) : Option (Int × qH) := (if ¬ a2 = (-1) then (DX2_outcome_b48 a1 a2 a3 a4 a5 a2 (qw (a1 * 6)) h) else (DX2_outcome_b48 a1 a2 a3 a4 a5 a1 (qw (a1 * 6)) h))
set_option maxRecDepth 100000 in
theorem TX2_outcome_b34 {L : Nat} {xs : Nat → Int32} (a1 : Int) (a2 : Int) (a3 : Int) (a4 : Int) (a5 : Int) (h : qH) : qS L xs cX2_outcome "BottlePost$Drift" 12 6 1 34 [(0, qr 4), (1, qi a1), (2, qi a2), (3, qi a3), (4, qi a4), (5, qi a5)] [] h (DX2_outcome_b34 a1 a2 a3 a4 a5 h) := by
  unfold DX2_outcome_b34
  refine S_iload_n 1 dX2_outcome_34 rfl rfl rfl ?_
  refine S_bipush (a := 6) dX2_outcome_35 rfl (by decide) (by decide) ?_
  refine S_imul dX2_outcome_37 rfl ?_
  refine S_iload_n 2 dX2_outcome_38 rfl rfl rfl ?_
  refine S_iconst (a := (-1)) dX2_outcome_39 rfl (by decide) ?_
  refine S_icmp_ne (tgt := 47) dX2_outcome_40 (by decide) rfl (fun _ => ?_) (fun _ => ?_)
  · refine S_iload_n 2 dX2_outcome_47 rfl rfl rfl ?_
    exact TX2_outcome_b48 a1 a2 a3 a4 a5 a2 (qw (a1 * 6)) h
  · refine S_iload_n 1 dX2_outcome_43 rfl rfl rfl ?_
    refine S_goto (pc' := 48) dX2_outcome_44 (by decide) ?_
    exact TX2_outcome_b48 a1 a2 a3 a4 a5 a1 (qw (a1 * 6)) h
def DX2_outcome (a1 : Int) (a2 : Int) (a3 : Int) (a4 : Int) (h : qH) : Option (Int × qH) := (qbd (DX1_throwCell 5 a1 h) fun r21 h22 => (if ¬ r21 = (-1) then (if h22.2.2.1 = true then (DX2_outcome_b34 a1 a2 a3 a4 r21 h22) else (if h22.2.2.1 = true then none else qlt (qalo h22) fun h24 => (DX2_outcome_b34 a1 a2 a3 a4 r21 h24))) else some (1, h22)))
set_option maxRecDepth 100000 in
theorem TX2_outcome {L : Nat} {xs : Nat → Int32} (a1 : Int) (a2 : Int) (a3 : Int) (a4 : Int) (h : qH) : qMet L xs yX2_outcome cX2_outcome 12 (some .int) 1 6 [qr 4, qi a1, qi a2, qi a3, qi a4] h (DX2_outcome a1 a2 a3 a4 h) := by
  refine qMet.of (by decide +kernel) (Or.inr (Or.inl ⟨rfl, rfl⟩)) (Nat.le_of_ble_eq_true rfl) ?_
  show qS L xs cX2_outcome "BottlePost$Drift" 12 6 1 0 [(0, qr 4), (1, qi a1), (2, qi a2), (3, qi a3), (4, qi a4)] [] h (DX2_outcome a1 a2 a3 a4 h)
  unfold DX2_outcome
  refine S_aload_n 0 dX2_outcome_0 rfl rfl rfl ?_
  refine S_getr (j := 5) (o := 1) 0 qC_2 (by decide) (by decide) qk_4 rfl rfl (by decide) tw_236 dX2_outcome_1 rfl ?_
  refine S_iload_n 1 dX2_outcome_4 rfl rfl rfl ?_
  refine S_callV_i (as := [qi a1]) (st := []) (fun _ => rfl) (TX1_throwCell 5 a1 qk_5 h) yv_X1_throwCell tw_905 qC_1 qk_5 (by decide) rfl rfl (Nat.le_of_ble_eq_true rfl) dX2_outcome_5 rfl (fun r21 h22 e23 => ?_)
  refine S_istore (lv' := [(5, qi r21), (0, qr 4), (1, qi a1), (2, qi a2), (3, qi a3), (4, qi a4)]) dX2_outcome_8 (by decide) rfl rfl ?_
  refine S_iload 0 dX2_outcome_10 rfl rfl ?_
  refine S_iconst (a := (-1)) dX2_outcome_12 rfl (by decide) ?_
  refine S_icmp_ne (tgt := 18) dX2_outcome_13 (by decide) rfl (fun _ => ?_) (fun _ => ?_)
  · refine S_aload_n 1 dX2_outcome_18 rfl rfl rfl ?_
    refine S_geto qC_2 tw_244 dX2_outcome_19 rfl (fun gf => ?_) (fun gf => ?_)
    · refine S_ifnonnull_r (pc' := 34) dX2_outcome_22 (by decide) ?_
      refine S_sub [1, 2, 3, 4, 5, 0] rfl ?_
      exact TX2_outcome_b34 a1 a2 a3 a4 r21 h22
    · refine S_ifnonnull_n dX2_outcome_22 rfl ?_
      refine S_aload_n 1 dX2_outcome_25 rfl rfl rfl ?_
      refine S_sipush (a := 12960) dX2_outcome_26 rfl (by decide) (by decide) ?_
      refine S_ite (fun _ => S_none) (fun gf => ?_)
      refine S_alo gf qC_2 tw_244 dX2_outcome_29 dX2_outcome_31 rfl rfl ?_
      refine S_lh (fun h24 => ?_)
      refine S_sub [1, 2, 3, 4, 5, 0] rfl ?_
      exact TX2_outcome_b34 a1 a2 a3 a4 r21 h24
  · refine S_iconst (a := 1) dX2_outcome_16 rfl (by decide) ?_
    exact S_iret dX2_outcome_17
def DX2_tidesOf (a0 : Int) (h : qH) : Option (Int × qH) := some (qshr a0 3, h)
set_option maxRecDepth 100000 in
theorem TX2_tidesOf {L : Nat} {xs : Nat → Int32} (a0 : Int) (h : qH) : qMet L xs yX2_tidesOf cX2_tidesOf 1 (some .int) 1 1 [qi a0] h (DX2_tidesOf a0 h) := by
  refine qMet.of (by decide +kernel) (Or.inr (Or.inl ⟨rfl, rfl⟩)) (Nat.le_of_ble_eq_true rfl) ?_
  show qS L xs cX2_tidesOf "BottlePost$Drift" 1 1 1 0 [(0, qi a0)] [] h (DX2_tidesOf a0 h)
  unfold DX2_tidesOf
  refine S_iload_n 0 dX2_tidesOf_0 rfl rfl rfl ?_
  refine S_iconst (a := 3) dX2_tidesOf_1 rfl (by decide) ?_
  refine S_ishr dX2_tidesOf_2 rfl ?_
  exact S_iret dX2_tidesOf_3
def DX2_soonest_b52 (k6 : Int → Int → Int → Int → Int → qH → Option (Int × qH)) (k32 : Int → Int → Int → Int → Int → Int → qH → Option (Int × qH)) (a1 : Int) (a2 : Int) (a3 : Int) (a4 : Int) (a5 : Int) (a6 : Int) (b0 : Int) (b1 : Int) (b2 : Int) (h : qH) : Option (Int × qH) := (qbd (DX2_outcome b2 b1 b0 (qw (a3 + a5)) h) fun r1 h2 => (qbd (DX2_tidesOf r1 h2) fun r4 h5 => (qlt (qw (qw (qw (qw (a5 + r4) * 64) + qw (a5 * 2)) + a6)) fun v7 => (qbd (DX2_keeperOf r1 h5) fun r8 h9 => (if ¬ r8 = a2 then (k32 a1 a2 a3 a4 a5 (qw (a6 + 1)) h9) else (if a4 = (-1) then (k32 a1 a2 a3 v7 a5 (qw (a6 + 1)) h9) else (if a4 ≤ v7 then (k32 a1 a2 a3 a4 a5 (qw (a6 + 1)) h9) else (k32 a1 a2 a3 v7 a5 (qw (a6 + 1)) h9))))))))
set_option maxRecDepth 100000 in
theorem TX2_soonest_b52 {L : Nat} {xs : Nat → Int32} (k6 : Int → Int → Int → Int → Int → qH → Option (Int × qH)) (k32 : Int → Int → Int → Int → Int → Int → qH → Option (Int × qH)) (hk6 : ∀ (a1 : Int) (a2 : Int) (a3 : Int) (a4 : Int) (a5 : Int) (h : qH), qS L xs cX2_soonest "BottlePost$Drift" 9 7 1 6 [(0, qr 4), (1, qi a1), (2, qi a2), (3, qi a3), (4, qi a4), (5, qi a5)] [] h (k6 a1 a2 a3 a4 a5 h)) (hk32 : ∀ (a1 : Int) (a2 : Int) (a3 : Int) (a4 : Int) (a5 : Int) (a6 : Int) (h : qH), qS L xs cX2_soonest "BottlePost$Drift" 9 7 1 32 [(0, qr 4), (1, qi a1), (2, qi a2), (3, qi a3), (4, qi a4), (5, qi a5), (6, qi a6)] [] h (k32 a1 a2 a3 a4 a5 a6 h)) (a1 : Int) (a2 : Int) (a3 : Int) (a4 : Int) (a5 : Int) (a6 : Int) (b0 : Int) (b1 : Int) (b2 : Int) (h : qH) : qS L xs cX2_soonest "BottlePost$Drift" 9 7 1 52 [(0, qr 4), (1, qi a1), (2, qi a2), (3, qi a3), (4, qi a4), (5, qi a5), (6, qi a6)] [qi b0, qi b1, qi b2, qr 4] h (DX2_soonest_b52 k6 k32 a1 a2 a3 a4 a5 a6 b0 b1 b2 h) := by
  unfold DX2_soonest_b52
  refine S_iload_n 3 dX2_soonest_52 rfl rfl rfl ?_
  refine S_iload 5 dX2_soonest_53 rfl rfl ?_
  refine S_iadd dX2_soonest_55 rfl ?_
  refine S_callV_i (as := [qi b2, qi b1, qi b0, qi (qw (a3 + a5))]) (st := []) (fun _ => rfl) (TX2_outcome b2 b1 b0 (qw (a3 + a5)) h) yv_X2_outcome tw_1046 qC_2 qk_4 (by decide) rfl rfl (Nat.le_of_ble_eq_true rfl) dX2_soonest_56 rfl (fun r1 h2 e3 => ?_)
  refine S_istore (lv' := [(7, qi r1), (0, qr 4), (1, qi a1), (2, qi a2), (3, qi a3), (4, qi a4), (5, qi a5), (6, qi a6)]) dX2_soonest_59 (by decide) rfl rfl ?_
  refine S_iload 6 dX2_soonest_61 rfl rfl ?_
  refine S_iload 0 dX2_soonest_63 rfl rfl ?_
  refine S_callS_i (as := [qi r1]) (st := [qi a5]) (fun _ => rfl) (TX2_tidesOf r1 h2) yv_X2_tidesOf tw_1047 (by decide) rfl rfl (Nat.le_of_ble_eq_true rfl) dX2_soonest_65 rfl (fun r4 h5 e6 => ?_)
  refine S_iadd dX2_soonest_68 rfl ?_
  refine S_bipush (a := 64) dX2_soonest_69 rfl (by decide) (by decide) ?_
  refine S_imul dX2_soonest_71 rfl ?_
  refine S_iload 6 dX2_soonest_72 rfl rfl ?_
  refine S_iconst (a := 2) dX2_soonest_74 rfl (by decide) ?_
  refine S_imul dX2_soonest_75 rfl ?_
  refine S_iadd dX2_soonest_76 rfl ?_
  refine S_iload 7 dX2_soonest_77 rfl rfl ?_
  refine S_iadd dX2_soonest_79 rfl ?_
  refine S_istore (lv' := [(8, qi (qw (qw (qw (qw (a5 + r4) * 64) + qw (a5 * 2)) + a6))), (7, qi r1), (0, qr 4), (1, qi a1), (2, qi a2), (3, qi a3), (4, qi a4), (5, qi a5), (6, qi a6)]) dX2_soonest_80 (by decide) rfl rfl ?_
  refine S_li (fun v7 => ?_)
  refine S_iload 1 dX2_soonest_82 rfl rfl ?_
  refine S_callS_i (as := [qi r1]) (st := []) (fun _ => rfl) (TX2_keeperOf r1 h5) yv_X2_keeperOf tw_1048 (by decide) rfl rfl (Nat.le_of_ble_eq_true rfl) dX2_soonest_84 rfl (fun r8 h9 e10 => ?_)
  refine S_iload_n 4 dX2_soonest_87 rfl rfl rfl ?_
  refine S_icmp_ne (tgt := 108) dX2_soonest_88 (by decide) rfl (fun _ => ?_) (fun _ => ?_)
  · refine S_iinc (lv' := [(6, qi (qw (a6 + 1))), (8, qi v7), (7, qi r1), (0, qr 4), (1, qi a1), (2, qi a2), (3, qi a3), (4, qi a4), (5, qi a5)]) 8 dX2_soonest_108 rfl (by decide) rfl rfl ?_
    refine S_goto (pc' := 32) dX2_soonest_111 (by decide) ?_
    refine S_sub [3, 4, 5, 6, 7, 8, 0] rfl ?_
    exact hk32 a1 a2 a3 a4 a5 (qw (a6 + 1)) h9
  · refine S_iload 6 dX2_soonest_91 rfl rfl ?_
    refine S_iconst (a := (-1)) dX2_soonest_93 rfl (by decide) ?_
    refine S_icmp_eq (tgt := 104) dX2_soonest_94 (by decide) rfl (fun _ => ?_) (fun _ => ?_)
    · refine S_iload 0 dX2_soonest_104 rfl rfl ?_
      refine S_istore (lv' := [(4, qi v7), (8, qi v7), (7, qi r1), (0, qr 4), (1, qi a1), (2, qi a2), (3, qi a3), (5, qi a5), (6, qi a6)]) dX2_soonest_106 (by decide) rfl rfl ?_
      refine S_iinc (lv' := [(6, qi (qw (a6 + 1))), (4, qi v7), (8, qi v7), (7, qi r1), (0, qr 4), (1, qi a1), (2, qi a2), (3, qi a3), (5, qi a5)]) 8 dX2_soonest_108 rfl (by decide) rfl rfl ?_
      refine S_goto (pc' := 32) dX2_soonest_111 (by decide) ?_
      refine S_sub [4, 5, 6, 7, 1, 8, 0] rfl ?_
      exact hk32 a1 a2 a3 v7 a5 (qw (a6 + 1)) h9
    · refine S_iload 0 dX2_soonest_97 rfl rfl ?_
      refine S_iload 6 dX2_soonest_99 rfl rfl ?_
      refine S_icmp_ge (tgt := 108) dX2_soonest_101 (by decide) rfl (fun _ => ?_) (fun _ => ?_)
      · refine S_iinc (lv' := [(6, qi (qw (a6 + 1))), (8, qi v7), (7, qi r1), (0, qr 4), (1, qi a1), (2, qi a2), (3, qi a3), (4, qi a4), (5, qi a5)]) 8 dX2_soonest_108 rfl (by decide) rfl rfl ?_
        refine S_goto (pc' := 32) dX2_soonest_111 (by decide) ?_
        refine S_sub [3, 4, 5, 6, 7, 8, 0] rfl ?_
        exact hk32 a1 a2 a3 a4 a5 (qw (a6 + 1)) h9
      · refine S_iload 0 dX2_soonest_104 rfl rfl ?_
        refine S_istore (lv' := [(4, qi v7), (8, qi v7), (7, qi r1), (0, qr 4), (1, qi a1), (2, qi a2), (3, qi a3), (5, qi a5), (6, qi a6)]) dX2_soonest_106 (by decide) rfl rfl ?_
        refine S_iinc (lv' := [(6, qi (qw (a6 + 1))), (4, qi v7), (8, qi v7), (7, qi r1), (0, qr 4), (1, qi a1), (2, qi a2), (3, qi a3), (5, qi a5)]) 8 dX2_soonest_108 rfl (by decide) rfl rfl ?_
        refine S_goto (pc' := 32) dX2_soonest_111 (by decide) ?_
        refine S_sub [4, 5, 6, 7, 1, 8, 0] rfl ?_
        exact hk32 a1 a2 a3 v7 a5 (qw (a6 + 1)) h9
def DX2_soonest_l32 (k6 : Int → Int → Int → Int → Int → qH → Option (Int × qH)) : Nat → Int → Int → Int → Int → Int → Int → qH → Option (Int × qH)
  | 0, _, _, _, _, _, _, _ => none
  | n + 1, a1, a2, a3, a4, a5, a6, h => (if 2 ≤ a6 then (k6 a1 a2 a3 a4 (qw (a5 + 1)) h) else (if ¬ a6 = 1 then (DX2_soonest_b52 k6 (DX2_soonest_l32 k6 n) a1 a2 a3 a4 a5 a6 0 a2 a1 h) else (DX2_soonest_b52 k6 (DX2_soonest_l32 k6 n) a1 a2 a3 a4 a5 a6 1 a2 a1 h)))
set_option maxRecDepth 100000 in
theorem TX2_soonest_l32 {L : Nat} {xs : Nat → Int32} (k6 : Int → Int → Int → Int → Int → qH → Option (Int × qH)) (hk6 : ∀ (a1 : Int) (a2 : Int) (a3 : Int) (a4 : Int) (a5 : Int) (h : qH), qS L xs cX2_soonest "BottlePost$Drift" 9 7 1 6 [(0, qr 4), (1, qi a1), (2, qi a2), (3, qi a3), (4, qi a4), (5, qi a5)] [] h (k6 a1 a2 a3 a4 a5 h)) : ∀ (n : Nat) (a1 : Int) (a2 : Int) (a3 : Int) (a4 : Int) (a5 : Int) (a6 : Int) (h : qH), qS L xs cX2_soonest "BottlePost$Drift" 9 7 1 32 [(0, qr 4), (1, qi a1), (2, qi a2), (3, qi a3), (4, qi a4), (5, qi a5), (6, qi a6)] [] h (DX2_soonest_l32 k6 n a1 a2 a3 a4 a5 a6 h) := by
  intro n
  induction n with
  | zero =>
    intro a1 a2 a3 a4 a5 a6 h
    exact S_none
  | succ n ih =>
    intro a1 a2 a3 a4 a5 a6 h
    rw [DX2_soonest_l32.eq_2]
    refine S_iload 6 dX2_soonest_32 rfl rfl ?_
    refine S_iconst (a := 2) dX2_soonest_34 rfl (by decide) ?_
    refine S_icmp_ge (tgt := 114) dX2_soonest_35 (by decide) rfl (fun _ => ?_) (fun _ => ?_)
    · refine S_iinc (lv' := [(5, qi (qw (a5 + 1))), (0, qr 4), (1, qi a1), (2, qi a2), (3, qi a3), (4, qi a4), (6, qi a6)]) 5 dX2_soonest_114 rfl (by decide) rfl rfl ?_
      refine S_goto (pc' := 6) dX2_soonest_117 (by decide) ?_
      refine S_sub [1, 2, 3, 4, 5, 0] rfl ?_
      exact hk6 a1 a2 a3 a4 (qw (a5 + 1)) h
    · refine S_aload_n 0 dX2_soonest_38 rfl rfl rfl ?_
      refine S_iload_n 1 dX2_soonest_39 rfl rfl rfl ?_
      refine S_iload_n 2 dX2_soonest_40 rfl rfl rfl ?_
      refine S_iload 6 dX2_soonest_41 rfl rfl ?_
      refine S_iconst (a := 1) dX2_soonest_43 rfl (by decide) ?_
      refine S_icmp_ne (tgt := 51) dX2_soonest_44 (by decide) rfl (fun _ => ?_) (fun _ => ?_)
      · refine S_iconst (a := 0) dX2_soonest_51 rfl (by decide) ?_
        exact TX2_soonest_b52 k6 (DX2_soonest_l32 k6 n) hk6 ih a1 a2 a3 a4 a5 a6 0 a2 a1 h
      · refine S_iconst (a := 1) dX2_soonest_47 rfl (by decide) ?_
        refine S_goto (pc' := 52) dX2_soonest_48 (by decide) ?_
        exact TX2_soonest_b52 k6 (DX2_soonest_l32 k6 n) hk6 ih a1 a2 a3 a4 a5 a6 1 a2 a1 h
def DX2_soonest_l6 : Nat → Int → Int → Int → Int → Int → qH → Option (Int × qH)
  | 0, _, _, _, _, _, _ => none
  | n + 1, a1, a2, a3, a4, a5, h => (if 30 < a5 then some (a4, h) else (if a4 = (-1) then (DX2_soonest_l32 (DX2_soonest_l6 n) LF a1 a2 a3 a4 a5 0 h) else (if qshr a4 6 ≤ a5 then some (a4, h) else (DX2_soonest_l32 (DX2_soonest_l6 n) LF a1 a2 a3 a4 a5 0 h))))
set_option maxRecDepth 100000 in
theorem TX2_soonest_l6 {L : Nat} {xs : Nat → Int32} : ∀ (n : Nat) (a1 : Int) (a2 : Int) (a3 : Int) (a4 : Int) (a5 : Int) (h : qH), qS L xs cX2_soonest "BottlePost$Drift" 9 7 1 6 [(0, qr 4), (1, qi a1), (2, qi a2), (3, qi a3), (4, qi a4), (5, qi a5)] [] h (DX2_soonest_l6 n a1 a2 a3 a4 a5 h) := by
  intro n
  induction n with
  | zero =>
    intro a1 a2 a3 a4 a5 h
    exact S_none
  | succ n ih =>
    intro a1 a2 a3 a4 a5 h
    rw [DX2_soonest_l6.eq_2]
    refine S_iload 5 dX2_soonest_6 rfl rfl ?_
    refine S_bipush (a := 30) dX2_soonest_8 rfl (by decide) (by decide) ?_
    refine S_icmp_gt (tgt := 120) dX2_soonest_10 (by decide) rfl (fun _ => ?_) (fun _ => ?_)
    · refine S_iload 4 dX2_soonest_120 rfl rfl ?_
      exact S_iret dX2_soonest_122
    · refine S_iload 4 dX2_soonest_13 rfl rfl ?_
      refine S_iconst (a := (-1)) dX2_soonest_15 rfl (by decide) ?_
      refine S_icmp_eq (tgt := 29) dX2_soonest_16 (by decide) rfl (fun _ => ?_) (fun _ => ?_)
      · refine S_iconst (a := 0) dX2_soonest_29 rfl (by decide) ?_
        refine S_istore (lv' := [(6, qi 0), (0, qr 4), (1, qi a1), (2, qi a2), (3, qi a3), (4, qi a4), (5, qi a5)]) dX2_soonest_30 (by decide) rfl rfl ?_
        refine S_sub [1, 2, 3, 4, 5, 6, 0] rfl ?_
        exact TX2_soonest_l32 (DX2_soonest_l6 n) ih LF a1 a2 a3 a4 a5 0 h
      · refine S_iload 5 dX2_soonest_19 rfl rfl ?_
        refine S_iload 4 dX2_soonest_21 rfl rfl ?_
        refine S_bipush (a := 6) dX2_soonest_23 rfl (by decide) (by decide) ?_
        refine S_ishr dX2_soonest_25 rfl ?_
        refine S_icmp_ge (tgt := 120) dX2_soonest_26 (by decide) rfl (fun _ => ?_) (fun _ => ?_)
        · refine S_iload 4 dX2_soonest_120 rfl rfl ?_
          exact S_iret dX2_soonest_122
        · refine S_iconst (a := 0) dX2_soonest_29 rfl (by decide) ?_
          refine S_istore (lv' := [(6, qi 0), (0, qr 4), (1, qi a1), (2, qi a2), (3, qi a3), (4, qi a4), (5, qi a5)]) dX2_soonest_30 (by decide) rfl rfl ?_
          refine S_sub [1, 2, 3, 4, 5, 6, 0] rfl ?_
          exact TX2_soonest_l32 (DX2_soonest_l6 n) ih LF a1 a2 a3 a4 a5 0 h
def DX2_soonest (a1 : Int) (a2 : Int) (a3 : Int) (h : qH) : Option (Int × qH) := (DX2_soonest_l6 LF a1 a2 a3 (-1) 0 h)
set_option maxRecDepth 100000 in
theorem TX2_soonest {L : Nat} {xs : Nat → Int32} (a1 : Int) (a2 : Int) (a3 : Int) (h : qH) : qMet L xs yX2_soonest cX2_soonest 9 (some .int) 1 7 [qr 4, qi a1, qi a2, qi a3] h (DX2_soonest a1 a2 a3 h) := by
  refine qMet.of (by decide +kernel) (Or.inr (Or.inl ⟨rfl, rfl⟩)) (Nat.le_of_ble_eq_true rfl) ?_
  show qS L xs cX2_soonest "BottlePost$Drift" 9 7 1 0 [(0, qr 4), (1, qi a1), (2, qi a2), (3, qi a3)] [] h (DX2_soonest a1 a2 a3 h)
  unfold DX2_soonest
  refine S_iconst (a := (-1)) dX2_soonest_0 rfl (by decide) ?_
  refine S_istore (lv' := [(4, qi (-1)), (0, qr 4), (1, qi a1), (2, qi a2), (3, qi a3)]) dX2_soonest_1 (by decide) rfl rfl ?_
  refine S_iconst (a := 0) dX2_soonest_3 rfl (by decide) ?_
  refine S_istore (lv' := [(5, qi 0), (4, qi (-1)), (0, qr 4), (1, qi a1), (2, qi a2), (3, qi a3)]) dX2_soonest_4 (by decide) rfl rfl ?_
  refine S_sub [2, 3, 4, 5, 1, 0] rfl ?_
  exact TX2_soonest_l6 LF a1 a2 a3 (-1) 0 h
def DX2_waitOf (a0 : Int) (h : qH) : Option (Int × qH) := some (qand (qshr a0 1) 31, h)
set_option maxRecDepth 100000 in
theorem TX2_waitOf {L : Nat} {xs : Nat → Int32} (a0 : Int) (h : qH) : qMet L xs yX2_waitOf cX2_waitOf 1 (some .int) 1 1 [qi a0] h (DX2_waitOf a0 h) := by
  refine qMet.of (by decide +kernel) (Or.inr (Or.inl ⟨rfl, rfl⟩)) (Nat.le_of_ble_eq_true rfl) ?_
  show qS L xs cX2_waitOf "BottlePost$Drift" 1 1 1 0 [(0, qi a0)] [] h (DX2_waitOf a0 h)
  unfold DX2_waitOf
  refine S_iload_n 0 dX2_waitOf_0 rfl rfl rfl ?_
  refine S_iconst (a := 1) dX2_waitOf_1 rfl (by decide) ?_
  refine S_ishr dX2_waitOf_2 rfl ?_
  refine S_bipush (a := 31) dX2_waitOf_3 rfl (by decide) (by decide) ?_
  refine S_iand dX2_waitOf_5 rfl ?_
  exact S_iret dX2_waitOf_6
def DX2_weightOf (a0 : Int) (h : qH) : Option (Int × qH) := some (qand a0 1, h)
set_option maxRecDepth 100000 in
theorem TX2_weightOf {L : Nat} {xs : Nat → Int32} (a0 : Int) (h : qH) : qMet L xs yX2_weightOf cX2_weightOf 1 (some .int) 1 1 [qi a0] h (DX2_weightOf a0 h) := by
  refine qMet.of (by decide +kernel) (Or.inr (Or.inl ⟨rfl, rfl⟩)) (Nat.le_of_ble_eq_true rfl) ?_
  show qS L xs cX2_weightOf "BottlePost$Drift" 1 1 1 0 [(0, qi a0)] [] h (DX2_weightOf a0 h)
  unfold DX2_weightOf
  refine S_iload_n 0 dX2_weightOf_0 rfl rfl rfl ?_
  refine S_iconst (a := 1) dX2_weightOf_1 rfl (by decide) ?_
  refine S_iand dX2_weightOf_2 rfl ?_
  exact S_iret dX2_weightOf_3
def DX9_best (a1 : Int) (a2 : Int) (a3 : Int) (h : qH) : Option (Int × qH) := (qbd (DX9_pairCode a1 a2 h) fun r1 h2 => (if r1 = (-2) then some ((-2), h2) else (if a3 < 0 then some ((-2), h2) else (if a3 ≤ 2 then (if r1 = 0 then (qbd (DX2_soonest a1 a2 (h2.1 24 2) h2) fun r4 h5 => (if ¬ r4 = (-1) then (if ¬ a3 = 0 then (if ¬ a3 = 1 then (qbd (DX2_weightOf r4 h5) fun r7 h8 => some (r7, h8)) else (qbd (DX2_waitOf r4 h5) fun r10 h11 => some (r10, h11))) else (qbd (DX2_arrivalOf r4 h5) fun r13 h14 => some (r13, h14))) else some ((-1), h5))) else some (r1, h2)) else some ((-2), h2)))))
set_option maxRecDepth 100000 in
theorem TX9_best {L : Nat} {xs : Nat → Int32} (a1 : Int) (a2 : Int) (a3 : Int) (h : qH) : qMet L xs yX9_best cX9_best 6 (some .int) 1 8 [qr 0, qi a1, qi a2, qi a3] h (DX9_best a1 a2 a3 h) := by
  refine qMet.of (by decide +kernel) (Or.inr (Or.inl ⟨rfl, rfl⟩)) (Nat.le_of_ble_eq_true rfl) ?_
  show qS L xs cX9_best "BottlePost" 6 8 1 0 [(0, qr 0), (1, qi a1), (2, qi a2), (3, qi a3)] [] h (DX9_best a1 a2 a3 h)
  unfold DX9_best
  refine S_aload_n 0 dX9_best_0 rfl rfl rfl ?_
  refine S_iload_n 1 dX9_best_1 rfl rfl rfl ?_
  refine S_iload_n 2 dX9_best_2 rfl rfl rfl ?_
  refine S_callV_i (as := [qi a1, qi a2]) (st := []) (fun _ => rfl) (TX9_pairCode a1 a2 h) yv_X9_pairCode tw_1018 qC_9 qk_0 (by decide) rfl rfl (Nat.le_of_ble_eq_true rfl) dX9_best_3 rfl (fun r1 h2 e3 => ?_)
  refine S_istore (lv' := [(4, qi r1), (0, qr 0), (1, qi a1), (2, qi a2), (3, qi a3)]) dX9_best_6 (by decide) rfl rfl ?_
  refine S_iload 0 dX9_best_8 rfl rfl ?_
  refine S_bipush (a := (-2)) dX9_best_10 rfl (by decide) (by decide) ?_
  refine S_icmp_eq (tgt := 24) dX9_best_12 (by decide) rfl (fun _ => ?_) (fun _ => ?_)
  · refine S_bipush (a := (-2)) dX9_best_24 rfl (by decide) (by decide) ?_
    exact S_iret dX9_best_26
  · refine S_iload_n 4 dX9_best_15 rfl rfl rfl ?_
    refine S_if_lt (tgt := 24) dX9_best_16 (by decide) rfl (fun _ => ?_) (fun _ => ?_)
    · refine S_bipush (a := (-2)) dX9_best_24 rfl (by decide) (by decide) ?_
      exact S_iret dX9_best_26
    · refine S_iload_n 4 dX9_best_19 rfl rfl rfl ?_
      refine S_iconst (a := 2) dX9_best_20 rfl (by decide) ?_
      refine S_icmp_le (tgt := 27) dX9_best_21 (by decide) rfl (fun _ => ?_) (fun _ => ?_)
      · refine S_iload 0 dX9_best_27 rfl rfl ?_
        refine S_if_eq (tgt := 35) dX9_best_29 (by decide) rfl (fun _ => ?_) (fun _ => ?_)
        · refine S_aload_n 1 dX9_best_35 rfl rfl rfl ?_
          refine S_getr (j := 4) (o := 4) 3 qC_9 (by decide) (by decide) qk_0 rfl rfl (by decide) tw_384 dX9_best_36 rfl ?_
          refine S_iload_n 2 dX9_best_39 rfl rfl rfl ?_
          refine S_iload_n 3 dX9_best_40 rfl rfl rfl ?_
          refine S_aload_n 1 dX9_best_41 rfl rfl rfl ?_
          refine S_getr (j := 24) (o := 24) 5 qC_9 (by decide) (by decide) qk_0 rfl rfl (by decide) tw_386 dX9_best_42 rfl ?_
          refine S_geti 2 qC_7 (by decide) (by decide) qk_24 tw_276 dX9_best_45 rfl ?_
          refine S_callV_i (as := [qi a1, qi a2, qi (h2.1 24 2)]) (st := []) (fun _ => rfl) (TX2_soonest a1 a2 (h2.1 24 2) h2) yv_X2_soonest tw_1042 qC_2 qk_4 (by decide) rfl rfl (Nat.le_of_ble_eq_true rfl) dX9_best_48 rfl (fun r4 h5 e6 => ?_)
          refine S_istore (lv' := [(5, qi r4), (4, qi r1), (0, qr 0), (1, qi a1), (2, qi a2), (3, qi a3)]) dX9_best_51 (by decide) rfl rfl ?_
          refine S_iload 0 dX9_best_53 rfl rfl ?_
          refine S_iconst (a := (-1)) dX9_best_55 rfl (by decide) ?_
          refine S_icmp_ne (tgt := 61) dX9_best_56 (by decide) rfl (fun _ => ?_) (fun _ => ?_)
          · refine S_iload_n 5 dX9_best_61 rfl rfl rfl ?_
            refine S_if_ne (tgt := 71) dX9_best_62 (by decide) rfl (fun _ => ?_) (fun _ => ?_)
            · refine S_iload_n 5 dX9_best_71 rfl rfl rfl ?_
              refine S_iconst (a := 1) dX9_best_72 rfl (by decide) ?_
              refine S_icmp_ne (tgt := 84) dX9_best_73 (by decide) rfl (fun _ => ?_) (fun _ => ?_)
              · refine S_iload 0 dX9_best_84 rfl rfl ?_
                refine S_callS_i (as := [qi r4]) (st := []) (fun _ => rfl) (TX2_weightOf r4 h5) yv_X2_weightOf tw_1055 (by decide) rfl rfl (Nat.le_of_ble_eq_true rfl) dX9_best_86 rfl (fun r7 h8 e9 => ?_)
                exact S_iret dX9_best_89
              · refine S_iload 0 dX9_best_76 rfl rfl ?_
                refine S_callS_i (as := [qi r4]) (st := []) (fun _ => rfl) (TX2_waitOf r4 h5) yv_X2_waitOf tw_1052 (by decide) rfl rfl (Nat.le_of_ble_eq_true rfl) dX9_best_78 rfl (fun r10 h11 e12 => ?_)
                refine S_goto (pc' := 89) dX9_best_81 (by decide) ?_
                exact S_iret dX9_best_89
            · refine S_iload 0 dX9_best_65 rfl rfl ?_
              refine S_callS_i (as := [qi r4]) (st := []) (fun _ => rfl) (TX2_arrivalOf r4 h5) yv_X2_arrivalOf tw_1049 (by decide) rfl rfl (Nat.le_of_ble_eq_true rfl) dX9_best_67 rfl (fun r13 h14 e15 => ?_)
              exact S_iret dX9_best_70
          · refine S_iconst (a := (-1)) dX9_best_59 rfl (by decide) ?_
            exact S_iret dX9_best_60
        · refine S_iload 0 dX9_best_32 rfl rfl ?_
          exact S_iret dX9_best_34
      · refine S_bipush (a := (-2)) dX9_best_24 rfl (by decide) (by decide) ?_
        exact S_iret dX9_best_26
