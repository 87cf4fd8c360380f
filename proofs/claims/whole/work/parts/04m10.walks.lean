def DX10_windWord (a1 : Int) (a2 : Int) (a3 : Int) (h : qH) : Option (Int × qH) := (if ¬ a1 = 0 then (if ¬ a1 = 1 then (if ¬ a1 = 2 then (qbd (DX10_moonOf a3 h) fun r1 h2 => some (r1, h2)) else (qbd (DX10_phaseOf a3 h) fun r4 h5 => some (r4, h5))) else (if h.1 213 1 = 0 then none else some (qdiv a2 (h.1 213 1), h))) else (if h.1 213 1 = 0 then none else some (qrem a2 (h.1 213 1), h)))
set_option maxRecDepth 100000 in
theorem TX10_windWord {L : Nat} {xs : Nat → Int32} (a1 : Int) (a2 : Int) (a3 : Int) (h : qH) : qMet L xs yX10_windWord cX10_windWord 4 (some .int) 1 2 [qr 212, qi a1, qi a2, qi a3] h (DX10_windWord a1 a2 a3 h) := by
  refine qMet.of (by decide +kernel) (Or.inr (Or.inl ⟨rfl, rfl⟩)) (Nat.le_of_ble_eq_true rfl) ?_
  show qS L xs cX10_windWord "BottlePostModel" 4 2 1 0 [(0, qr 212), (1, qi a1), (2, qi a2), (3, qi a3)] [] h (DX10_windWord a1 a2 a3 h)
  unfold DX10_windWord
  refine S_iload_n 1 dX10_windWord_0 rfl rfl rfl ?_
  refine S_if_ne (tgt := 15) dX10_windWord_1 (by decide) rfl (fun _ => ?_) (fun _ => ?_)
  · refine S_iload_n 1 dX10_windWord_15 rfl rfl rfl ?_
    refine S_iconst (a := 1) dX10_windWord_16 rfl (by decide) ?_
    refine S_icmp_ne (tgt := 31) dX10_windWord_17 (by decide) rfl (fun _ => ?_) (fun _ => ?_)
    · refine S_iload_n 1 dX10_windWord_31 rfl rfl rfl ?_
      refine S_iconst (a := 2) dX10_windWord_32 rfl (by decide) ?_
      refine S_icmp_ne (tgt := 44) dX10_windWord_33 (by decide) rfl (fun _ => ?_) (fun _ => ?_)
      · refine S_aload_n 0 dX10_windWord_44 rfl rfl rfl ?_
        refine S_iload_n 3 dX10_windWord_45 rfl rfl rfl ?_
        refine S_callV_i (as := [qi a3]) (st := []) (fun _ => rfl) (TX10_moonOf a3 h) yv_X10_moonOf tw_1526 qC_10 qk_212 (by decide) rfl rfl (Nat.le_of_ble_eq_true rfl) dX10_windWord_46 rfl (fun r1 h2 e3 => ?_)
        exact S_iret dX10_windWord_49
      · refine S_aload_n 0 dX10_windWord_36 rfl rfl rfl ?_
        refine S_iload_n 3 dX10_windWord_37 rfl rfl rfl ?_
        refine S_callV_i (as := [qi a3]) (st := []) (fun _ => rfl) (TX10_phaseOf a3 h) yv_X10_phaseOf tw_1522 qC_10 qk_212 (by decide) rfl rfl (Nat.le_of_ble_eq_true rfl) dX10_windWord_38 rfl (fun r4 h5 e6 => ?_)
        refine S_goto (pc' := 49) dX10_windWord_41 (by decide) ?_
        exact S_iret dX10_windWord_49
    · refine S_iload_n 2 dX10_windWord_20 rfl rfl rfl ?_
      refine S_aload_n 0 dX10_windWord_21 rfl rfl rfl ?_
      refine S_getr (j := 213) (o := 1) 1 qC_10 (by decide) (by decide) qk_212 rfl rfl (by decide) tw_1227 dX10_windWord_22 rfl ?_
      refine S_iconst (a := 1) dX10_windWord_25 rfl (by decide) ?_
      refine S_pick_t ((0 : Int) ≤ 1 ∧ (1 : Int) < 5736) (by decide) ?_
      refine S_iald (N := 5736) qk_213 rfl dX10_windWord_26 rfl (fun g7 g8 => ?_)
      refine S_ite (fun _ => S_none) (fun gz => ?_)
      refine S_idiv dX10_windWord_27 rfl gz ?_
      refine S_goto (pc' := 49) dX10_windWord_28 (by decide) ?_
      exact S_iret dX10_windWord_49
  · refine S_iload_n 2 dX10_windWord_4 rfl rfl rfl ?_
    refine S_aload_n 0 dX10_windWord_5 rfl rfl rfl ?_
    refine S_getr (j := 213) (o := 1) 1 qC_10 (by decide) (by decide) qk_212 rfl rfl (by decide) tw_1227 dX10_windWord_6 rfl ?_
    refine S_iconst (a := 1) dX10_windWord_9 rfl (by decide) ?_
    refine S_pick_t ((0 : Int) ≤ 1 ∧ (1 : Int) < 5736) (by decide) ?_
    refine S_iald (N := 5736) qk_213 rfl dX10_windWord_10 rfl (fun g9 g10 => ?_)
    refine S_ite (fun _ => S_none) (fun gz => ?_)
    refine S_irem dX10_windWord_11 rfl gz ?_
    refine S_goto (pc' := 49) dX10_windWord_12 (by decide) ?_
    exact S_iret dX10_windWord_49
def DX10_reckons_l6 : Nat → Int → Int → Int → Int → Int → qH → Option (Int × qH)
  | 0, _, _, _, _, _, _ => none
  | n + 1, a1, a2, a3, a4, a5, h => (if 0 ≤ qw (12 + a1) ∧ qw (12 + a1) < 5736 then (if h.1 213 (qw (12 + a1)).toNat ≤ a5 then some (h.1 218 0, h) else (if 0 ≤ qw (10 + a1) ∧ qw (10 + a1) < 5736 then (if 0 ≤ qw (qw (1012 + h.1 213 (qw (10 + a1)).toNat) + a5) ∧ qw (qw (1012 + h.1 213 (qw (10 + a1)).toNat) + a5) < 5736 then (qlt (h.1 213 (qw (qw (1012 + h.1 213 (qw (10 + a1)).toNat) + a5)).toNat) fun v9 => (if 3000 ≤ v9 then (if ¬ v9 = 3008 then (qlt (qw (a4 + (-1))) fun v10 => (if 0 ≤ qw (v10 - 1) ∧ qw (v10 - 1) < 900 then (if 0 ≤ v10 ∧ v10 < 900 then (qbd (DX10_between v9 (h.1 218 (qw (v10 - 1)).toNat) (h.1 218 v10.toNat) h) fun r15 h16 => (if 0 ≤ qw (v10 - 1) ∧ qw (v10 - 1) < 900 then qlt (qu h16 218 (qw (v10 - 1)).toNat r15) fun h18 => ((DX10_reckons_l6 n) a1 a2 a3 v10 (qw (a5 + 1)) h18) else none)) else none) else none)) else (if 0 ≤ qw (a4 - 1) ∧ qw (a4 - 1) < 900 then (if 0 ≤ qw (a4 - 1) ∧ qw (a4 - 1) < 900 then qlt (qu h 218 (qw (a4 - 1)).toNat (qw (1 - h.1 218 (qw (a4 - 1)).toNat))) fun h21 => ((DX10_reckons_l6 n) a1 a2 a3 a4 (qw (a5 + 1)) h21) else none) else none)) else (if 1000 ≤ v9 then (if ¬ a1 = 0 then (qbd (DX10_keepsWord (qw (v9 - 1000)) a3 h) fun r22 h23 => (if 0 ≤ a4 ∧ a4 < 900 then qlt (qu h23 218 a4.toNat r22) fun h25 => (qlt (qw (a4 + 1)) fun v26 => ((DX10_reckons_l6 n) a1 a2 a3 v26 (qw (a5 + 1)) h25)) else none)) else (qbd (DX10_windWord (qw (v9 - 1000)) a2 a3 h) fun r27 h28 => (if 0 ≤ a4 ∧ a4 < 900 then qlt (qu h28 218 a4.toNat r27) fun h30 => (qlt (qw (a4 + 1)) fun v31 => ((DX10_reckons_l6 n) a1 a2 a3 v31 (qw (a5 + 1)) h30)) else none))) else (if 0 ≤ a4 ∧ a4 < 900 then qlt (qu h 218 a4.toNat v9) fun h32 => (qlt (qw (a4 + 1)) fun v33 => ((DX10_reckons_l6 n) a1 a2 a3 v33 (qw (a5 + 1)) h32)) else none)))) else none) else none)) else none)
set_option maxRecDepth 100000 in
theorem TX10_reckons_l6 {L : Nat} {xs : Nat → Int32} : ∀ (n : Nat) (a1 : Int) (a2 : Int) (a3 : Int) (a4 : Int) (a5 : Int) (h : qH), qS L xs cX10_reckons "BottlePostModel" 7 3 1 6 [(0, qr 212), (1, qi a1), (2, qi a2), (3, qi a3), (4, qi a4), (5, qi a5)] [] h (DX10_reckons_l6 n a1 a2 a3 a4 a5 h) := by
  intro n
  induction n with
  | zero =>
    intro a1 a2 a3 a4 a5 h
    exact S_none
  | succ n ih =>
    intro a1 a2 a3 a4 a5 h
    rw [DX10_reckons_l6.eq_2]
    refine S_iload 5 dX10_reckons_6 rfl rfl ?_
    refine S_aload_n 0 dX10_reckons_8 rfl rfl rfl ?_
    refine S_getr (j := 213) (o := 1) 1 qC_10 (by decide) (by decide) qk_212 rfl rfl (by decide) tw_1227 dX10_reckons_9 rfl ?_
    refine S_bipush (a := 12) dX10_reckons_12 rfl (by decide) (by decide) ?_
    refine S_iload_n 1 dX10_reckons_14 rfl rfl rfl ?_
    refine S_iadd dX10_reckons_15 rfl ?_
    refine S_iald (N := 5736) qk_213 rfl dX10_reckons_16 rfl (fun g1 g2 => ?_)
    refine S_icmp_ge (tgt := 177) dX10_reckons_17 (by decide) rfl (fun _ => ?_) (fun _ => ?_)
    · refine S_aload_n 0 dX10_reckons_177 rfl rfl rfl ?_
      refine S_getr (j := 218) (o := 6) 17 qC_10 (by decide) (by decide) qk_212 rfl rfl (by decide) tw_1243 dX10_reckons_178 rfl ?_
      refine S_iconst (a := 0) dX10_reckons_181 rfl (by decide) ?_
      refine S_pick_t ((0 : Int) ≤ 0 ∧ (0 : Int) < 900) (by decide) ?_
      refine S_iald (N := 900) qk_218 rfl dX10_reckons_182 rfl (fun g3 g4 => ?_)
      exact S_iret dX10_reckons_183
    · refine S_aload_n 0 dX10_reckons_20 rfl rfl rfl ?_
      refine S_getr (j := 213) (o := 1) 1 qC_10 (by decide) (by decide) qk_212 rfl rfl (by decide) tw_1227 dX10_reckons_21 rfl ?_
      refine S_sipush (a := 1012) dX10_reckons_24 rfl (by decide) (by decide) ?_
      refine S_aload_n 0 dX10_reckons_27 rfl rfl rfl ?_
      refine S_getr (j := 213) (o := 1) 1 qC_10 (by decide) (by decide) qk_212 rfl rfl (by decide) tw_1227 dX10_reckons_28 rfl ?_
      refine S_bipush (a := 10) dX10_reckons_31 rfl (by decide) (by decide) ?_
      refine S_iload_n 1 dX10_reckons_33 rfl rfl rfl ?_
      refine S_iadd dX10_reckons_34 rfl ?_
      refine S_iald (N := 5736) qk_213 rfl dX10_reckons_35 rfl (fun g5 g6 => ?_)
      refine S_iadd dX10_reckons_36 rfl ?_
      refine S_iload 5 dX10_reckons_37 rfl rfl ?_
      refine S_iadd dX10_reckons_39 rfl ?_
      refine S_iald (N := 5736) qk_213 rfl dX10_reckons_40 rfl (fun g7 g8 => ?_)
      refine S_istore (lv' := [(6, qi (h.1 213 (qw (qw (1012 + h.1 213 (qw (10 + a1)).toNat) + a5)).toNat)), (0, qr 212), (1, qi a1), (2, qi a2), (3, qi a3), (4, qi a4), (5, qi a5)]) dX10_reckons_41 (by decide) rfl rfl ?_
      refine S_li (fun v9 => ?_)
      refine S_iload 0 dX10_reckons_43 rfl rfl ?_
      refine S_sipush (a := 3000) dX10_reckons_45 rfl (by decide) (by decide) ?_
      refine S_icmp_ge (tgt := 107) dX10_reckons_48 (by decide) rfl (fun _ => ?_) (fun _ => ?_)
      · refine S_iload 0 dX10_reckons_107 rfl rfl ?_
        refine S_sipush (a := 3008) dX10_reckons_109 rfl (by decide) (by decide) ?_
        refine S_icmp_ne (tgt := 138) dX10_reckons_112 (by decide) rfl (fun _ => ?_) (fun _ => ?_)
        · refine S_iinc (lv' := [(4, qi (qw (a4 + (-1)))), (6, qi v9), (0, qr 212), (1, qi a1), (2, qi a2), (3, qi a3), (5, qi a5)]) 5 dX10_reckons_138 rfl (by decide) rfl rfl ?_
          refine S_li (fun v10 => ?_)
          refine S_aload_n 2 dX10_reckons_141 rfl rfl rfl ?_
          refine S_getr (j := 218) (o := 6) 17 qC_10 (by decide) (by decide) qk_212 rfl rfl (by decide) tw_1243 dX10_reckons_142 rfl ?_
          refine S_iload 0 dX10_reckons_145 rfl rfl ?_
          refine S_iconst (a := 1) dX10_reckons_147 rfl (by decide) ?_
          refine S_isub dX10_reckons_148 rfl ?_
          refine S_iload 1 dX10_reckons_149 rfl rfl ?_
          refine S_aload_n 2 dX10_reckons_151 rfl rfl rfl ?_
          refine S_getr (j := 218) (o := 6) 17 qC_10 (by decide) (by decide) qk_212 rfl rfl (by decide) tw_1243 dX10_reckons_152 rfl ?_
          refine S_iload 0 dX10_reckons_155 rfl rfl ?_
          refine S_iconst (a := 1) dX10_reckons_157 rfl (by decide) ?_
          refine S_isub dX10_reckons_158 rfl ?_
          refine S_iald (N := 900) qk_218 rfl dX10_reckons_159 rfl (fun g11 g12 => ?_)
          refine S_aload_n 2 dX10_reckons_160 rfl rfl rfl ?_
          refine S_getr (j := 218) (o := 6) 17 qC_10 (by decide) (by decide) qk_212 rfl rfl (by decide) tw_1243 dX10_reckons_161 rfl ?_
          refine S_iload 0 dX10_reckons_164 rfl rfl ?_
          refine S_iald (N := 900) qk_218 rfl dX10_reckons_166 rfl (fun g13 g14 => ?_)
          refine S_callS_i (as := [qi v9, qi (h.1 218 (qw (v10 - 1)).toNat), qi (h.1 218 v10.toNat)]) (st := [qi (qw (v10 - 1)), qr 218]) (fun _ => rfl) (TX10_between v9 (h.1 218 (qw (v10 - 1)).toNat) (h.1 218 v10.toNat) h) yv_X10_between tw_1534 (by decide) rfl rfl (Nat.le_of_ble_eq_true rfl) dX10_reckons_167 rfl (fun r15 h16 e17 => ?_)
          refine S_iast (N := 900) qk_218 rfl dX10_reckons_170 rfl (fun _ _ => ?_)
          refine S_lh (fun h18 => ?_)
          refine S_iinc (lv' := [(5, qi (qw (a5 + 1))), (4, qi v10), (6, qi v9), (0, qr 212), (1, qi a1), (2, qi a2), (3, qi a3)]) 6 dX10_reckons_171 rfl (by decide) rfl rfl ?_
          refine S_goto (pc' := 6) dX10_reckons_174 (by decide) ?_
          refine S_sub [3, 4, 5, 6, 1, 0] rfl ?_
          exact ih a1 a2 a3 v10 (qw (a5 + 1)) h18
        · refine S_aload_n 1 dX10_reckons_115 rfl rfl rfl ?_
          refine S_getr (j := 218) (o := 6) 17 qC_10 (by decide) (by decide) qk_212 rfl rfl (by decide) tw_1243 dX10_reckons_116 rfl ?_
          refine S_iload 5 dX10_reckons_119 rfl rfl ?_
          refine S_iconst (a := 1) dX10_reckons_121 rfl (by decide) ?_
          refine S_isub dX10_reckons_122 rfl ?_
          refine S_iconst (a := 1) dX10_reckons_123 rfl (by decide) ?_
          refine S_aload_n 1 dX10_reckons_124 rfl rfl rfl ?_
          refine S_getr (j := 218) (o := 6) 17 qC_10 (by decide) (by decide) qk_212 rfl rfl (by decide) tw_1243 dX10_reckons_125 rfl ?_
          refine S_iload 5 dX10_reckons_128 rfl rfl ?_
          refine S_iconst (a := 1) dX10_reckons_130 rfl (by decide) ?_
          refine S_isub dX10_reckons_131 rfl ?_
          refine S_iald (N := 900) qk_218 rfl dX10_reckons_132 rfl (fun g19 g20 => ?_)
          refine S_isub dX10_reckons_133 rfl ?_
          refine S_iast (N := 900) qk_218 rfl dX10_reckons_134 rfl (fun _ _ => ?_)
          refine S_lh (fun h21 => ?_)
          refine S_goto (pc' := 171) dX10_reckons_135 (by decide) ?_
          refine S_iinc (lv' := [(5, qi (qw (a5 + 1))), (6, qi v9), (0, qr 212), (1, qi a1), (2, qi a2), (3, qi a3), (4, qi a4)]) 6 dX10_reckons_171 rfl (by decide) rfl rfl ?_
          refine S_goto (pc' := 6) dX10_reckons_174 (by decide) ?_
          refine S_sub [2, 3, 4, 5, 6, 0] rfl ?_
          exact ih a1 a2 a3 a4 (qw (a5 + 1)) h21
      · refine S_aload_n 1 dX10_reckons_51 rfl rfl rfl ?_
        refine S_getr (j := 218) (o := 6) 17 qC_10 (by decide) (by decide) qk_212 rfl rfl (by decide) tw_1243 dX10_reckons_52 rfl ?_
        refine S_iload 5 dX10_reckons_55 rfl rfl ?_
        refine S_iload 0 dX10_reckons_57 rfl rfl ?_
        refine S_sipush (a := 1000) dX10_reckons_59 rfl (by decide) (by decide) ?_
        refine S_icmp_ge (tgt := 70) dX10_reckons_62 (by decide) rfl (fun _ => ?_) (fun _ => ?_)
        · refine S_iload_n 2 dX10_reckons_70 rfl rfl rfl ?_
          refine S_if_ne (tgt := 89) dX10_reckons_71 (by decide) rfl (fun _ => ?_) (fun _ => ?_)
          · refine S_aload_n 1 dX10_reckons_89 rfl rfl rfl ?_
            refine S_iload 0 dX10_reckons_90 rfl rfl ?_
            refine S_sipush (a := 1000) dX10_reckons_92 rfl (by decide) (by decide) ?_
            refine S_isub dX10_reckons_95 rfl ?_
            refine S_iload_n 4 dX10_reckons_96 rfl rfl rfl ?_
            refine S_callV_i (as := [qi (qw (v9 - 1000)), qi a3]) (st := [qi a4, qr 218]) (fun _ => rfl) (TX10_keepsWord (qw (v9 - 1000)) a3 h) yv_X10_keepsWord tw_1530 qC_10 qk_212 (by decide) rfl rfl (Nat.le_of_ble_eq_true rfl) dX10_reckons_97 rfl (fun r22 h23 e24 => ?_)
            refine S_iast (N := 900) qk_218 rfl dX10_reckons_100 rfl (fun _ _ => ?_)
            refine S_lh (fun h25 => ?_)
            refine S_iinc (lv' := [(4, qi (qw (a4 + 1))), (6, qi v9), (0, qr 212), (1, qi a1), (2, qi a2), (3, qi a3), (5, qi a5)]) 5 dX10_reckons_101 rfl (by decide) rfl rfl ?_
            refine S_li (fun v26 => ?_)
            refine S_goto (pc' := 171) dX10_reckons_104 (by decide) ?_
            refine S_iinc (lv' := [(5, qi (qw (a5 + 1))), (4, qi v26), (6, qi v9), (0, qr 212), (1, qi a1), (2, qi a2), (3, qi a3)]) 6 dX10_reckons_171 rfl (by decide) rfl rfl ?_
            refine S_goto (pc' := 6) dX10_reckons_174 (by decide) ?_
            refine S_sub [3, 4, 5, 6, 1, 0] rfl ?_
            exact ih a1 a2 a3 v26 (qw (a5 + 1)) h25
          · refine S_aload_n 1 dX10_reckons_74 rfl rfl rfl ?_
            refine S_iload 0 dX10_reckons_75 rfl rfl ?_
            refine S_sipush (a := 1000) dX10_reckons_77 rfl (by decide) (by decide) ?_
            refine S_isub dX10_reckons_80 rfl ?_
            refine S_iload_n 3 dX10_reckons_81 rfl rfl rfl ?_
            refine S_iload_n 4 dX10_reckons_82 rfl rfl rfl ?_
            refine S_callV_i (as := [qi (qw (v9 - 1000)), qi a2, qi a3]) (st := [qi a4, qr 218]) (fun _ => rfl) (TX10_windWord (qw (v9 - 1000)) a2 a3 h) yv_X10_windWord tw_1518 qC_10 qk_212 (by decide) rfl rfl (Nat.le_of_ble_eq_true rfl) dX10_reckons_83 rfl (fun r27 h28 e29 => ?_)
            refine S_goto (pc' := 100) dX10_reckons_86 (by decide) ?_
            refine S_iast (N := 900) qk_218 rfl dX10_reckons_100 rfl (fun _ _ => ?_)
            refine S_lh (fun h30 => ?_)
            refine S_iinc (lv' := [(4, qi (qw (a4 + 1))), (6, qi v9), (0, qr 212), (1, qi a1), (2, qi a2), (3, qi a3), (5, qi a5)]) 5 dX10_reckons_101 rfl (by decide) rfl rfl ?_
            refine S_li (fun v31 => ?_)
            refine S_goto (pc' := 171) dX10_reckons_104 (by decide) ?_
            refine S_iinc (lv' := [(5, qi (qw (a5 + 1))), (4, qi v31), (6, qi v9), (0, qr 212), (1, qi a1), (2, qi a2), (3, qi a3)]) 6 dX10_reckons_171 rfl (by decide) rfl rfl ?_
            refine S_goto (pc' := 6) dX10_reckons_174 (by decide) ?_
            refine S_sub [3, 4, 5, 6, 1, 0] rfl ?_
            exact ih a1 a2 a3 v31 (qw (a5 + 1)) h30
        · refine S_iload 0 dX10_reckons_65 rfl rfl ?_
          refine S_goto (pc' := 100) dX10_reckons_67 (by decide) ?_
          refine S_iast (N := 900) qk_218 rfl dX10_reckons_100 rfl (fun _ _ => ?_)
          refine S_lh (fun h32 => ?_)
          refine S_iinc (lv' := [(4, qi (qw (a4 + 1))), (6, qi v9), (0, qr 212), (1, qi a1), (2, qi a2), (3, qi a3), (5, qi a5)]) 5 dX10_reckons_101 rfl (by decide) rfl rfl ?_
          refine S_li (fun v33 => ?_)
          refine S_goto (pc' := 171) dX10_reckons_104 (by decide) ?_
          refine S_iinc (lv' := [(5, qi (qw (a5 + 1))), (4, qi v33), (6, qi v9), (0, qr 212), (1, qi a1), (2, qi a2), (3, qi a3)]) 6 dX10_reckons_171 rfl (by decide) rfl rfl ?_
          refine S_goto (pc' := 6) dX10_reckons_174 (by decide) ?_
          refine S_sub [3, 4, 5, 6, 1, 0] rfl ?_
          exact ih a1 a2 a3 v33 (qw (a5 + 1)) h32
def DX10_reckons (a1 : Int) (a2 : Int) (a3 : Int) (h : qH) : Option (Int × qH) := (DX10_reckons_l6 LF a1 a2 a3 0 0 h)
set_option maxRecDepth 100000 in
theorem TX10_reckons {L : Nat} {xs : Nat → Int32} (a1 : Int) (a2 : Int) (a3 : Int) (h : qH) : qMet L xs yX10_reckons cX10_reckons 7 (some .int) 1 3 [qr 212, qi a1, qi a2, qi a3] h (DX10_reckons a1 a2 a3 h) := by
  refine qMet.of (by decide +kernel) (Or.inr (Or.inl ⟨rfl, rfl⟩)) (Nat.le_of_ble_eq_true rfl) ?_
  show qS L xs cX10_reckons "BottlePostModel" 7 3 1 0 [(0, qr 212), (1, qi a1), (2, qi a2), (3, qi a3)] [] h (DX10_reckons a1 a2 a3 h)
  unfold DX10_reckons
  refine S_iconst (a := 0) dX10_reckons_0 rfl (by decide) ?_
  refine S_istore (lv' := [(4, qi 0), (0, qr 212), (1, qi a1), (2, qi a2), (3, qi a3)]) dX10_reckons_1 (by decide) rfl rfl ?_
  refine S_iconst (a := 0) dX10_reckons_3 rfl (by decide) ?_
  refine S_istore (lv' := [(5, qi 0), (4, qi 0), (0, qr 212), (1, qi a1), (2, qi a2), (3, qi a3)]) dX10_reckons_4 (by decide) rfl rfl ?_
  refine S_sub [2, 3, 4, 5, 1, 0] rfl ?_
  exact TX10_reckons_l6 LF a1 a2 a3 0 0 h
def DX10_isKept (a1 : Int) (a2 : Int) (h : qH) : Option (Int × qH) := (qlt (qu h 212 18 a1) fun h1 => (if h1.1 217 3 = a1 then some (1, h1) else (if h1.1 217 3 = (-1) then some (1, h1) else (if ¬ h1.1 213 9 = 1 then some (0, h1) else (qbd (DX10_reckons 1 0 a2 h1) fun r8 h9 => (if ¬ r8 = 1 then some (0, h9) else some (1, h9)))))))
set_option maxRecDepth 100000 in
theorem TX10_isKept {L : Nat} {xs : Nat → Int32} (a1 : Int) (a2 : Int) (h : qH) : qMet L xs yX10_isKept cX10_isKept 3 (some .boolean) 4 4 [qr 212, qi a1, qi a2] h (DX10_isKept a1 a2 h) := by
  refine qMet.of (by decide +kernel) (Or.inr (Or.inr (Or.inr (Or.inr (Or.inl ⟨rfl, rfl⟩))))) (Nat.le_of_ble_eq_true rfl) ?_
  show qS L xs cX10_isKept "BottlePostModel" 3 4 4 0 [(0, qr 212), (1, qi a1), (2, qi a2)] [] h (DX10_isKept a1 a2 h)
  unfold DX10_isKept
  refine S_aload_n 0 dX10_isKept_0 rfl rfl rfl ?_
  refine S_iload_n 1 dX10_isKept_1 rfl rfl rfl ?_
  refine S_puti 18 qC_10 (by decide) (by decide) rfl rfl qk_212 (by decide) tw_1244 dX10_isKept_2 rfl ?_
  refine S_lh (fun h1 => ?_)
  refine S_aload_n 0 dX10_isKept_5 rfl rfl rfl ?_
  refine S_getr (j := 217) (o := 5) 16 qC_10 (by decide) (by decide) qk_212 rfl rfl (by decide) tw_1242 dX10_isKept_6 rfl ?_
  refine S_iconst (a := 3) dX10_isKept_9 rfl (by decide) ?_
  refine S_pick_t ((0 : Int) ≤ 3 ∧ (3 : Int) < 8) (by decide) ?_
  refine S_iald (N := 8) qk_217 rfl dX10_isKept_10 rfl (fun g2 g3 => ?_)
  refine S_iload_n 1 dX10_isKept_11 rfl rfl rfl ?_
  refine S_icmp_eq (tgt := 47) dX10_isKept_12 (by decide) rfl (fun _ => ?_) (fun _ => ?_)
  · refine S_iconst (a := 1) dX10_isKept_47 rfl (by decide) ?_
    refine S_goto (pc' := 52) dX10_isKept_48 (by decide) ?_
    exact S_zretl (by decide) dX10_isKept_52
  · refine S_aload_n 0 dX10_isKept_15 rfl rfl rfl ?_
    refine S_getr (j := 217) (o := 5) 16 qC_10 (by decide) (by decide) qk_212 rfl rfl (by decide) tw_1242 dX10_isKept_16 rfl ?_
    refine S_iconst (a := 3) dX10_isKept_19 rfl (by decide) ?_
    refine S_pick_t ((0 : Int) ≤ 3 ∧ (3 : Int) < 8) (by decide) ?_
    refine S_iald (N := 8) qk_217 rfl dX10_isKept_20 rfl (fun g4 g5 => ?_)
    refine S_iconst (a := (-1)) dX10_isKept_21 rfl (by decide) ?_
    refine S_icmp_eq (tgt := 47) dX10_isKept_22 (by decide) rfl (fun _ => ?_) (fun _ => ?_)
    · refine S_iconst (a := 1) dX10_isKept_47 rfl (by decide) ?_
      refine S_goto (pc' := 52) dX10_isKept_48 (by decide) ?_
      exact S_zretl (by decide) dX10_isKept_52
    · refine S_aload_n 0 dX10_isKept_25 rfl rfl rfl ?_
      refine S_getr (j := 213) (o := 1) 1 qC_10 (by decide) (by decide) qk_212 rfl rfl (by decide) tw_1227 dX10_isKept_26 rfl ?_
      refine S_bipush (a := 9) dX10_isKept_29 rfl (by decide) (by decide) ?_
      refine S_pick_t ((0 : Int) ≤ 9 ∧ (9 : Int) < 5736) (by decide) ?_
      refine S_iald (N := 5736) qk_213 rfl dX10_isKept_31 rfl (fun g6 g7 => ?_)
      refine S_iconst (a := 1) dX10_isKept_32 rfl (by decide) ?_
      refine S_icmp_ne (tgt := 51) dX10_isKept_33 (by decide) rfl (fun _ => ?_) (fun _ => ?_)
      · refine S_iconst (a := 0) dX10_isKept_51 rfl (by decide) ?_
        exact S_zretl (by decide) dX10_isKept_52
      · refine S_aload_n 0 dX10_isKept_36 rfl rfl rfl ?_
        refine S_iconst (a := 1) dX10_isKept_37 rfl (by decide) ?_
        refine S_iconst (a := 0) dX10_isKept_38 rfl (by decide) ?_
        refine S_iload_n 2 dX10_isKept_39 rfl rfl rfl ?_
        refine S_callV_i (as := [qi 1, qi 0, qi a2]) (st := []) (fun _ => rfl) (TX10_reckons 1 0 a2 h1) yv_X10_reckons tw_1514 qC_10 qk_212 (by decide) rfl rfl (Nat.le_of_ble_eq_true rfl) dX10_isKept_40 rfl (fun r8 h9 e10 => ?_)
        refine S_iconst (a := 1) dX10_isKept_43 rfl (by decide) ?_
        refine S_icmp_ne (tgt := 51) dX10_isKept_44 (by decide) rfl (fun _ => ?_) (fun _ => ?_)
        · refine S_iconst (a := 0) dX10_isKept_51 rfl (by decide) ?_
          exact S_zretl (by decide) dX10_isKept_52
        · refine S_iconst (a := 1) dX10_isKept_47 rfl (by decide) ?_
          refine S_goto (pc' := 52) dX10_isKept_48 (by decide) ?_
          exact S_zretl (by decide) dX10_isKept_52
def DX10_isOpen (a1 : Int) (h : qH) : Option (Int × qH) := (if a1 = (-1) then some (0, h) else (if 0 ≤ qw (14 + a1) ∧ qw (14 + a1) < 5736 then (if ¬ h.1 213 (qw (14 + a1)).toNat = 0 then some (0, h) else some (1, h)) else none))
set_option maxRecDepth 100000 in
theorem TX10_isOpen {L : Nat} {xs : Nat → Int32} (a1 : Int) (h : qH) : qMet L xs yX10_isOpen cX10_isOpen 2 (some .boolean) 4 1 [qr 212, qi a1] h (DX10_isOpen a1 h) := by
  refine qMet.of (by decide +kernel) (Or.inr (Or.inr (Or.inr (Or.inr (Or.inl ⟨rfl, rfl⟩))))) (Nat.le_of_ble_eq_true rfl) ?_
  show qS L xs cX10_isOpen "BottlePostModel" 2 1 4 0 [(0, qr 212), (1, qi a1)] [] h (DX10_isOpen a1 h)
  unfold DX10_isOpen
  refine S_iload_n 1 dX10_isOpen_0 rfl rfl rfl ?_
  refine S_iconst (a := (-1)) dX10_isOpen_1 rfl (by decide) ?_
  refine S_icmp_eq (tgt := 21) dX10_isOpen_2 (by decide) rfl (fun _ => ?_) (fun _ => ?_)
  · refine S_iconst (a := 0) dX10_isOpen_21 rfl (by decide) ?_
    exact S_zretl (by decide) dX10_isOpen_22
  · refine S_aload_n 0 dX10_isOpen_5 rfl rfl rfl ?_
    refine S_getr (j := 213) (o := 1) 1 qC_10 (by decide) (by decide) qk_212 rfl rfl (by decide) tw_1227 dX10_isOpen_6 rfl ?_
    refine S_bipush (a := 14) dX10_isOpen_9 rfl (by decide) (by decide) ?_
    refine S_iload_n 1 dX10_isOpen_11 rfl rfl rfl ?_
    refine S_iadd dX10_isOpen_12 rfl ?_
    refine S_iald (N := 5736) qk_213 rfl dX10_isOpen_13 rfl (fun g1 g2 => ?_)
    refine S_if_ne (tgt := 21) dX10_isOpen_14 (by decide) rfl (fun _ => ?_) (fun _ => ?_)
    · refine S_iconst (a := 0) dX10_isOpen_21 rfl (by decide) ?_
      exact S_zretl (by decide) dX10_isOpen_22
    · refine S_iconst (a := 1) dX10_isOpen_17 rfl (by decide) ?_
      refine S_goto (pc' := 22) dX10_isOpen_18 (by decide) ?_
      exact S_zretl (by decide) dX10_isOpen_22
def DX10_throwsTo (a1 : Int) (h : qH) : Option (Int × qH) := (if 0 ≤ qw (266 + a1) ∧ qw (266 + a1) < 5736 then (if 0 ≤ qw (272 + a1) ∧ qw (272 + a1) < 5736 then (qbd (DX10_beyond (h.1 213 (qw (266 + a1)).toNat) (h.1 213 (qw (272 + a1)).toNat) h) fun r5 h6 => (qbd (DX10_isOpen r5 h6) fun r8 h9 => (if r8 = 0 then some ((-1), h9) else some (r5, h9)))) else none) else none)
set_option maxRecDepth 100000 in
theorem TX10_throwsTo {L : Nat} {xs : Nat → Int32} (a1 : Int) (h : qH) : qMet L xs yX10_throwsTo cX10_throwsTo 3 (some .int) 1 3 [qr 212, qi a1] h (DX10_throwsTo a1 h) := by
  refine qMet.of (by decide +kernel) (Or.inr (Or.inl ⟨rfl, rfl⟩)) (Nat.le_of_ble_eq_true rfl) ?_
  show qS L xs cX10_throwsTo "BottlePostModel" 3 3 1 0 [(0, qr 212), (1, qi a1)] [] h (DX10_throwsTo a1 h)
  unfold DX10_throwsTo
  refine S_aload_n 0 dX10_throwsTo_0 rfl rfl rfl ?_
  refine S_aload_n 0 dX10_throwsTo_1 rfl rfl rfl ?_
  refine S_getr (j := 213) (o := 1) 1 qC_10 (by decide) (by decide) qk_212 rfl rfl (by decide) tw_1227 dX10_throwsTo_2 rfl ?_
  refine S_sipush (a := 266) dX10_throwsTo_5 rfl (by decide) (by decide) ?_
  refine S_iload_n 1 dX10_throwsTo_8 rfl rfl rfl ?_
  refine S_iadd dX10_throwsTo_9 rfl ?_
  refine S_iald (N := 5736) qk_213 rfl dX10_throwsTo_10 rfl (fun g1 g2 => ?_)
  refine S_aload_n 0 dX10_throwsTo_11 rfl rfl rfl ?_
  refine S_getr (j := 213) (o := 1) 1 qC_10 (by decide) (by decide) qk_212 rfl rfl (by decide) tw_1227 dX10_throwsTo_12 rfl ?_
  refine S_sipush (a := 272) dX10_throwsTo_15 rfl (by decide) (by decide) ?_
  refine S_iload_n 1 dX10_throwsTo_18 rfl rfl rfl ?_
  refine S_iadd dX10_throwsTo_19 rfl ?_
  refine S_iald (N := 5736) qk_213 rfl dX10_throwsTo_20 rfl (fun g3 g4 => ?_)
  refine S_callV_i (as := [qi (h.1 213 (qw (266 + a1)).toNat), qi (h.1 213 (qw (272 + a1)).toNat)]) (st := []) (fun _ => rfl) (TX10_beyond (h.1 213 (qw (266 + a1)).toNat) (h.1 213 (qw (272 + a1)).toNat) h) yv_X10_beyond tw_1489 qC_10 qk_212 (by decide) rfl rfl (Nat.le_of_ble_eq_true rfl) dX10_throwsTo_21 rfl (fun r5 h6 e7 => ?_)
  refine S_istore_n (lv' := [(2, qi r5), (0, qr 212), (1, qi a1)]) dX10_throwsTo_24 rfl (by decide) rfl rfl ?_
  refine S_aload_n 1 dX10_throwsTo_25 rfl rfl rfl ?_
  refine S_iload_n 0 dX10_throwsTo_26 rfl rfl rfl ?_
  refine S_callV_i (as := [qi r5]) (st := []) (fun _ => rfl) (TX10_isOpen r5 h6) yv_X10_isOpen tw_1493 qC_10 qk_212 (by decide) rfl rfl (Nat.le_of_ble_eq_true rfl) dX10_throwsTo_27 rfl (fun r8 h9 e10 => ?_)
  refine S_if_eq (tgt := 37) dX10_throwsTo_30 (by decide) rfl (fun _ => ?_) (fun _ => ?_)
  · refine S_iconst (a := (-1)) dX10_throwsTo_37 rfl (by decide) ?_
    exact S_iret dX10_throwsTo_38
  · refine S_iload_n 0 dX10_throwsTo_33 rfl rfl rfl ?_
    refine S_goto (pc' := 38) dX10_throwsTo_34 (by decide) ?_
    exact S_iret dX10_throwsTo_38
def DX10_isFound (a1 : Int) (h : qH) : Option (Int × qH) := (if 0 ≤ qw (14 + h.1 217 1) ∧ qw (14 + h.1 217 1) < 5736 then (qlt (qw (h.1 213 (qw (14 + h.1 217 1)).toNat - 10)) fun v5 => (if v5 = h.1 212 19 then some (0, h) else (if 0 ≤ qw (278 + v5) ∧ qw (278 + v5) < 5736 then (qbd (DX10_phaseOf a1 h) fun r8 h9 => (qbd (DX10_isIn (h.1 213 (qw (278 + v5)).toNat) r8 h9) fun r11 h12 => (if ¬ r11 = 0 then (qbd (DX10_isKept v5 a1 h12) fun r14 h15 => (if r14 = 0 then (qlt (qu h15 217 6 (qw (h15.1 217 6 + 1))) fun h19 => (qbd (DX10_throwsTo v5 h19) fun r20 h21 => (if ¬ r20 = (-1) then (qbd (DX10_throwsTo v5 h21) fun r23 h24 => (qlt (qu h24 217 1 r23) fun h26 => (qlt (qu h26 217 0 0) fun h27 => some (0, h27)))) else some (0, h21)))) else (qlt (qu h15 217 0 2) fun h28 => (qlt (qu h28 217 7 v5) fun h29 => some (0, h29))))) else some (0, h12)))) else none))) else none)
set_option maxRecDepth 100000 in
theorem TX10_isFound {L : Nat} {xs : Nat → Int32} (a1 : Int) (h : qH) : qMet L xs yX10_isFound cX10_isFound 3 (none) 0 5 [qr 212, qi a1] h (DX10_isFound a1 h) := by
  refine qMet.of (by decide +kernel) (Or.inl ⟨rfl, rfl⟩) (Nat.le_of_ble_eq_true rfl) ?_
  show qS L xs cX10_isFound "BottlePostModel" 3 5 0 0 [(0, qr 212), (1, qi a1)] [] h (DX10_isFound a1 h)
  unfold DX10_isFound
  refine S_aload_n 0 dX10_isFound_0 rfl rfl rfl ?_
  refine S_getr (j := 213) (o := 1) 1 qC_10 (by decide) (by decide) qk_212 rfl rfl (by decide) tw_1227 dX10_isFound_1 rfl ?_
  refine S_bipush (a := 14) dX10_isFound_4 rfl (by decide) (by decide) ?_
  refine S_aload_n 0 dX10_isFound_6 rfl rfl rfl ?_
  refine S_getr (j := 217) (o := 5) 16 qC_10 (by decide) (by decide) qk_212 rfl rfl (by decide) tw_1242 dX10_isFound_7 rfl ?_
  refine S_iconst (a := 1) dX10_isFound_10 rfl (by decide) ?_
  refine S_pick_t ((0 : Int) ≤ 1 ∧ (1 : Int) < 8) (by decide) ?_
  refine S_iald (N := 8) qk_217 rfl dX10_isFound_11 rfl (fun g1 g2 => ?_)
  refine S_iadd dX10_isFound_12 rfl ?_
  refine S_iald (N := 5736) qk_213 rfl dX10_isFound_13 rfl (fun g3 g4 => ?_)
  refine S_bipush (a := 10) dX10_isFound_14 rfl (by decide) (by decide) ?_
  refine S_isub dX10_isFound_16 rfl ?_
  refine S_istore_n (lv' := [(2, qi (qw (h.1 213 (qw (14 + h.1 217 1)).toNat - 10))), (0, qr 212), (1, qi a1)]) dX10_isFound_17 rfl (by decide) rfl rfl ?_
  refine S_li (fun v5 => ?_)
  refine S_iload_n 0 dX10_isFound_18 rfl rfl rfl ?_
  refine S_aload_n 1 dX10_isFound_19 rfl rfl rfl ?_
  refine S_geti 19 qC_10 (by decide) (by decide) qk_212 tw_1245 dX10_isFound_20 rfl ?_
  refine S_icmp_eq (tgt := 48) dX10_isFound_23 (by decide) rfl (fun _ => ?_) (fun _ => ?_)
  · exact S_vret dX10_isFound_48
  · refine S_aload_n 1 dX10_isFound_26 rfl rfl rfl ?_
    refine S_getr (j := 213) (o := 1) 1 qC_10 (by decide) (by decide) qk_212 rfl rfl (by decide) tw_1227 dX10_isFound_27 rfl ?_
    refine S_sipush (a := 278) dX10_isFound_30 rfl (by decide) (by decide) ?_
    refine S_iload_n 0 dX10_isFound_33 rfl rfl rfl ?_
    refine S_iadd dX10_isFound_34 rfl ?_
    refine S_iald (N := 5736) qk_213 rfl dX10_isFound_35 rfl (fun g6 g7 => ?_)
    refine S_i2l dX10_isFound_36 rfl ?_
    refine S_aload_n 1 dX10_isFound_37 rfl rfl rfl ?_
    refine S_iload_n 2 dX10_isFound_38 rfl rfl rfl ?_
    refine S_callV_i (as := [qi a1]) (st := [ql (h.1 213 (qw (278 + v5)).toNat)]) (fun _ => rfl) (TX10_phaseOf a1 h) yv_X10_phaseOf tw_1522 qC_10 qk_212 (by decide) rfl rfl (Nat.le_of_ble_eq_true rfl) dX10_isFound_39 rfl (fun r8 h9 e10 => ?_)
    refine S_callS_i (as := [ql (h.1 213 (qw (278 + v5)).toNat), qi r8]) (st := []) (fun _ => rfl) (TX10_isIn (h.1 213 (qw (278 + v5)).toNat) r8 h9) yv_X10_isIn tw_1610 (by decide) rfl rfl (Nat.le_of_ble_eq_true rfl) dX10_isFound_42 rfl (fun r11 h12 e13 => ?_)
    refine S_if_ne (tgt := 49) dX10_isFound_45 (by decide) rfl (fun _ => ?_) (fun _ => ?_)
    · refine S_aload_n 1 dX10_isFound_49 rfl rfl rfl ?_
      refine S_iload_n 0 dX10_isFound_50 rfl rfl rfl ?_
      refine S_iload_n 2 dX10_isFound_51 rfl rfl rfl ?_
      refine S_callV_i (as := [qi v5, qi a1]) (st := []) (fun _ => rfl) (TX10_isKept v5 a1 h12) yv_X10_isKept tw_1613 qC_10 qk_212 (by decide) rfl rfl (Nat.le_of_ble_eq_true rfl) dX10_isFound_52 rfl (fun r14 h15 e16 => ?_)
      refine S_if_eq (tgt := 74) dX10_isFound_55 (by decide) rfl (fun _ => ?_) (fun _ => ?_)
      · refine S_aload_n 1 dX10_isFound_74 rfl rfl rfl ?_
        refine S_getr (j := 217) (o := 5) 16 qC_10 (by decide) (by decide) qk_212 rfl rfl (by decide) tw_1242 dX10_isFound_75 rfl ?_
        refine S_bipush (a := 6) dX10_isFound_78 rfl (by decide) (by decide) ?_
        refine S_dup2 dX10_isFound_80 rfl rfl rfl ?_
        refine S_pick_t ((0 : Int) ≤ 6 ∧ (6 : Int) < 8) (by decide) ?_
        refine S_iald (N := 8) qk_217 rfl dX10_isFound_81 rfl (fun g17 g18 => ?_)
        refine S_iconst (a := 1) dX10_isFound_82 rfl (by decide) ?_
        refine S_iadd dX10_isFound_83 rfl ?_
        refine S_pick_t ((0 : Int) ≤ 6 ∧ (6 : Int) < 8) (by decide) ?_
        refine S_iast (N := 8) qk_217 rfl dX10_isFound_84 rfl (fun _ _ => ?_)
        refine S_lh (fun h19 => ?_)
        refine S_aload_n 1 dX10_isFound_85 rfl rfl rfl ?_
        refine S_iload_n 0 dX10_isFound_86 rfl rfl rfl ?_
        refine S_callV_i (as := [qi v5]) (st := []) (fun _ => rfl) (TX10_throwsTo v5 h19) yv_X10_throwsTo tw_1485 qC_10 qk_212 (by decide) rfl rfl (Nat.le_of_ble_eq_true rfl) dX10_isFound_87 rfl (fun r20 h21 e22 => ?_)
        refine S_iconst (a := (-1)) dX10_isFound_90 rfl (by decide) ?_
        refine S_icmp_ne (tgt := 95) dX10_isFound_91 (by decide) rfl (fun _ => ?_) (fun _ => ?_)
        · refine S_aload_n 1 dX10_isFound_95 rfl rfl rfl ?_
          refine S_getr (j := 217) (o := 5) 16 qC_10 (by decide) (by decide) qk_212 rfl rfl (by decide) tw_1242 dX10_isFound_96 rfl ?_
          refine S_iconst (a := 1) dX10_isFound_99 rfl (by decide) ?_
          refine S_aload_n 1 dX10_isFound_100 rfl rfl rfl ?_
          refine S_iload_n 0 dX10_isFound_101 rfl rfl rfl ?_
          refine S_callV_i (as := [qi v5]) (st := [qi 1, qr 217]) (fun _ => rfl) (TX10_throwsTo v5 h21) yv_X10_throwsTo tw_1485 qC_10 qk_212 (by decide) rfl rfl (Nat.le_of_ble_eq_true rfl) dX10_isFound_102 rfl (fun r23 h24 e25 => ?_)
          refine S_pick_t ((0 : Int) ≤ 1 ∧ (1 : Int) < 8) (by decide) ?_
          refine S_iast (N := 8) qk_217 rfl dX10_isFound_105 rfl (fun _ _ => ?_)
          refine S_lh (fun h26 => ?_)
          refine S_aload_n 1 dX10_isFound_106 rfl rfl rfl ?_
          refine S_getr (j := 217) (o := 5) 16 qC_10 (by decide) (by decide) qk_212 rfl rfl (by decide) tw_1242 dX10_isFound_107 rfl ?_
          refine S_iconst (a := 0) dX10_isFound_110 rfl (by decide) ?_
          refine S_iconst (a := 0) dX10_isFound_111 rfl (by decide) ?_
          refine S_pick_t ((0 : Int) ≤ 0 ∧ (0 : Int) < 8) (by decide) ?_
          refine S_iast (N := 8) qk_217 rfl dX10_isFound_112 rfl (fun _ _ => ?_)
          refine S_lh (fun h27 => ?_)
          exact S_vret dX10_isFound_113
        · exact S_vret dX10_isFound_94
      · refine S_aload_n 1 dX10_isFound_58 rfl rfl rfl ?_
        refine S_getr (j := 217) (o := 5) 16 qC_10 (by decide) (by decide) qk_212 rfl rfl (by decide) tw_1242 dX10_isFound_59 rfl ?_
        refine S_iconst (a := 0) dX10_isFound_62 rfl (by decide) ?_
        refine S_iconst (a := 2) dX10_isFound_63 rfl (by decide) ?_
        refine S_pick_t ((0 : Int) ≤ 0 ∧ (0 : Int) < 8) (by decide) ?_
        refine S_iast (N := 8) qk_217 rfl dX10_isFound_64 rfl (fun _ _ => ?_)
        refine S_lh (fun h28 => ?_)
        refine S_aload_n 1 dX10_isFound_65 rfl rfl rfl ?_
        refine S_getr (j := 217) (o := 5) 16 qC_10 (by decide) (by decide) qk_212 rfl rfl (by decide) tw_1242 dX10_isFound_66 rfl ?_
        refine S_bipush (a := 7) dX10_isFound_69 rfl (by decide) (by decide) ?_
        refine S_iload_n 0 dX10_isFound_71 rfl rfl rfl ?_
        refine S_pick_t ((0 : Int) ≤ 7 ∧ (7 : Int) < 8) (by decide) ?_
        refine S_iast (N := 8) qk_217 rfl dX10_isFound_72 rfl (fun _ _ => ?_)
        refine S_lh (fun h29 => ?_)
        exact S_vret dX10_isFound_73
    · exact S_vret dX10_isFound_48
def DX10_isOn (h : qH) : Option (Int × qH) := (if h.1 217 0 = 0 then some (1, h) else (if ¬ h.1 217 0 = 1 then some (0, h) else some (1, h)))
set_option maxRecDepth 100000 in
theorem TX10_isOn {L : Nat} {xs : Nat → Int32} (h : qH) : qMet L xs yX10_isOn cX10_isOn 1 (some .boolean) 4 1 [qr 212] h (DX10_isOn h) := by
  refine qMet.of (by decide +kernel) (Or.inr (Or.inr (Or.inr (Or.inr (Or.inl ⟨rfl, rfl⟩))))) (Nat.le_of_ble_eq_true rfl) ?_
  show qS L xs cX10_isOn "BottlePostModel" 1 1 4 0 [(0, qr 212)] [] h (DX10_isOn h)
  unfold DX10_isOn
  refine S_aload_n 0 dX10_isOn_0 rfl rfl rfl ?_
  refine S_getr (j := 217) (o := 5) 16 qC_10 (by decide) (by decide) qk_212 rfl rfl (by decide) tw_1242 dX10_isOn_1 rfl ?_
  refine S_iconst (a := 0) dX10_isOn_4 rfl (by decide) ?_
  refine S_pick_t ((0 : Int) ≤ 0 ∧ (0 : Int) < 8) (by decide) ?_
  refine S_iald (N := 8) qk_217 rfl dX10_isOn_5 rfl (fun g1 g2 => ?_)
  refine S_if_eq (tgt := 19) dX10_isOn_6 (by decide) rfl (fun _ => ?_) (fun _ => ?_)
  · refine S_iconst (a := 1) dX10_isOn_19 rfl (by decide) ?_
    refine S_goto (pc' := 24) dX10_isOn_20 (by decide) ?_
    exact S_zretl (by decide) dX10_isOn_24
  · refine S_aload_n 0 dX10_isOn_9 rfl rfl rfl ?_
    refine S_getr (j := 217) (o := 5) 16 qC_10 (by decide) (by decide) qk_212 rfl rfl (by decide) tw_1242 dX10_isOn_10 rfl ?_
    refine S_iconst (a := 0) dX10_isOn_13 rfl (by decide) ?_
    refine S_pick_t ((0 : Int) ≤ 0 ∧ (0 : Int) < 8) (by decide) ?_
    refine S_iald (N := 8) qk_217 rfl dX10_isOn_14 rfl (fun g3 g4 => ?_)
    refine S_iconst (a := 1) dX10_isOn_15 rfl (by decide) ?_
    refine S_icmp_ne (tgt := 23) dX10_isOn_16 (by decide) rfl (fun _ => ?_) (fun _ => ?_)
    · refine S_iconst (a := 0) dX10_isOn_23 rfl (by decide) ?_
      exact S_zretl (by decide) dX10_isOn_24
    · refine S_iconst (a := 1) dX10_isOn_19 rfl (by decide) ?_
      refine S_goto (pc' := 24) dX10_isOn_20 (by decide) ?_
      exact S_zretl (by decide) dX10_isOn_24
def DX10_windOf (a1 : Int) (a2 : Int) (h : qH) : Option (Int × qH) := (if ¬ h.1 213 8 = 0 then (qbd (DX10_reckons 0 a1 a2 h) fun r3 h4 => (qlt (qrem r3 5) fun v6 => (if 0 ≤ v6 then some (v6, h4) else some (qw (v6 + 5), h4)))) else some (0, h))
set_option maxRecDepth 100000 in
theorem TX10_windOf {L : Nat} {xs : Nat → Int32} (a1 : Int) (a2 : Int) (h : qH) : qMet L xs yX10_windOf cX10_windOf 4 (some .int) 1 4 [qr 212, qi a1, qi a2] h (DX10_windOf a1 a2 h) := by
  refine qMet.of (by decide +kernel) (Or.inr (Or.inl ⟨rfl, rfl⟩)) (Nat.le_of_ble_eq_true rfl) ?_
  show qS L xs cX10_windOf "BottlePostModel" 4 4 1 0 [(0, qr 212), (1, qi a1), (2, qi a2)] [] h (DX10_windOf a1 a2 h)
  unfold DX10_windOf
  refine S_aload_n 0 dX10_windOf_0 rfl rfl rfl ?_
  refine S_getr (j := 213) (o := 1) 1 qC_10 (by decide) (by decide) qk_212 rfl rfl (by decide) tw_1227 dX10_windOf_1 rfl ?_
  refine S_bipush (a := 8) dX10_windOf_4 rfl (by decide) (by decide) ?_
  refine S_pick_t ((0 : Int) ≤ 8 ∧ (8 : Int) < 5736) (by decide) ?_
  refine S_iald (N := 5736) qk_213 rfl dX10_windOf_6 rfl (fun g1 g2 => ?_)
  refine S_if_ne (tgt := 12) dX10_windOf_7 (by decide) rfl (fun _ => ?_) (fun _ => ?_)
  · refine S_aload_n 0 dX10_windOf_12 rfl rfl rfl ?_
    refine S_iconst (a := 0) dX10_windOf_13 rfl (by decide) ?_
    refine S_iload_n 1 dX10_windOf_14 rfl rfl rfl ?_
    refine S_iload_n 2 dX10_windOf_15 rfl rfl rfl ?_
    refine S_callV_i (as := [qi 0, qi a1, qi a2]) (st := []) (fun _ => rfl) (TX10_reckons 0 a1 a2 h) yv_X10_reckons tw_1514 qC_10 qk_212 (by decide) rfl rfl (Nat.le_of_ble_eq_true rfl) dX10_windOf_16 rfl (fun r3 h4 e5 => ?_)
    refine S_iconst (a := 5) dX10_windOf_19 rfl (by decide) ?_
    refine S_irem dX10_windOf_20 rfl (by decide) ?_
    refine S_istore_n (lv' := [(3, qi (qrem r3 5)), (0, qr 212), (1, qi a1), (2, qi a2)]) dX10_windOf_21 rfl (by decide) rfl rfl ?_
    refine S_li (fun v6 => ?_)
    refine S_iload_n 0 dX10_windOf_22 rfl rfl rfl ?_
    refine S_if_ge (tgt := 32) dX10_windOf_23 (by decide) rfl (fun _ => ?_) (fun _ => ?_)
    · refine S_iload_n 0 dX10_windOf_32 rfl rfl rfl ?_
      exact S_iret dX10_windOf_33
    · refine S_iload_n 0 dX10_windOf_26 rfl rfl rfl ?_
      refine S_iconst (a := 5) dX10_windOf_27 rfl (by decide) ?_
      refine S_iadd dX10_windOf_28 rfl ?_
      refine S_goto (pc' := 33) dX10_windOf_29 (by decide) ?_
      exact S_iret dX10_windOf_33
  · refine S_iconst (a := 0) dX10_windOf_10 rfl (by decide) ?_
    exact S_iret dX10_windOf_11
def DX10_goesTide_b139 (a1 : Int) (h : qH) : Option (Int × qH) := (if ¬ h.1 217 0 = 1 then some (0, h) else (qbd (DX10_isFound a1 h) fun r3 h4 => some (0, h4)))
set_option maxRecDepth 100000 in
theorem TX10_goesTide_b139 {L : Nat} {xs : Nat → Int32} (a1 : Int) (h : qH) : qS L xs cX10_goesTide "BottlePostModel" 3 6 0 139 [(0, qr 212), (1, qi a1)] [] h (DX10_goesTide_b139 a1 h) := by
  unfold DX10_goesTide_b139
  refine S_aload_n 0 dX10_goesTide_139 rfl rfl rfl ?_
  refine S_getr (j := 217) (o := 5) 16 qC_10 (by decide) (by decide) qk_212 rfl rfl (by decide) tw_1242 dX10_goesTide_140 rfl ?_
  refine S_iconst (a := 0) dX10_goesTide_143 rfl (by decide) ?_
  refine S_pick_t ((0 : Int) ≤ 0 ∧ (0 : Int) < 8) (by decide) ?_
  refine S_iald (N := 8) qk_217 rfl dX10_goesTide_144 rfl (fun g1 g2 => ?_)
  refine S_iconst (a := 1) dX10_goesTide_145 rfl (by decide) ?_
  refine S_icmp_ne (tgt := 154) dX10_goesTide_146 (by decide) rfl (fun _ => ?_) (fun _ => ?_)
  · exact S_vret dX10_goesTide_154
  · refine S_aload_n 0 dX10_goesTide_149 rfl rfl rfl ?_
    refine S_iload_n 1 dX10_goesTide_150 rfl rfl rfl ?_
    refine S_callV_0 (as := [qi a1]) (st := []) (fun _ => rfl) (TX10_isFound a1 h) yv_X10_isFound tw_1606 qC_10 qk_212 (by decide) rfl rfl (Nat.le_of_ble_eq_true rfl) dX10_goesTide_151 rfl (fun r3 h4 e5 => ?_)
    exact S_vret dX10_goesTide_154
def DX10_goesTide_b75 (a1 : Int) (a2 : Int) (h : qH) : Option (Int × qH) := (qbd (DX10_isOn h) fun r6 h7 => (if ¬ r6 = 0 then (qlt (qu h7 217 5 (qw (h7.1 217 5 + 1))) fun h11 => (if ¬ h11.1 217 0 = 0 then (DX10_goesTide_b139 a1 h11) else (if ¬ a2 = 0 then (DX10_goesTide_b139 a1 h11) else (if h11.1 213 7 ≤ 0 then (DX10_goesTide_b139 a1 h11) else (if h11.1 217 5 < h11.1 213 7 then (DX10_goesTide_b139 a1 h11) else (qlt (qu h11 217 0 4) fun h20 => (DX10_goesTide_b139 a1 h20))))))) else some (0, h7)))
set_option maxRecDepth 100000 in
theorem TX10_goesTide_b75 {L : Nat} {xs : Nat → Int32} (a1 : Int) (a2 : Int) (h : qH) : qS L xs cX10_goesTide "BottlePostModel" 3 6 0 75 [(0, qr 212), (1, qi a1), (2, qi a2)] [] h (DX10_goesTide_b75 a1 a2 h) := by
  unfold DX10_goesTide_b75
  refine S_aload_n 0 dX10_goesTide_75 rfl rfl rfl ?_
  refine S_callV_i (as := []) (st := []) (fun _ => rfl) (TX10_isOn h) yv_X10_isOn tw_1590 qC_10 qk_212 (by decide) rfl rfl (Nat.le_of_ble_eq_true rfl) dX10_goesTide_76 rfl (fun r6 h7 e8 => ?_)
  refine S_if_ne (tgt := 83) dX10_goesTide_79 (by decide) rfl (fun _ => ?_) (fun _ => ?_)
  · refine S_aload_n 0 dX10_goesTide_83 rfl rfl rfl ?_
    refine S_getr (j := 217) (o := 5) 16 qC_10 (by decide) (by decide) qk_212 rfl rfl (by decide) tw_1242 dX10_goesTide_84 rfl ?_
    refine S_iconst (a := 5) dX10_goesTide_87 rfl (by decide) ?_
    refine S_dup2 dX10_goesTide_88 rfl rfl rfl ?_
    refine S_pick_t ((0 : Int) ≤ 5 ∧ (5 : Int) < 8) (by decide) ?_
    refine S_iald (N := 8) qk_217 rfl dX10_goesTide_89 rfl (fun g9 g10 => ?_)
    refine S_iconst (a := 1) dX10_goesTide_90 rfl (by decide) ?_
    refine S_iadd dX10_goesTide_91 rfl ?_
    refine S_pick_t ((0 : Int) ≤ 5 ∧ (5 : Int) < 8) (by decide) ?_
    refine S_iast (N := 8) qk_217 rfl dX10_goesTide_92 rfl (fun _ _ => ?_)
    refine S_lh (fun h11 => ?_)
    refine S_aload_n 0 dX10_goesTide_93 rfl rfl rfl ?_
    refine S_getr (j := 217) (o := 5) 16 qC_10 (by decide) (by decide) qk_212 rfl rfl (by decide) tw_1242 dX10_goesTide_94 rfl ?_
    refine S_iconst (a := 0) dX10_goesTide_97 rfl (by decide) ?_
    refine S_pick_t ((0 : Int) ≤ 0 ∧ (0 : Int) < 8) (by decide) ?_
    refine S_iald (N := 8) qk_217 rfl dX10_goesTide_98 rfl (fun g12 g13 => ?_)
    refine S_if_ne (tgt := 139) dX10_goesTide_99 (by decide) rfl (fun _ => ?_) (fun _ => ?_)
    · refine S_sub [0, 1] rfl ?_
      exact TX10_goesTide_b139 a1 h11
    · refine S_iload_n 2 dX10_goesTide_102 rfl rfl rfl ?_
      refine S_if_ne (tgt := 139) dX10_goesTide_103 (by decide) rfl (fun _ => ?_) (fun _ => ?_)
      · refine S_sub [0, 1] rfl ?_
        exact TX10_goesTide_b139 a1 h11
      · refine S_aload_n 0 dX10_goesTide_106 rfl rfl rfl ?_
        refine S_getr (j := 213) (o := 1) 1 qC_10 (by decide) (by decide) qk_212 rfl rfl (by decide) tw_1227 dX10_goesTide_107 rfl ?_
        refine S_bipush (a := 7) dX10_goesTide_110 rfl (by decide) (by decide) ?_
        refine S_pick_t ((0 : Int) ≤ 7 ∧ (7 : Int) < 5736) (by decide) ?_
        refine S_iald (N := 5736) qk_213 rfl dX10_goesTide_112 rfl (fun g14 g15 => ?_)
        refine S_if_le (tgt := 139) dX10_goesTide_113 (by decide) rfl (fun _ => ?_) (fun _ => ?_)
        · refine S_sub [0, 1] rfl ?_
          exact TX10_goesTide_b139 a1 h11
        · refine S_aload_n 0 dX10_goesTide_116 rfl rfl rfl ?_
          refine S_getr (j := 217) (o := 5) 16 qC_10 (by decide) (by decide) qk_212 rfl rfl (by decide) tw_1242 dX10_goesTide_117 rfl ?_
          refine S_iconst (a := 5) dX10_goesTide_120 rfl (by decide) ?_
          refine S_pick_t ((0 : Int) ≤ 5 ∧ (5 : Int) < 8) (by decide) ?_
          refine S_iald (N := 8) qk_217 rfl dX10_goesTide_121 rfl (fun g16 g17 => ?_)
          refine S_aload_n 0 dX10_goesTide_122 rfl rfl rfl ?_
          refine S_getr (j := 213) (o := 1) 1 qC_10 (by decide) (by decide) qk_212 rfl rfl (by decide) tw_1227 dX10_goesTide_123 rfl ?_
          refine S_bipush (a := 7) dX10_goesTide_126 rfl (by decide) (by decide) ?_
          refine S_pick_t ((0 : Int) ≤ 7 ∧ (7 : Int) < 5736) (by decide) ?_
          refine S_iald (N := 5736) qk_213 rfl dX10_goesTide_128 rfl (fun g18 g19 => ?_)
          refine S_icmp_lt (tgt := 139) dX10_goesTide_129 (by decide) rfl (fun _ => ?_) (fun _ => ?_)
          · refine S_sub [0, 1] rfl ?_
            exact TX10_goesTide_b139 a1 h11
          · refine S_aload_n 0 dX10_goesTide_132 rfl rfl rfl ?_
            refine S_getr (j := 217) (o := 5) 16 qC_10 (by decide) (by decide) qk_212 rfl rfl (by decide) tw_1242 dX10_goesTide_133 rfl ?_
            refine S_iconst (a := 0) dX10_goesTide_136 rfl (by decide) ?_
            refine S_iconst (a := 4) dX10_goesTide_137 rfl (by decide) ?_
            refine S_pick_t ((0 : Int) ≤ 0 ∧ (0 : Int) < 8) (by decide) ?_
            refine S_iast (N := 8) qk_217 rfl dX10_goesTide_138 rfl (fun _ _ => ?_)
            refine S_lh (fun h20 => ?_)
            refine S_sub [0, 1] rfl ?_
            exact TX10_goesTide_b139 a1 h20
  · exact S_vret dX10_goesTide_82
def DX10_goesTide_b42 (a1 : Int) (a2 : Int) (h : qH) : Option (Int × qH) := (if ¬ h.1 217 0 = 0 then (DX10_goesTide_b75 a1 a2 h) else (if ¬ h.1 217 4 = 0 then (DX10_goesTide_b75 a1 a2 h) else (qbd (DX10_windOf (h.1 217 1) a1 h) fun r27 h28 => (qbd (DX10_goes r27 h28) fun r30 h31 => (DX10_goesTide_b75 a1 a2 h31)))))
set_option maxRecDepth 100000 in
theorem TX10_goesTide_b42 {L : Nat} {xs : Nat → Int32} (a1 : Int) (a2 : Int) (h : qH) : qS L xs cX10_goesTide "BottlePostModel" 3 6 0 42 [(0, qr 212), (1, qi a1), (2, qi a2)] [] h (DX10_goesTide_b42 a1 a2 h) := by
  unfold DX10_goesTide_b42
  refine S_aload_n 0 dX10_goesTide_42 rfl rfl rfl ?_
  refine S_getr (j := 217) (o := 5) 16 qC_10 (by decide) (by decide) qk_212 rfl rfl (by decide) tw_1242 dX10_goesTide_43 rfl ?_
  refine S_iconst (a := 0) dX10_goesTide_46 rfl (by decide) ?_
  refine S_pick_t ((0 : Int) ≤ 0 ∧ (0 : Int) < 8) (by decide) ?_
  refine S_iald (N := 8) qk_217 rfl dX10_goesTide_47 rfl (fun g21 g22 => ?_)
  refine S_if_ne (tgt := 75) dX10_goesTide_48 (by decide) rfl (fun _ => ?_) (fun _ => ?_)
  · exact TX10_goesTide_b75 a1 a2 h
  · refine S_aload_n 0 dX10_goesTide_51 rfl rfl rfl ?_
    refine S_getr (j := 217) (o := 5) 16 qC_10 (by decide) (by decide) qk_212 rfl rfl (by decide) tw_1242 dX10_goesTide_52 rfl ?_
    refine S_iconst (a := 4) dX10_goesTide_55 rfl (by decide) ?_
    refine S_pick_t ((0 : Int) ≤ 4 ∧ (4 : Int) < 8) (by decide) ?_
    refine S_iald (N := 8) qk_217 rfl dX10_goesTide_56 rfl (fun g23 g24 => ?_)
    refine S_if_ne (tgt := 75) dX10_goesTide_57 (by decide) rfl (fun _ => ?_) (fun _ => ?_)
    · exact TX10_goesTide_b75 a1 a2 h
    · refine S_aload_n 0 dX10_goesTide_60 rfl rfl rfl ?_
      refine S_aload_n 0 dX10_goesTide_61 rfl rfl rfl ?_
      refine S_aload_n 0 dX10_goesTide_62 rfl rfl rfl ?_
      refine S_getr (j := 217) (o := 5) 16 qC_10 (by decide) (by decide) qk_212 rfl rfl (by decide) tw_1242 dX10_goesTide_63 rfl ?_
      refine S_iconst (a := 1) dX10_goesTide_66 rfl (by decide) ?_
      refine S_pick_t ((0 : Int) ≤ 1 ∧ (1 : Int) < 8) (by decide) ?_
      refine S_iald (N := 8) qk_217 rfl dX10_goesTide_67 rfl (fun g25 g26 => ?_)
      refine S_iload_n 1 dX10_goesTide_68 rfl rfl rfl ?_
      refine S_callV_i (as := [qi (h.1 217 1), qi a1]) (st := [qr 212]) (fun _ => rfl) (TX10_windOf (h.1 217 1) a1 h) yv_X10_windOf tw_1510 qC_10 qk_212 (by decide) rfl rfl (Nat.le_of_ble_eq_true rfl) dX10_goesTide_69 rfl (fun r27 h28 e29 => ?_)
      refine S_callV_0 (as := [qi r27]) (st := []) (fun _ => rfl) (TX10_goes r27 h28) yv_X10_goes tw_1602 qC_10 qk_212 (by decide) rfl rfl (Nat.le_of_ble_eq_true rfl) dX10_goesTide_72 rfl (fun r30 h31 e32 => ?_)
      exact TX10_goesTide_b75 a1 a2 h31
def DX10_goesTide (a1 : Int) (a2 : Int) (h : qH) : Option (Int × qH) := (qbd (DX10_isOn h) fun r33 h34 => (if ¬ r33 = 0 then (qbd (DX10_goesCurrent a1 h34) fun r36 h37 => (if h37.1 213 5 ≤ 0 then (DX10_goesTide_b42 a1 a2 h37) else (qbd (DX10_moonOf a1 h37) fun r41 h42 => (if h42.1 213 6 ≤ r41 then (DX10_goesTide_b42 a1 a2 h42) else (qbd (DX10_goesCurrent a1 h42) fun r46 h47 => (DX10_goesTide_b42 a1 a2 h47)))))) else some (0, h34)))
set_option maxRecDepth 100000 in
theorem TX10_goesTide {L : Nat} {xs : Nat → Int32} (a1 : Int) (a2 : Int) (h : qH) : qMet L xs yX10_goesTide cX10_goesTide 3 (none) 0 6 [qr 212, qi a1, qi a2] h (DX10_goesTide a1 a2 h) := by
  refine qMet.of (by decide +kernel) (Or.inl ⟨rfl, rfl⟩) (Nat.le_of_ble_eq_true rfl) ?_
  show qS L xs cX10_goesTide "BottlePostModel" 3 6 0 0 [(0, qr 212), (1, qi a1), (2, qi a2)] [] h (DX10_goesTide a1 a2 h)
  unfold DX10_goesTide
  refine S_aload_n 0 dX10_goesTide_0 rfl rfl rfl ?_
  refine S_callV_i (as := []) (st := []) (fun _ => rfl) (TX10_isOn h) yv_X10_isOn tw_1590 qC_10 qk_212 (by decide) rfl rfl (Nat.le_of_ble_eq_true rfl) dX10_goesTide_1 rfl (fun r33 h34 e35 => ?_)
  refine S_if_ne (tgt := 8) dX10_goesTide_4 (by decide) rfl (fun _ => ?_) (fun _ => ?_)
  · refine S_aload_n 0 dX10_goesTide_8 rfl rfl rfl ?_
    refine S_iload_n 1 dX10_goesTide_9 rfl rfl rfl ?_
    refine S_callV_0 (as := [qi a1]) (st := []) (fun _ => rfl) (TX10_goesCurrent a1 h34) yv_X10_goesCurrent tw_1598 qC_10 qk_212 (by decide) rfl rfl (Nat.le_of_ble_eq_true rfl) dX10_goesTide_10 rfl (fun r36 h37 e38 => ?_)
    refine S_aload_n 0 dX10_goesTide_13 rfl rfl rfl ?_
    refine S_getr (j := 213) (o := 1) 1 qC_10 (by decide) (by decide) qk_212 rfl rfl (by decide) tw_1227 dX10_goesTide_14 rfl ?_
    refine S_iconst (a := 5) dX10_goesTide_17 rfl (by decide) ?_
    refine S_pick_t ((0 : Int) ≤ 5 ∧ (5 : Int) < 5736) (by decide) ?_
    refine S_iald (N := 5736) qk_213 rfl dX10_goesTide_18 rfl (fun g39 g40 => ?_)
    refine S_if_le (tgt := 42) dX10_goesTide_19 (by decide) rfl (fun _ => ?_) (fun _ => ?_)
    · exact TX10_goesTide_b42 a1 a2 h37
    · refine S_aload_n 0 dX10_goesTide_22 rfl rfl rfl ?_
      refine S_iload_n 1 dX10_goesTide_23 rfl rfl rfl ?_
      refine S_callV_i (as := [qi a1]) (st := []) (fun _ => rfl) (TX10_moonOf a1 h37) yv_X10_moonOf tw_1526 qC_10 qk_212 (by decide) rfl rfl (Nat.le_of_ble_eq_true rfl) dX10_goesTide_24 rfl (fun r41 h42 e43 => ?_)
      refine S_aload_n 0 dX10_goesTide_27 rfl rfl rfl ?_
      refine S_getr (j := 213) (o := 1) 1 qC_10 (by decide) (by decide) qk_212 rfl rfl (by decide) tw_1227 dX10_goesTide_28 rfl ?_
      refine S_bipush (a := 6) dX10_goesTide_31 rfl (by decide) (by decide) ?_
      refine S_pick_t ((0 : Int) ≤ 6 ∧ (6 : Int) < 5736) (by decide) ?_
      refine S_iald (N := 5736) qk_213 rfl dX10_goesTide_33 rfl (fun g44 g45 => ?_)
      refine S_icmp_ge (tgt := 42) dX10_goesTide_34 (by decide) rfl (fun _ => ?_) (fun _ => ?_)
      · exact TX10_goesTide_b42 a1 a2 h42
      · refine S_aload_n 0 dX10_goesTide_37 rfl rfl rfl ?_
        refine S_iload_n 1 dX10_goesTide_38 rfl rfl rfl ?_
        refine S_callV_0 (as := [qi a1]) (st := []) (fun _ => rfl) (TX10_goesCurrent a1 h42) yv_X10_goesCurrent tw_1598 qC_10 qk_212 (by decide) rfl rfl (Nat.le_of_ble_eq_true rfl) dX10_goesTide_39 rfl (fun r46 h47 e48 => ?_)
        exact TX10_goesTide_b42 a1 a2 h47
  · exact S_vret dX10_goesTide_7
def DX10_loads_l2 : Nat → Int → Int → qH → Option (Int × qH)
  | 0, _, _, _ => none
  | n + 1, a1, a2, h => (if 8 ≤ a2 then some (0, h) else (if 0 ≤ qw (qw (284 + qw (8 * a1)) + a2) ∧ qw (qw (284 + qw (8 * a1)) + a2) < 5736 then (if 0 ≤ a2 ∧ a2 < 8 then qlt (qu h 217 a2.toNat (h.1 213 (qw (qw (284 + qw (8 * a1)) + a2)).toNat)) fun h3 => ((DX10_loads_l2 n) a1 (qw (a2 + 1)) h3) else none) else none))
set_option maxRecDepth 100000 in
theorem TX10_loads_l2 {L : Nat} {xs : Nat → Int32} : ∀ (n : Nat) (a1 : Int) (a2 : Int) (h : qH), qS L xs cX10_loads "BottlePostModel" 3 1 0 2 [(0, qr 212), (1, qi a1), (2, qi a2)] [] h (DX10_loads_l2 n a1 a2 h) := by
  intro n
  induction n with
  | zero =>
    intro a1 a2 h
    exact S_none
  | succ n ih =>
    intro a1 a2 h
    rw [DX10_loads_l2.eq_2]
    refine S_iload_n 2 dX10_loads_2 rfl rfl rfl ?_
    refine S_bipush (a := 8) dX10_loads_3 rfl (by decide) (by decide) ?_
    refine S_icmp_ge (tgt := 35) dX10_loads_5 (by decide) rfl (fun _ => ?_) (fun _ => ?_)
    · exact S_vret dX10_loads_35
    · refine S_aload_n 0 dX10_loads_8 rfl rfl rfl ?_
      refine S_getr (j := 217) (o := 5) 16 qC_10 (by decide) (by decide) qk_212 rfl rfl (by decide) tw_1242 dX10_loads_9 rfl ?_
      refine S_iload_n 2 dX10_loads_12 rfl rfl rfl ?_
      refine S_aload_n 0 dX10_loads_13 rfl rfl rfl ?_
      refine S_getr (j := 213) (o := 1) 1 qC_10 (by decide) (by decide) qk_212 rfl rfl (by decide) tw_1227 dX10_loads_14 rfl ?_
      refine S_sipush (a := 284) dX10_loads_17 rfl (by decide) (by decide) ?_
      refine S_bipush (a := 8) dX10_loads_20 rfl (by decide) (by decide) ?_
      refine S_iload_n 1 dX10_loads_22 rfl rfl rfl ?_
      refine S_imul dX10_loads_23 rfl ?_
      refine S_iadd dX10_loads_24 rfl ?_
      refine S_iload_n 2 dX10_loads_25 rfl rfl rfl ?_
      refine S_iadd dX10_loads_26 rfl ?_
      refine S_iald (N := 5736) qk_213 rfl dX10_loads_27 rfl (fun g1 g2 => ?_)
      refine S_iast (N := 8) qk_217 rfl dX10_loads_28 rfl (fun _ _ => ?_)
      refine S_lh (fun h3 => ?_)
      refine S_iinc (lv' := [(2, qi (qw (a2 + 1))), (0, qr 212), (1, qi a1)]) 2 dX10_loads_29 rfl (by decide) rfl rfl ?_
      refine S_goto (pc' := 2) dX10_loads_32 (by decide) ?_
      refine S_sub [1, 2, 0] rfl ?_
      exact ih a1 (qw (a2 + 1)) h3
def DX10_loads (a1 : Int) (h : qH) : Option (Int × qH) := (DX10_loads_l2 LF a1 0 h)
set_option maxRecDepth 100000 in
theorem TX10_loads {L : Nat} {xs : Nat → Int32} (a1 : Int) (h : qH) : qMet L xs yX10_loads cX10_loads 3 (none) 0 1 [qr 212, qi a1] h (DX10_loads a1 h) := by
  refine qMet.of (by decide +kernel) (Or.inl ⟨rfl, rfl⟩) (Nat.le_of_ble_eq_true rfl) ?_
  show qS L xs cX10_loads "BottlePostModel" 3 1 0 0 [(0, qr 212), (1, qi a1)] [] h (DX10_loads a1 h)
  unfold DX10_loads
  refine S_iconst (a := 0) dX10_loads_0 rfl (by decide) ?_
  refine S_istore_n (lv' := [(2, qi 0), (0, qr 212), (1, qi a1)]) dX10_loads_1 rfl (by decide) rfl rfl ?_
  refine S_sub [1, 2, 0] rfl ?_
  exact TX10_loads_l2 LF a1 0 h
def DX10_beenBy_b36 (k10 : Int → Int → Int → qH → Option (Int × qH)) (a2 : Int) (a3 : Int) (a5 : Int) (h : qH) : Option (Int × qH) := (qbd (DX10_goesTide (qw (h.1 213 349 + a5)) 0 h) fun r3 h4 => (k10 a2 a3 (qw (a5 + 1)) h4))
set_option maxRecDepth 100000 in
theorem TX10_beenBy_b36 {L : Nat} {xs : Nat → Int32} (k10 : Int → Int → Int → qH → Option (Int × qH)) (hk10 : ∀ (a2 : Int) (a3 : Int) (a5 : Int) (h : qH), qS L xs cX10_beenBy "BottlePostModel" 6 7 2 10 [(0, qr 212), (2, qi a2), (3, ql a3), (5, qi a5)] [] h (k10 a2 a3 a5 h)) (a2 : Int) (a3 : Int) (a5 : Int) (h : qH) : qS L xs cX10_beenBy "BottlePostModel" 6 7 2 36 [(0, qr 212), (2, qi a2), (3, ql a3), (5, qi a5)] [] h (DX10_beenBy_b36 k10 a2 a3 a5 h) := by
  unfold DX10_beenBy_b36
  refine S_aload_n 0 dX10_beenBy_36 rfl rfl rfl ?_
  refine S_aload_n 0 dX10_beenBy_37 rfl rfl rfl ?_
  refine S_getr (j := 213) (o := 1) 1 qC_10 (by decide) (by decide) qk_212 rfl rfl (by decide) tw_1227 dX10_beenBy_38 rfl ?_
  refine S_sipush (a := 349) dX10_beenBy_41 rfl (by decide) (by decide) ?_
  refine S_pick_t ((0 : Int) ≤ 349 ∧ (349 : Int) < 5736) (by decide) ?_
  refine S_iald (N := 5736) qk_213 rfl dX10_beenBy_44 rfl (fun g1 g2 => ?_)
  refine S_iload 3 dX10_beenBy_45 rfl rfl ?_
  refine S_iadd dX10_beenBy_47 rfl ?_
  refine S_iconst (a := 0) dX10_beenBy_48 rfl (by decide) ?_
  refine S_callV_0 (as := [qi (qw (h.1 213 349 + a5)), qi 0]) (st := []) (fun _ => rfl) (TX10_goesTide (qw (h.1 213 349 + a5)) 0 h) yv_X10_goesTide tw_1594 qC_10 qk_212 (by decide) rfl rfl (Nat.le_of_ble_eq_true rfl) dX10_beenBy_49 rfl (fun r3 h4 e5 => ?_)
  refine S_iinc (lv' := [(5, qi (qw (a5 + 1))), (0, qr 212), (2, qi a2), (3, ql a3)]) 3 dX10_beenBy_52 rfl (by decide) rfl rfl ?_
  refine S_goto (pc' := 10) dX10_beenBy_55 (by decide) ?_
  refine S_sub [1, 2, 3, 0] rfl ?_
  exact hk10 a2 a3 (qw (a5 + 1)) h4
def DX10_beenBy_l10 : Nat → Int → Int → Int → qH → Option (Int × qH)
  | 0, _, _, _, _ => none
  | n + 1, a2, a3, a5, h => (if a2 < a5 then some (a3, h) else (if ¬ h.1 217 0 = 0 then (DX10_beenBy_b36 (DX10_beenBy_l10 n) a2 a3 a5 h) else (DX10_beenBy_b36 (DX10_beenBy_l10 n) a2 (qorl a3 (qshll 1 (h.1 217 1))) a5 h)))
set_option maxRecDepth 100000 in
theorem TX10_beenBy_l10 {L : Nat} {xs : Nat → Int32} : ∀ (n : Nat) (a2 : Int) (a3 : Int) (a5 : Int) (h : qH), qS L xs cX10_beenBy "BottlePostModel" 6 7 2 10 [(0, qr 212), (2, qi a2), (3, ql a3), (5, qi a5)] [] h (DX10_beenBy_l10 n a2 a3 a5 h) := by
  intro n
  induction n with
  | zero =>
    intro a2 a3 a5 h
    exact S_none
  | succ n ih =>
    intro a2 a3 a5 h
    rw [DX10_beenBy_l10.eq_2]
    refine S_iload 3 dX10_beenBy_10 rfl rfl ?_
    refine S_iload_n 1 dX10_beenBy_12 rfl rfl rfl ?_
    refine S_icmp_gt (tgt := 58) dX10_beenBy_13 (by decide) rfl (fun _ => ?_) (fun _ => ?_)
    · refine S_lload_n 2 dX10_beenBy_58 rfl rfl rfl ?_
      exact S_lret dX10_beenBy_59
    · refine S_aload_n 0 dX10_beenBy_16 rfl rfl rfl ?_
      refine S_getr (j := 217) (o := 5) 16 qC_10 (by decide) (by decide) qk_212 rfl rfl (by decide) tw_1242 dX10_beenBy_17 rfl ?_
      refine S_iconst (a := 0) dX10_beenBy_20 rfl (by decide) ?_
      refine S_pick_t ((0 : Int) ≤ 0 ∧ (0 : Int) < 8) (by decide) ?_
      refine S_iald (N := 8) qk_217 rfl dX10_beenBy_21 rfl (fun g6 g7 => ?_)
      refine S_if_ne (tgt := 36) dX10_beenBy_22 (by decide) rfl (fun _ => ?_) (fun _ => ?_)
      · exact TX10_beenBy_b36 (DX10_beenBy_l10 n) ih a2 a3 a5 h
      · refine S_lload_n 2 dX10_beenBy_25 rfl rfl rfl ?_
        refine S_lconst (a := 1) dX10_beenBy_26 rfl (by decide) (by decide) ?_
        refine S_aload_n 0 dX10_beenBy_27 rfl rfl rfl ?_
        refine S_getr (j := 217) (o := 5) 16 qC_10 (by decide) (by decide) qk_212 rfl rfl (by decide) tw_1242 dX10_beenBy_28 rfl ?_
        refine S_iconst (a := 1) dX10_beenBy_31 rfl (by decide) ?_
        refine S_pick_t ((0 : Int) ≤ 1 ∧ (1 : Int) < 8) (by decide) ?_
        refine S_iald (N := 8) qk_217 rfl dX10_beenBy_32 rfl (fun g8 g9 => ?_)
        refine S_lshl dX10_beenBy_33 rfl ?_
        refine S_lor dX10_beenBy_34 rfl ?_
        refine S_lstore_n (lv' := [(3, ql (qorl a3 (qshll 1 (h.1 217 1)))), (0, qr 212), (2, qi a2), (5, qi a5)]) dX10_beenBy_35 rfl (by decide) rfl rfl ?_
        refine S_sub [1, 2, 0, 3] rfl ?_
        exact TX10_beenBy_b36 (DX10_beenBy_l10 n) ih a2 (qorl a3 (qshll 1 (h.1 217 1))) a5 h
def DX10_beenBy (a1 : Int) (a2 : Int) (h : qH) : Option (Int × qH) := (qbd (DX10_loads a1 h) fun r10 h11 => (DX10_beenBy_l10 LF a2 0 0 h11))
set_option maxRecDepth 100000 in
theorem TX10_beenBy {L : Nat} {xs : Nat → Int32} (a1 : Int) (a2 : Int) (h : qH) : qMet L xs yX10_beenBy cX10_beenBy 6 (some .long) 2 7 [qr 212, qi a1, qi a2] h (DX10_beenBy a1 a2 h) := by
  refine qMet.of (by decide +kernel) (Or.inr (Or.inr (Or.inl ⟨rfl, rfl⟩))) (Nat.le_of_ble_eq_true rfl) ?_
  show qS L xs cX10_beenBy "BottlePostModel" 6 7 2 0 [(0, qr 212), (1, qi a1), (2, qi a2)] [] h (DX10_beenBy a1 a2 h)
  unfold DX10_beenBy
  refine S_lconst (a := 0) dX10_beenBy_0 rfl (by decide) (by decide) ?_
  refine S_lstore_n (lv' := [(3, ql 0), (0, qr 212), (1, qi a1), (2, qi a2)]) dX10_beenBy_1 rfl (by decide) rfl rfl ?_
  refine S_aload_n 1 dX10_beenBy_2 rfl rfl rfl ?_
  refine S_iload_n 2 dX10_beenBy_3 rfl rfl rfl ?_
  refine S_callV_0 (as := [qi a1]) (st := []) (fun _ => rfl) (TX10_loads a1 h) yv_X10_loads tw_1586 qC_10 qk_212 (by decide) rfl rfl (Nat.le_of_ble_eq_true rfl) dX10_beenBy_4 rfl (fun r10 h11 e12 => ?_)
  refine S_iconst (a := 0) dX10_beenBy_7 rfl (by decide) ?_
  refine S_istore (lv' := [(5, qi 0), (3, ql 0), (0, qr 212), (1, qi a1), (2, qi a2)]) dX10_beenBy_8 (by decide) rfl rfl ?_
  refine S_sub [2, 4, 1, 0] rfl ?_
  exact TX10_beenBy_l10 LF a2 0 0 h11
def DX10_endsIn_l2 : Nat → Int → Int → Int → qH → Option (Int × qH)
  | 0, _, _, _, _ => none
  | n + 1, a1, a2, a3, h => (if a2 < a3 then some (1000000, h) else (qbd (DX10_isOn h) fun r1 h2 => (if ¬ r1 = 0 then (if a2 ≤ a3 then ((DX10_endsIn_l2 n) a1 a2 (qw (a3 + 1)) h2) else (qbd (DX10_goesTide (qw (a1 + a3)) 0 h2) fun r4 h5 => ((DX10_endsIn_l2 n) a1 a2 (qw (a3 + 1)) h5))) else some (a3, h2))))
set_option maxRecDepth 100000 in
theorem TX10_endsIn_l2 {L : Nat} {xs : Nat → Int32} : ∀ (n : Nat) (a1 : Int) (a2 : Int) (a3 : Int) (h : qH), qS L xs cX10_endsIn "BottlePostModel" 4 7 1 2 [(0, qr 212), (1, qi a1), (2, qi a2), (3, qi a3)] [] h (DX10_endsIn_l2 n a1 a2 a3 h) := by
  intro n
  induction n with
  | zero =>
    intro a1 a2 a3 h
    exact S_none
  | succ n ih =>
    intro a1 a2 a3 h
    rw [DX10_endsIn_l2.eq_2]
    refine S_iload_n 3 dX10_endsIn_2 rfl rfl rfl ?_
    refine S_iload_n 2 dX10_endsIn_3 rfl rfl rfl ?_
    refine S_icmp_gt (tgt := 35) dX10_endsIn_4 (by decide) rfl (fun _ => ?_) (fun _ => ?_)
    · refine S_ldcw (a := 1000000) dX10_endsIn_35 rfl (by rw [show Int32.ofInt 1000000 = (1000000 : Int32) from by decide]; exact tw_1695) (by decide) ?_
      exact S_iret dX10_endsIn_38
    · refine S_aload_n 0 dX10_endsIn_7 rfl rfl rfl ?_
      refine S_callV_i (as := []) (st := []) (fun _ => rfl) (TX10_isOn h) yv_X10_isOn tw_1590 qC_10 qk_212 (by decide) rfl rfl (Nat.le_of_ble_eq_true rfl) dX10_endsIn_8 rfl (fun r1 h2 e3 => ?_)
      refine S_if_ne (tgt := 16) dX10_endsIn_11 (by decide) rfl (fun _ => ?_) (fun _ => ?_)
      · refine S_iload_n 3 dX10_endsIn_16 rfl rfl rfl ?_
        refine S_iload_n 2 dX10_endsIn_17 rfl rfl rfl ?_
        refine S_icmp_ge (tgt := 29) dX10_endsIn_18 (by decide) rfl (fun _ => ?_) (fun _ => ?_)
        · refine S_iinc (lv' := [(3, qi (qw (a3 + 1))), (0, qr 212), (1, qi a1), (2, qi a2)]) 3 dX10_endsIn_29 rfl (by decide) rfl rfl ?_
          refine S_goto (pc' := 2) dX10_endsIn_32 (by decide) ?_
          refine S_sub [1, 2, 3, 0] rfl ?_
          exact ih a1 a2 (qw (a3 + 1)) h2
        · refine S_aload_n 0 dX10_endsIn_21 rfl rfl rfl ?_
          refine S_iload_n 1 dX10_endsIn_22 rfl rfl rfl ?_
          refine S_iload_n 3 dX10_endsIn_23 rfl rfl rfl ?_
          refine S_iadd dX10_endsIn_24 rfl ?_
          refine S_iconst (a := 0) dX10_endsIn_25 rfl (by decide) ?_
          refine S_callV_0 (as := [qi (qw (a1 + a3)), qi 0]) (st := []) (fun _ => rfl) (TX10_goesTide (qw (a1 + a3)) 0 h2) yv_X10_goesTide tw_1594 qC_10 qk_212 (by decide) rfl rfl (Nat.le_of_ble_eq_true rfl) dX10_endsIn_26 rfl (fun r4 h5 e6 => ?_)
          refine S_iinc (lv' := [(3, qi (qw (a3 + 1))), (0, qr 212), (1, qi a1), (2, qi a2)]) 3 dX10_endsIn_29 rfl (by decide) rfl rfl ?_
          refine S_goto (pc' := 2) dX10_endsIn_32 (by decide) ?_
          refine S_sub [1, 2, 3, 0] rfl ?_
          exact ih a1 a2 (qw (a3 + 1)) h5
      · refine S_iload_n 3 dX10_endsIn_14 rfl rfl rfl ?_
        exact S_iret dX10_endsIn_15
def DX10_endsIn (a1 : Int) (a2 : Int) (h : qH) : Option (Int × qH) := (DX10_endsIn_l2 LF a1 a2 0 h)
set_option maxRecDepth 100000 in
theorem TX10_endsIn {L : Nat} {xs : Nat → Int32} (a1 : Int) (a2 : Int) (h : qH) : qMet L xs yX10_endsIn cX10_endsIn 4 (some .int) 1 7 [qr 212, qi a1, qi a2] h (DX10_endsIn a1 a2 h) := by
  refine qMet.of (by decide +kernel) (Or.inr (Or.inl ⟨rfl, rfl⟩)) (Nat.le_of_ble_eq_true rfl) ?_
  show qS L xs cX10_endsIn "BottlePostModel" 4 7 1 0 [(0, qr 212), (1, qi a1), (2, qi a2)] [] h (DX10_endsIn a1 a2 h)
  unfold DX10_endsIn
  refine S_iconst (a := 0) dX10_endsIn_0 rfl (by decide) ?_
  refine S_istore_n (lv' := [(3, qi 0), (0, qr 212), (1, qi a1), (2, qi a2)]) dX10_endsIn_1 rfl (by decide) rfl rfl ?_
  refine S_sub [1, 2, 3, 0] rfl ?_
  exact TX10_endsIn_l2 LF a1 a2 0 h
def DX10_isThrown_b43 (b0 : Int) (b1 : Int) (h : qH) : Option (Int × qH) := (if 0 ≤ b1 ∧ b1 < 8 then qlt (qu h 217 b1.toNat b0) fun h1 => (qlt (qu h1 217 5 0) fun h2 => (qlt (qu h2 217 6 0) fun h3 => (qlt (qu h3 217 7 (-1)) fun h4 => some (0, h4)))) else none)
set_option maxRecDepth 100000 in
theorem TX10_isThrown_b43 {L : Nat} {xs : Nat → Int32} (b0 : Int) (b1 : Int) (h : qH) : qS L xs cX10_isThrown "BottlePostModel" 5 1 0 43 [(0, qr 212)] [qi b0, qi b1, qr 217] h (DX10_isThrown_b43 b0 b1 h) := by
  unfold DX10_isThrown_b43
  refine S_iast (N := 8) qk_217 rfl dX10_isThrown_43 rfl (fun _ _ => ?_)
  refine S_lh (fun h1 => ?_)
  refine S_aload_n 0 dX10_isThrown_44 rfl rfl rfl ?_
  refine S_getr (j := 217) (o := 5) 16 qC_10 (by decide) (by decide) qk_212 rfl rfl (by decide) tw_1242 dX10_isThrown_45 rfl ?_
  refine S_iconst (a := 5) dX10_isThrown_48 rfl (by decide) ?_
  refine S_iconst (a := 0) dX10_isThrown_49 rfl (by decide) ?_
  refine S_pick_t ((0 : Int) ≤ 5 ∧ (5 : Int) < 8) (by decide) ?_
  refine S_iast (N := 8) qk_217 rfl dX10_isThrown_50 rfl (fun _ _ => ?_)
  refine S_lh (fun h2 => ?_)
  refine S_aload_n 0 dX10_isThrown_51 rfl rfl rfl ?_
  refine S_getr (j := 217) (o := 5) 16 qC_10 (by decide) (by decide) qk_212 rfl rfl (by decide) tw_1242 dX10_isThrown_52 rfl ?_
  refine S_bipush (a := 6) dX10_isThrown_55 rfl (by decide) (by decide) ?_
  refine S_iconst (a := 0) dX10_isThrown_57 rfl (by decide) ?_
  refine S_pick_t ((0 : Int) ≤ 6 ∧ (6 : Int) < 8) (by decide) ?_
  refine S_iast (N := 8) qk_217 rfl dX10_isThrown_58 rfl (fun _ _ => ?_)
  refine S_lh (fun h3 => ?_)
  refine S_aload_n 0 dX10_isThrown_59 rfl rfl rfl ?_
  refine S_getr (j := 217) (o := 5) 16 qC_10 (by decide) (by decide) qk_212 rfl rfl (by decide) tw_1242 dX10_isThrown_60 rfl ?_
  refine S_bipush (a := 7) dX10_isThrown_63 rfl (by decide) (by decide) ?_
  refine S_iconst (a := (-1)) dX10_isThrown_65 rfl (by decide) ?_
  refine S_pick_t ((0 : Int) ≤ 7 ∧ (7 : Int) < 8) (by decide) ?_
  refine S_iast (N := 8) qk_217 rfl dX10_isThrown_66 rfl (fun _ _ => ?_)
  refine S_lh (fun h4 => ?_)
  exact S_vret dX10_isThrown_67
def DX10_isThrown (a1 : Int) (a2 : Int) (a3 : Int) (a4 : Int) (h : qH) : Option (Int × qH) := (qlt (qu h 217 0 0) fun h5 => (qlt (qu h5 217 1 a4) fun h6 => (qlt (qu h6 217 2 a1) fun h7 => (qlt (qu h7 217 3 a2) fun h8 => (if a3 = 0 then (DX10_isThrown_b43 0 4 h8) else (DX10_isThrown_b43 1 4 h8))))))
set_option maxRecDepth 100000 in
theorem TX10_isThrown {L : Nat} {xs : Nat → Int32} (a1 : Int) (a2 : Int) (a3 : Int) (a4 : Int) (h : qH) : qMet L xs yX10_isThrown cX10_isThrown 5 (none) 0 1 [qr 212, qi a1, qi a2, qi a3, qi a4] h (DX10_isThrown a1 a2 a3 a4 h) := by
  refine qMet.of (by decide +kernel) (Or.inl ⟨rfl, rfl⟩) (Nat.le_of_ble_eq_true rfl) ?_
  show qS L xs cX10_isThrown "BottlePostModel" 5 1 0 0 [(0, qr 212), (1, qi a1), (2, qi a2), (3, qi a3), (4, qi a4)] [] h (DX10_isThrown a1 a2 a3 a4 h)
  unfold DX10_isThrown
  refine S_aload_n 0 dX10_isThrown_0 rfl rfl rfl ?_
  refine S_getr (j := 217) (o := 5) 16 qC_10 (by decide) (by decide) qk_212 rfl rfl (by decide) tw_1242 dX10_isThrown_1 rfl ?_
  refine S_iconst (a := 0) dX10_isThrown_4 rfl (by decide) ?_
  refine S_iconst (a := 0) dX10_isThrown_5 rfl (by decide) ?_
  refine S_pick_t ((0 : Int) ≤ 0 ∧ (0 : Int) < 8) (by decide) ?_
  refine S_iast (N := 8) qk_217 rfl dX10_isThrown_6 rfl (fun _ _ => ?_)
  refine S_lh (fun h5 => ?_)
  refine S_aload_n 0 dX10_isThrown_7 rfl rfl rfl ?_
  refine S_getr (j := 217) (o := 5) 16 qC_10 (by decide) (by decide) qk_212 rfl rfl (by decide) tw_1242 dX10_isThrown_8 rfl ?_
  refine S_iconst (a := 1) dX10_isThrown_11 rfl (by decide) ?_
  refine S_iload 4 dX10_isThrown_12 rfl rfl ?_
  refine S_pick_t ((0 : Int) ≤ 1 ∧ (1 : Int) < 8) (by decide) ?_
  refine S_iast (N := 8) qk_217 rfl dX10_isThrown_14 rfl (fun _ _ => ?_)
  refine S_lh (fun h6 => ?_)
  refine S_aload_n 0 dX10_isThrown_15 rfl rfl rfl ?_
  refine S_getr (j := 217) (o := 5) 16 qC_10 (by decide) (by decide) qk_212 rfl rfl (by decide) tw_1242 dX10_isThrown_16 rfl ?_
  refine S_iconst (a := 2) dX10_isThrown_19 rfl (by decide) ?_
  refine S_iload_n 1 dX10_isThrown_20 rfl rfl rfl ?_
  refine S_pick_t ((0 : Int) ≤ 2 ∧ (2 : Int) < 8) (by decide) ?_
  refine S_iast (N := 8) qk_217 rfl dX10_isThrown_21 rfl (fun _ _ => ?_)
  refine S_lh (fun h7 => ?_)
  refine S_aload_n 0 dX10_isThrown_22 rfl rfl rfl ?_
  refine S_getr (j := 217) (o := 5) 16 qC_10 (by decide) (by decide) qk_212 rfl rfl (by decide) tw_1242 dX10_isThrown_23 rfl ?_
  refine S_iconst (a := 3) dX10_isThrown_26 rfl (by decide) ?_
  refine S_iload_n 2 dX10_isThrown_27 rfl rfl rfl ?_
  refine S_pick_t ((0 : Int) ≤ 3 ∧ (3 : Int) < 8) (by decide) ?_
  refine S_iast (N := 8) qk_217 rfl dX10_isThrown_28 rfl (fun _ _ => ?_)
  refine S_lh (fun h8 => ?_)
  refine S_aload_n 0 dX10_isThrown_29 rfl rfl rfl ?_
  refine S_getr (j := 217) (o := 5) 16 qC_10 (by decide) (by decide) qk_212 rfl rfl (by decide) tw_1242 dX10_isThrown_30 rfl ?_
  refine S_iconst (a := 4) dX10_isThrown_33 rfl (by decide) ?_
  refine S_iload_n 3 dX10_isThrown_34 rfl rfl rfl ?_
  refine S_if_eq (tgt := 42) dX10_isThrown_35 (by decide) rfl (fun _ => ?_) (fun _ => ?_)
  · refine S_iconst (a := 0) dX10_isThrown_42 rfl (by decide) ?_
    refine S_sub [0] rfl ?_
    exact TX10_isThrown_b43 0 4 h8
  · refine S_iconst (a := 1) dX10_isThrown_38 rfl (by decide) ?_
    refine S_goto (pc' := 43) dX10_isThrown_39 (by decide) ?_
    refine S_sub [0] rfl ?_
    exact TX10_isThrown_b43 1 4 h8
def DX10_keptBy (a1 : Int) (a2 : Int) (a3 : Int) (a4 : Int) (h : qH) : Option (Int × qH) := (qbd (DX10_throwsTo a1 h) fun r1 h2 => (qbd (DX10_isThrown a1 a2 a3 r1 h2) fun r4 h5 => (qbd (DX10_endsIn a4 200 h5) fun r7 h8 => (qlt (qu h8 212 23 r7) fun h10 => (if h10.1 212 23 = 1000000 then some ((-1), h10) else (if ¬ h10.1 217 0 = 2 then some ((-1), h10) else some (h10.1 217 7, h10)))))))
set_option maxRecDepth 100000 in
theorem TX10_keptBy {L : Nat} {xs : Nat → Int32} (a1 : Int) (a2 : Int) (a3 : Int) (a4 : Int) (h : qH) : qMet L xs yX10_keptBy cX10_keptBy 5 (some .int) 1 8 [qr 212, qi a1, qi a2, qi a3, qi a4] h (DX10_keptBy a1 a2 a3 a4 h) := by
  refine qMet.of (by decide +kernel) (Or.inr (Or.inl ⟨rfl, rfl⟩)) (Nat.le_of_ble_eq_true rfl) ?_
  show qS L xs cX10_keptBy "BottlePostModel" 5 8 1 0 [(0, qr 212), (1, qi a1), (2, qi a2), (3, qi a3), (4, qi a4)] [] h (DX10_keptBy a1 a2 a3 a4 h)
  unfold DX10_keptBy
  refine S_aload_n 0 dX10_keptBy_0 rfl rfl rfl ?_
  refine S_iload_n 1 dX10_keptBy_1 rfl rfl rfl ?_
  refine S_iload_n 2 dX10_keptBy_2 rfl rfl rfl ?_
  refine S_iload_n 3 dX10_keptBy_3 rfl rfl rfl ?_
  refine S_aload_n 0 dX10_keptBy_4 rfl rfl rfl ?_
  refine S_iload_n 1 dX10_keptBy_5 rfl rfl rfl ?_
  refine S_callV_i (as := [qi a1]) (st := [qi a3, qi a2, qi a1, qr 212]) (fun _ => rfl) (TX10_throwsTo a1 h) yv_X10_throwsTo tw_1485 qC_10 qk_212 (by decide) rfl rfl (Nat.le_of_ble_eq_true rfl) dX10_keptBy_6 rfl (fun r1 h2 e3 => ?_)
  refine S_callV_0 (as := [qi a1, qi a2, qi a3, qi r1]) (st := []) (fun _ => rfl) (TX10_isThrown a1 a2 a3 r1 h2) yv_X10_isThrown tw_1565 qC_10 qk_212 (by decide) rfl rfl (Nat.le_of_ble_eq_true rfl) dX10_keptBy_9 rfl (fun r4 h5 e6 => ?_)
  refine S_aload_n 0 dX10_keptBy_12 rfl rfl rfl ?_
  refine S_aload_n 0 dX10_keptBy_13 rfl rfl rfl ?_
  refine S_iload 4 dX10_keptBy_14 rfl rfl ?_
  refine S_sipush (a := 200) dX10_keptBy_16 rfl (by decide) (by decide) ?_
  refine S_callV_i (as := [qi a4, qi 200]) (st := [qr 212]) (fun _ => rfl) (TX10_endsIn a4 200 h5) yv_X10_endsIn tw_1691 qC_10 qk_212 (by decide) rfl rfl (Nat.le_of_ble_eq_true rfl) dX10_keptBy_19 rfl (fun r7 h8 e9 => ?_)
  refine S_puti 23 qC_10 (by decide) (by decide) rfl rfl qk_212 (by decide) tw_1249 dX10_keptBy_22 rfl ?_
  refine S_lh (fun h10 => ?_)
  refine S_aload_n 0 dX10_keptBy_25 rfl rfl rfl ?_
  refine S_geti 23 qC_10 (by decide) (by decide) qk_212 tw_1249 dX10_keptBy_26 rfl ?_
  refine S_ldcw (a := 1000000) dX10_keptBy_29 rfl (by rw [show Int32.ofInt 1000000 = (1000000 : Int32) from by decide]; exact tw_1695) (by decide) ?_
  refine S_icmp_eq (tgt := 55) dX10_keptBy_32 (by decide) rfl (fun _ => ?_) (fun _ => ?_)
  · refine S_iconst (a := (-1)) dX10_keptBy_55 rfl (by decide) ?_
    exact S_iret dX10_keptBy_56
  · refine S_aload_n 0 dX10_keptBy_35 rfl rfl rfl ?_
    refine S_getr (j := 217) (o := 5) 16 qC_10 (by decide) (by decide) qk_212 rfl rfl (by decide) tw_1242 dX10_keptBy_36 rfl ?_
    refine S_iconst (a := 0) dX10_keptBy_39 rfl (by decide) ?_
    refine S_pick_t ((0 : Int) ≤ 0 ∧ (0 : Int) < 8) (by decide) ?_
    refine S_iald (N := 8) qk_217 rfl dX10_keptBy_40 rfl (fun g11 g12 => ?_)
    refine S_iconst (a := 2) dX10_keptBy_41 rfl (by decide) ?_
    refine S_icmp_ne (tgt := 55) dX10_keptBy_42 (by decide) rfl (fun _ => ?_) (fun _ => ?_)
    · refine S_iconst (a := (-1)) dX10_keptBy_55 rfl (by decide) ?_
      exact S_iret dX10_keptBy_56
    · refine S_aload_n 0 dX10_keptBy_45 rfl rfl rfl ?_
      refine S_getr (j := 217) (o := 5) 16 qC_10 (by decide) (by decide) qk_212 rfl rfl (by decide) tw_1242 dX10_keptBy_46 rfl ?_
      refine S_bipush (a := 7) dX10_keptBy_49 rfl (by decide) (by decide) ?_
      refine S_pick_t ((0 : Int) ≤ 7 ∧ (7 : Int) < 8) (by decide) ?_
      refine S_iald (N := 8) qk_217 rfl dX10_keptBy_51 rfl (fun g13 g14 => ?_)
      refine S_goto (pc' := 56) dX10_keptBy_52 (by decide) ?_
      exact S_iret dX10_keptBy_56
def DX10_bestFrom_b47 (k8 : Int → Int → Int → Int → Int → qH → Option (Int × qH)) (k27 : Int → Int → Int → Int → Int → Int → qH → Option (Int × qH)) (a1 : Int) (a2 : Int) (a3 : Int) (a4 : Int) (a5 : Int) (a6 : Int) (b0 : Int) (b1 : Int) (b2 : Int) (h : qH) : Option (Int × qH) := (qbd (DX10_keptBy b2 b1 b0 (qw (a3 + a5)) h) fun r1 h2 => (if ¬ r1 = a2 then (k27 a1 a2 a3 a4 a5 (qw (a6 + 1)) h2) else (if qw (a5 + h2.1 212 23) < a4 then (qlt (qw (a5 + h2.1 212 23)) fun v4 => (qlt (qu h2 212 24 a5) fun h5 => (qlt (qu h5 212 25 a6) fun h6 => (k27 a1 a2 a3 v4 a5 (qw (a6 + 1)) h6)))) else (k27 a1 a2 a3 a4 a5 (qw (a6 + 1)) h2))))
set_option maxRecDepth 100000 in
theorem TX10_bestFrom_b47 {L : Nat} {xs : Nat → Int32} (k8 : Int → Int → Int → Int → Int → qH → Option (Int × qH)) (k27 : Int → Int → Int → Int → Int → Int → qH → Option (Int × qH)) (hk8 : ∀ (a1 : Int) (a2 : Int) (a3 : Int) (a4 : Int) (a5 : Int) (h : qH), qS L xs cX10_bestFrom "BottlePostModel" 7 9 1 8 [(0, qr 212), (1, qi a1), (2, qi a2), (3, qi a3), (4, qi a4), (5, qi a5)] [] h (k8 a1 a2 a3 a4 a5 h)) (hk27 : ∀ (a1 : Int) (a2 : Int) (a3 : Int) (a4 : Int) (a5 : Int) (a6 : Int) (h : qH), qS L xs cX10_bestFrom "BottlePostModel" 7 9 1 27 [(0, qr 212), (1, qi a1), (2, qi a2), (3, qi a3), (4, qi a4), (5, qi a5), (6, qi a6)] [] h (k27 a1 a2 a3 a4 a5 a6 h)) (a1 : Int) (a2 : Int) (a3 : Int) (a4 : Int) (a5 : Int) (a6 : Int) (b0 : Int) (b1 : Int) (b2 : Int) (h : qH) : qS L xs cX10_bestFrom "BottlePostModel" 7 9 1 47 [(0, qr 212), (1, qi a1), (2, qi a2), (3, qi a3), (4, qi a4), (5, qi a5), (6, qi a6)] [qi b0, qi b1, qi b2, qr 212] h (DX10_bestFrom_b47 k8 k27 a1 a2 a3 a4 a5 a6 b0 b1 b2 h) := by
  unfold DX10_bestFrom_b47
  refine S_iload_n 3 dX10_bestFrom_47 rfl rfl rfl ?_
  refine S_iload 5 dX10_bestFrom_48 rfl rfl ?_
  refine S_iadd dX10_bestFrom_50 rfl ?_
  refine S_callV_i (as := [qi b2, qi b1, qi b0, qi (qw (a3 + a5))]) (st := []) (fun _ => rfl) (TX10_keptBy b2 b1 b0 (qw (a3 + a5)) h) yv_X10_keptBy tw_1718 qC_10 qk_212 (by decide) rfl rfl (Nat.le_of_ble_eq_true rfl) dX10_bestFrom_51 rfl (fun r1 h2 e3 => ?_)
  refine S_iload_n 2 dX10_bestFrom_54 rfl rfl rfl ?_
  refine S_icmp_ne (tgt := 94) dX10_bestFrom_55 (by decide) rfl (fun _ => ?_) (fun _ => ?_)
  · refine S_iinc (lv' := [(6, qi (qw (a6 + 1))), (0, qr 212), (1, qi a1), (2, qi a2), (3, qi a3), (4, qi a4), (5, qi a5)]) 6 dX10_bestFrom_94 rfl (by decide) rfl rfl ?_
    refine S_goto (pc' := 27) dX10_bestFrom_97 (by decide) ?_
    refine S_sub [1, 2, 3, 4, 5, 6, 0] rfl ?_
    exact hk27 a1 a2 a3 a4 a5 (qw (a6 + 1)) h2
  · refine S_iload 5 dX10_bestFrom_58 rfl rfl ?_
    refine S_aload_n 0 dX10_bestFrom_60 rfl rfl rfl ?_
    refine S_geti 23 qC_10 (by decide) (by decide) qk_212 tw_1249 dX10_bestFrom_61 rfl ?_
    refine S_iadd dX10_bestFrom_64 rfl ?_
    refine S_iload 4 dX10_bestFrom_65 rfl rfl ?_
    refine S_icmp_lt (tgt := 73) dX10_bestFrom_67 (by decide) rfl (fun _ => ?_) (fun _ => ?_)
    · refine S_iload 5 dX10_bestFrom_73 rfl rfl ?_
      refine S_aload_n 0 dX10_bestFrom_75 rfl rfl rfl ?_
      refine S_geti 23 qC_10 (by decide) (by decide) qk_212 tw_1249 dX10_bestFrom_76 rfl ?_
      refine S_iadd dX10_bestFrom_79 rfl ?_
      refine S_istore (lv' := [(4, qi (qw (a5 + h2.1 212 23))), (0, qr 212), (1, qi a1), (2, qi a2), (3, qi a3), (5, qi a5), (6, qi a6)]) dX10_bestFrom_80 (by decide) rfl rfl ?_
      refine S_li (fun v4 => ?_)
      refine S_aload_n 1 dX10_bestFrom_82 rfl rfl rfl ?_
      refine S_iload 5 dX10_bestFrom_83 rfl rfl ?_
      refine S_puti 24 qC_10 (by decide) (by decide) rfl rfl qk_212 (by decide) tw_1250 dX10_bestFrom_85 rfl ?_
      refine S_lh (fun h5 => ?_)
      refine S_aload_n 1 dX10_bestFrom_88 rfl rfl rfl ?_
      refine S_iload 6 dX10_bestFrom_89 rfl rfl ?_
      refine S_puti 25 qC_10 (by decide) (by decide) rfl rfl qk_212 (by decide) tw_1251 dX10_bestFrom_91 rfl ?_
      refine S_lh (fun h6 => ?_)
      refine S_iinc (lv' := [(6, qi (qw (a6 + 1))), (4, qi v4), (0, qr 212), (1, qi a1), (2, qi a2), (3, qi a3), (5, qi a5)]) 6 dX10_bestFrom_94 rfl (by decide) rfl rfl ?_
      refine S_goto (pc' := 27) dX10_bestFrom_97 (by decide) ?_
      refine S_sub [2, 3, 4, 5, 1, 6, 0] rfl ?_
      exact hk27 a1 a2 a3 v4 a5 (qw (a6 + 1)) h6
    · refine S_goto (pc' := 94) dX10_bestFrom_70 (by decide) ?_
      refine S_iinc (lv' := [(6, qi (qw (a6 + 1))), (0, qr 212), (1, qi a1), (2, qi a2), (3, qi a3), (4, qi a4), (5, qi a5)]) 6 dX10_bestFrom_94 rfl (by decide) rfl rfl ?_
      refine S_goto (pc' := 27) dX10_bestFrom_97 (by decide) ?_
      refine S_sub [1, 2, 3, 4, 5, 6, 0] rfl ?_
      exact hk27 a1 a2 a3 a4 a5 (qw (a6 + 1)) h2
def DX10_bestFrom_l27 (k8 : Int → Int → Int → Int → Int → qH → Option (Int × qH)) : Nat → Int → Int → Int → Int → Int → Int → qH → Option (Int × qH)
  | 0, _, _, _, _, _, _, _ => none
  | n + 1, a1, a2, a3, a4, a5, a6, h => (if 2 ≤ a6 then (k8 a1 a2 a3 a4 (qw (a5 + 1)) h) else (if ¬ a6 = 1 then (DX10_bestFrom_b47 k8 (DX10_bestFrom_l27 k8 n) a1 a2 a3 a4 a5 a6 0 a2 a1 h) else (DX10_bestFrom_b47 k8 (DX10_bestFrom_l27 k8 n) a1 a2 a3 a4 a5 a6 1 a2 a1 h)))
set_option maxRecDepth 100000 in
theorem TX10_bestFrom_l27 {L : Nat} {xs : Nat → Int32} (k8 : Int → Int → Int → Int → Int → qH → Option (Int × qH)) (hk8 : ∀ (a1 : Int) (a2 : Int) (a3 : Int) (a4 : Int) (a5 : Int) (h : qH), qS L xs cX10_bestFrom "BottlePostModel" 7 9 1 8 [(0, qr 212), (1, qi a1), (2, qi a2), (3, qi a3), (4, qi a4), (5, qi a5)] [] h (k8 a1 a2 a3 a4 a5 h)) : ∀ (n : Nat) (a1 : Int) (a2 : Int) (a3 : Int) (a4 : Int) (a5 : Int) (a6 : Int) (h : qH), qS L xs cX10_bestFrom "BottlePostModel" 7 9 1 27 [(0, qr 212), (1, qi a1), (2, qi a2), (3, qi a3), (4, qi a4), (5, qi a5), (6, qi a6)] [] h (DX10_bestFrom_l27 k8 n a1 a2 a3 a4 a5 a6 h) := by
  intro n
  induction n with
  | zero =>
    intro a1 a2 a3 a4 a5 a6 h
    exact S_none
  | succ n ih =>
    intro a1 a2 a3 a4 a5 a6 h
    rw [DX10_bestFrom_l27.eq_2]
    refine S_iload 6 dX10_bestFrom_27 rfl rfl ?_
    refine S_iconst (a := 2) dX10_bestFrom_29 rfl (by decide) ?_
    refine S_icmp_ge (tgt := 100) dX10_bestFrom_30 (by decide) rfl (fun _ => ?_) (fun _ => ?_)
    · refine S_iinc (lv' := [(5, qi (qw (a5 + 1))), (0, qr 212), (1, qi a1), (2, qi a2), (3, qi a3), (4, qi a4), (6, qi a6)]) 5 dX10_bestFrom_100 rfl (by decide) rfl rfl ?_
      refine S_goto (pc' := 8) dX10_bestFrom_103 (by decide) ?_
      refine S_sub [1, 2, 3, 4, 5, 0] rfl ?_
      exact hk8 a1 a2 a3 a4 (qw (a5 + 1)) h
    · refine S_aload_n 0 dX10_bestFrom_33 rfl rfl rfl ?_
      refine S_iload_n 1 dX10_bestFrom_34 rfl rfl rfl ?_
      refine S_iload_n 2 dX10_bestFrom_35 rfl rfl rfl ?_
      refine S_iload 6 dX10_bestFrom_36 rfl rfl ?_
      refine S_iconst (a := 1) dX10_bestFrom_38 rfl (by decide) ?_
      refine S_icmp_ne (tgt := 46) dX10_bestFrom_39 (by decide) rfl (fun _ => ?_) (fun _ => ?_)
      · refine S_iconst (a := 0) dX10_bestFrom_46 rfl (by decide) ?_
        exact TX10_bestFrom_b47 k8 (DX10_bestFrom_l27 k8 n) hk8 ih a1 a2 a3 a4 a5 a6 0 a2 a1 h
      · refine S_iconst (a := 1) dX10_bestFrom_42 rfl (by decide) ?_
        refine S_goto (pc' := 47) dX10_bestFrom_43 (by decide) ?_
        exact TX10_bestFrom_b47 k8 (DX10_bestFrom_l27 k8 n) hk8 ih a1 a2 a3 a4 a5 a6 1 a2 a1 h
def DX10_bestFrom_l8 : Nat → Int → Int → Int → Int → Int → qH → Option (Int × qH)
  | 0, _, _, _, _, _, _ => none
  | n + 1, a1, a2, a3, a4, a5, h => (if 30 < a5 then some (a4, h) else (qbd (DX10_throwsTo a1 h) fun r7 h8 => (if r7 = (-1) then some (a4, h8) else (DX10_bestFrom_l27 (DX10_bestFrom_l8 n) LF a1 a2 a3 a4 a5 0 h8))))
set_option maxRecDepth 100000 in
theorem TX10_bestFrom_l8 {L : Nat} {xs : Nat → Int32} : ∀ (n : Nat) (a1 : Int) (a2 : Int) (a3 : Int) (a4 : Int) (a5 : Int) (h : qH), qS L xs cX10_bestFrom "BottlePostModel" 7 9 1 8 [(0, qr 212), (1, qi a1), (2, qi a2), (3, qi a3), (4, qi a4), (5, qi a5)] [] h (DX10_bestFrom_l8 n a1 a2 a3 a4 a5 h) := by
  intro n
  induction n with
  | zero =>
    intro a1 a2 a3 a4 a5 h
    exact S_none
  | succ n ih =>
    intro a1 a2 a3 a4 a5 h
    rw [DX10_bestFrom_l8.eq_2]
    refine S_iload 5 dX10_bestFrom_8 rfl rfl ?_
    refine S_bipush (a := 30) dX10_bestFrom_10 rfl (by decide) (by decide) ?_
    refine S_icmp_gt (tgt := 106) dX10_bestFrom_12 (by decide) rfl (fun _ => ?_) (fun _ => ?_)
    · refine S_iload 4 dX10_bestFrom_106 rfl rfl ?_
      exact S_iret dX10_bestFrom_108
    · refine S_aload_n 0 dX10_bestFrom_15 rfl rfl rfl ?_
      refine S_iload_n 1 dX10_bestFrom_16 rfl rfl rfl ?_
      refine S_callV_i (as := [qi a1]) (st := []) (fun _ => rfl) (TX10_throwsTo a1 h) yv_X10_throwsTo tw_1485 qC_10 qk_212 (by decide) rfl rfl (Nat.le_of_ble_eq_true rfl) dX10_bestFrom_17 rfl (fun r7 h8 e9 => ?_)
      refine S_iconst (a := (-1)) dX10_bestFrom_20 rfl (by decide) ?_
      refine S_icmp_eq (tgt := 106) dX10_bestFrom_21 (by decide) rfl (fun _ => ?_) (fun _ => ?_)
      · refine S_iload 4 dX10_bestFrom_106 rfl rfl ?_
        exact S_iret dX10_bestFrom_108
      · refine S_iconst (a := 0) dX10_bestFrom_24 rfl (by decide) ?_
        refine S_istore (lv' := [(6, qi 0), (0, qr 212), (1, qi a1), (2, qi a2), (3, qi a3), (4, qi a4), (5, qi a5)]) dX10_bestFrom_25 (by decide) rfl rfl ?_
        refine S_sub [1, 2, 3, 4, 5, 6, 0] rfl ?_
        exact TX10_bestFrom_l27 (DX10_bestFrom_l8 n) ih LF a1 a2 a3 a4 a5 0 h8
def DX10_bestFrom (a1 : Int) (a2 : Int) (a3 : Int) (h : qH) : Option (Int × qH) := (DX10_bestFrom_l8 LF a1 a2 a3 1000000 0 h)
set_option maxRecDepth 100000 in
theorem TX10_bestFrom {L : Nat} {xs : Nat → Int32} (a1 : Int) (a2 : Int) (a3 : Int) (h : qH) : qMet L xs yX10_bestFrom cX10_bestFrom 7 (some .int) 1 9 [qr 212, qi a1, qi a2, qi a3] h (DX10_bestFrom a1 a2 a3 h) := by
  refine qMet.of (by decide +kernel) (Or.inr (Or.inl ⟨rfl, rfl⟩)) (Nat.le_of_ble_eq_true rfl) ?_
  show qS L xs cX10_bestFrom "BottlePostModel" 7 9 1 0 [(0, qr 212), (1, qi a1), (2, qi a2), (3, qi a3)] [] h (DX10_bestFrom a1 a2 a3 h)
  unfold DX10_bestFrom
  refine S_ldcw (a := 1000000) dX10_bestFrom_0 rfl (by rw [show Int32.ofInt 1000000 = (1000000 : Int32) from by decide]; exact tw_1695) (by decide) ?_
  refine S_istore (lv' := [(4, qi 1000000), (0, qr 212), (1, qi a1), (2, qi a2), (3, qi a3)]) dX10_bestFrom_3 (by decide) rfl rfl ?_
  refine S_iconst (a := 0) dX10_bestFrom_5 rfl (by decide) ?_
  refine S_istore (lv' := [(5, qi 0), (4, qi 1000000), (0, qr 212), (1, qi a1), (2, qi a2), (3, qi a3)]) dX10_bestFrom_6 (by decide) rfl rfl ?_
  refine S_sub [2, 3, 4, 5, 1, 0] rfl ?_
  exact TX10_bestFrom_l8 LF a1 a2 a3 1000000 0 h
