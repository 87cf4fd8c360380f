/-! ===== the constructors ===== -/
theorem zdf_0 : ∀ j, j < 8 → defaultValue (tyX0 j) = if qT 0 j < 2 then .int 0 else .null := by decide +kernel
theorem zdf_1 : ∀ j, j < 20 → defaultValue (tyX1 j) = if qT 1 j < 2 then .int 0 else .null := by decide +kernel
theorem zdf_2 : ∀ j, j < 7 → defaultValue (tyX2 j) = if qT 2 j < 2 then .int 0 else .null := by decide +kernel
theorem zdf_3 : ∀ j, j < 3 → defaultValue (tyX3 j) = if qT 3 j < 2 then .int 0 else .null := by decide +kernel
theorem zdf_4 : ∀ j, j < 10 → defaultValue (tyX4 j) = if qT 4 j < 2 then .int 0 else .null := by decide +kernel
theorem zdf_5 : ∀ j, j < 6 → defaultValue (tyX5 j) = if qT 5 j < 2 then .int 0 else .null := by decide +kernel
theorem zdf_6 : ∀ j, j < 3 → defaultValue (tyX6 j) = if qT 6 j < 2 then .int 0 else .null := by decide +kernel
theorem zdf_7 : ∀ j, j < 3 → defaultValue (tyX7 j) = if qT 7 j < 2 then .int 0 else .null := by decide +kernel
theorem zdf_8 : ∀ j, j < 4 → defaultValue (tyX8 j) = if qT 8 j < 2 then .int 0 else .null := by decide +kernel
theorem zdf_9 : ∀ j, j < 16 → defaultValue (tyX9 j) = if qT 9 j < 2 then .int 0 else .null := by decide +kernel
theorem zdf_10 : ∀ j, j < 39 → defaultValue (tyX10 j) = if qT 10 j < 2 then .int 0 else .null := by decide +kernel
theorem zyi_0 : yX0_init.name = "<init>" ∧ Cond.instanceMethod yX0_init ∈ lw_tbl ∧ Cond.initialized yX0_init.cls ∈ lw_tbl ∧ Cond.code yX0_init cX0_init 1 none ∈ lw_tbl ∧ 1 ≤ 21 ∧ (yX0_init.cls ≠ "java/lang/invoke/MethodHandle" ∧ yX0_init.cls ≠ "java/lang/invoke/VarHandle") ∧ (parseMethodDescriptor yX0_init.desc).map (fun d => d.parameters.length) = some 0 := ⟨rfl, tw_189, tw_5, tw_190, by decide, by decide, by decide +kernel⟩
theorem zyi_1 : yX1_init.name = "<init>" ∧ Cond.instanceMethod yX1_init ∈ lw_tbl ∧ Cond.initialized yX1_init.cls ∈ lw_tbl ∧ Cond.code yX1_init cX1_init 1 none ∈ lw_tbl ∧ 1 ≤ 21 ∧ (yX1_init.cls ≠ "java/lang/invoke/MethodHandle" ∧ yX1_init.cls ≠ "java/lang/invoke/VarHandle") ∧ (parseMethodDescriptor yX1_init.desc).map (fun d => d.parameters.length) = some 0 := ⟨rfl, tw_38, tw_3, tw_39, by decide, by decide, by decide +kernel⟩
theorem zyi_2 : yX2_init.name = "<init>" ∧ Cond.instanceMethod yX2_init ∈ lw_tbl ∧ Cond.initialized yX2_init.cls ∈ lw_tbl ∧ Cond.code yX2_init cX2_init 1 none ∈ lw_tbl ∧ 1 ≤ 21 ∧ (yX2_init.cls ≠ "java/lang/invoke/MethodHandle" ∧ yX2_init.cls ≠ "java/lang/invoke/VarHandle") ∧ (parseMethodDescriptor yX2_init.desc).map (fun d => d.parameters.length) = some 0 := ⟨rfl, tw_181, tw_4, tw_182, by decide, by decide, by decide +kernel⟩
theorem zyi_3 : yX3_init.name = "<init>" ∧ Cond.instanceMethod yX3_init ∈ lw_tbl ∧ Cond.initialized yX3_init.cls ∈ lw_tbl ∧ Cond.code yX3_init cX3_init 2 none ∈ lw_tbl ∧ 2 ≤ 21 ∧ (yX3_init.cls ≠ "java/lang/invoke/MethodHandle" ∧ yX3_init.cls ≠ "java/lang/invoke/VarHandle") ∧ (parseMethodDescriptor yX3_init.desc).map (fun d => d.parameters.length) = some 0 := ⟨rfl, tw_287, tw_7, tw_288, by decide, by decide, by decide +kernel⟩
theorem zyi_4 : yX4_init.name = "<init>" ∧ Cond.instanceMethod yX4_init ∈ lw_tbl ∧ Cond.initialized yX4_init.cls ∈ lw_tbl ∧ Cond.code yX4_init cX4_init 1 none ∈ lw_tbl ∧ 1 ≤ 21 ∧ (yX4_init.cls ≠ "java/lang/invoke/MethodHandle" ∧ yX4_init.cls ≠ "java/lang/invoke/VarHandle") ∧ (parseMethodDescriptor yX4_init.desc).map (fun d => d.parameters.length) = some 0 := ⟨rfl, tw_32, tw_2, tw_33, by decide, by decide, by decide +kernel⟩
theorem zyi_5 : yX5_init.name = "<init>" ∧ Cond.instanceMethod yX5_init ∈ lw_tbl ∧ Cond.initialized yX5_init.cls ∈ lw_tbl ∧ Cond.code yX5_init cX5_init 1 none ∈ lw_tbl ∧ 1 ≤ 21 ∧ (yX5_init.cls ≠ "java/lang/invoke/MethodHandle" ∧ yX5_init.cls ≠ "java/lang/invoke/VarHandle") ∧ (parseMethodDescriptor yX5_init.desc).map (fun d => d.parameters.length) = some 0 := ⟨rfl, tw_309, tw_8, tw_310, by decide, by decide, by decide +kernel⟩
theorem zyi_6 : yX6_init.name = "<init>" ∧ Cond.instanceMethod yX6_init ∈ lw_tbl ∧ Cond.initialized yX6_init.cls ∈ lw_tbl ∧ Cond.code yX6_init cX6_init 1 none ∈ lw_tbl ∧ 1 ≤ 21 ∧ (yX6_init.cls ≠ "java/lang/invoke/MethodHandle" ∧ yX6_init.cls ≠ "java/lang/invoke/VarHandle") ∧ (parseMethodDescriptor yX6_init.desc).map (fun d => d.parameters.length) = some 0 := ⟨rfl, tw_363, tw_10, tw_364, by decide, by decide, by decide +kernel⟩
theorem zyi_7 : yX7_init.name = "<init>" ∧ Cond.instanceMethod yX7_init ∈ lw_tbl ∧ Cond.initialized yX7_init.cls ∈ lw_tbl ∧ Cond.code yX7_init cX7_init 2 none ∈ lw_tbl ∧ 2 ≤ 21 ∧ (yX7_init.cls ≠ "java/lang/invoke/MethodHandle" ∧ yX7_init.cls ≠ "java/lang/invoke/VarHandle") ∧ (parseMethodDescriptor yX7_init.desc).map (fun d => d.parameters.length) = some 0 := ⟨rfl, tw_265, tw_6, tw_266, by decide, by decide, by decide +kernel⟩
theorem zyi_8 : yX8_init.name = "<init>" ∧ Cond.instanceMethod yX8_init ∈ lw_tbl ∧ Cond.initialized yX8_init.cls ∈ lw_tbl ∧ Cond.code yX8_init cX8_init 1 none ∈ lw_tbl ∧ 1 ≤ 21 ∧ (yX8_init.cls ≠ "java/lang/invoke/MethodHandle" ∧ yX8_init.cls ≠ "java/lang/invoke/VarHandle") ∧ (parseMethodDescriptor yX8_init.desc).map (fun d => d.parameters.length) = some 0 := ⟨rfl, tw_336, tw_9, tw_337, by decide, by decide, by decide +kernel⟩
theorem zyi_9 : yX9_init.name = "<init>" ∧ Cond.instanceMethod yX9_init ∈ lw_tbl ∧ Cond.initialized yX9_init.cls ∈ lw_tbl ∧ Cond.code yX9_init cX9_init 2 none ∈ lw_tbl ∧ 2 ≤ 21 ∧ (yX9_init.cls ≠ "java/lang/invoke/MethodHandle" ∧ yX9_init.cls ≠ "java/lang/invoke/VarHandle") ∧ (parseMethodDescriptor yX9_init.desc).map (fun d => d.parameters.length) = some 0 := ⟨rfl, tw_24, tw_1, tw_25, by decide, by decide, by decide +kernel⟩
theorem zyi_10 : yX10_init.name = "<init>" ∧ Cond.instanceMethod yX10_init ∈ lw_tbl ∧ Cond.initialized yX10_init.cls ∈ lw_tbl ∧ Cond.code yX10_init cX10_init 1 none ∈ lw_tbl ∧ 1 ≤ 21 ∧ (yX10_init.cls ≠ "java/lang/invoke/MethodHandle" ∧ yX10_init.cls ≠ "java/lang/invoke/VarHandle") ∧ (parseMethodDescriptor yX10_init.desc).map (fun d => d.parameters.length) = some 0 := ⟨rfl, tw_1220, tw_11, tw_1221, by decide, by decide, by decide +kernel⟩
theorem zy_plain : qYS yX10_plain cX10_plain 2 none 1 := ⟨tw_1224, tw_11, tw_1225, by decide, by decide, by decide +kernel⟩
def zcl (s : zH) (i n : Nat) : zH := (s.1, fun a b => if a = i ∧ b < n then 0 else s.2.1 a b, s.2.2)
def CX10_plain (i0 : Nat) (s : zH) : Option (Int × zH) := some (0, zu (zcl s i0 1912) i0 3 1)
theorem zcl_step {s : zH} {i k : Nat} : zu (zcl s i k) i k 0 = zcl s i (k + 1) := by
  obtain ⟨a, f, g⟩ := s
  unfold zu zcl
  simp only
  congr 2
  funext x y
  by_cases h1 : x = i
  · by_cases h2 : y = k
    · simp [h1, h2]
    · by_cases h3 : y < k
      · have h4 : y < k + 1 := by omega
        simp [h1, h2, h3, h4]
      · have h4 : ¬ y < k + 1 := by omega
        simp [h1, h2, h3, h4]
  · simp [h1]
theorem zcl_zero {s : zH} {i : Nat} : zcl s i 0 = s := by
  obtain ⟨a, f, g⟩ := s
  unfold zcl
  simp
set_option maxRecDepth 100000 in
theorem UX10_plain_l {L : Nat} {xs : Nat → Int32} (i0 : Nat) (t0 : zK i0 = (20, 5736)) (s : zH) : ∀ (m k : Nat), k + m = 1912 → zS "" L xs cX10_plain "BottlePostModel" 2 1 0 2 [(1, qi (k : Int)), (0, qr i0)] [] (zcl s i0 k) (some (0, zu (zcl s i0 1912) i0 3 1)) := by
  intro m
  induction m with
  | zero =>
    intro k hk
    obtain rfl : k = 1912 := by omega
    refine Z_iload_n 0 dX10_plain_2 rfl rfl rfl ?_
    refine Z_sipush (a := 1912) dX10_plain_3 rfl (by decide) (by decide) ?_
    refine Z_pick_t ((1912 : Int) ≤ ((1912 : Nat) : Int)) (by omega) ?_
    refine Z_icmp_ge (y := none) (tgt := 19) dX10_plain_6 (by decide) rfl (fun _ => ?_) (fun gn => absurd (by omega) gn)
    refine Z_aload_n 1 dX10_plain_19 rfl rfl rfl ?_
    refine Z_iconst (a := 3) dX10_plain_20 rfl (by decide) ?_
    refine Z_iconst (a := 1) dX10_plain_21 rfl (by decide) ?_
    refine Z_iast (N := 5736) t0 rfl dX10_plain_22 rfl (by decide) (by decide) (Or.inl (by decide)) ?_
    exact Z_vret dX10_plain_23
  | succ m ih =>
    intro k hk
    refine Z_iload_n 0 dX10_plain_2 rfl rfl rfl ?_
    refine Z_sipush (a := 1912) dX10_plain_3 rfl (by decide) (by decide) ?_
    refine Z_pick_f ((1912 : Int) ≤ k) (by omega) ?_
    refine Z_icmp_ge (x := none) (tgt := 19) dX10_plain_6 (by decide) rfl (fun gn => absurd gn (by omega)) (fun _ => ?_)
    refine Z_aload_n 1 dX10_plain_9 rfl rfl rfl ?_
    refine Z_iload_n 0 dX10_plain_10 rfl rfl rfl ?_
    refine Z_iconst (a := 0) dX10_plain_11 rfl (by decide) ?_
    refine Z_iast (N := 5736) t0 rfl dX10_plain_12 rfl (by omega) (by omega) (Or.inr rfl) ?_
    rw [Int.toNat_natCast, zcl_step]
    refine Z_iincl (b := ((k + 1 : Nat) : Int)) (lv' := [(1, qi ((k + 1 : Nat) : Int)), (0, qr i0)]) 0 (by show (Int32.ofInt _).toInt = _; rw [q32_i ⟨by omega, by omega⟩]; omega) dX10_plain_13 rfl (by decide) rfl rfl ?_
    refine Z_goto (pc' := 2) dX10_plain_16 (by decide) ?_
    exact ih (k + 1) (by omega)
theorem UX10_plain {L : Nat} {xs : Nat → Int32} (i0 : Nat) (t0 : zK i0 = (20, 5736)) (s : zH) : zMet L xs yX10_plain cX10_plain 2 none 0 1 [qr i0] s (CX10_plain i0 s) := by
  refine zMet.of (y0 := "") (by decide +kernel) (Or.inl ⟨rfl, rfl⟩) (Nat.le_of_ble_eq_true rfl) (fun h => absurd h (by decide)) ?_
  show zS "" L xs cX10_plain "BottlePostModel" 2 1 0 0 [(0, qr i0)] [] s (CX10_plain i0 s)
  unfold CX10_plain
  refine Z_iconst (a := 0) dX10_plain_0 rfl (by decide) ?_
  refine Z_istore_n (lv' := [(1, qi 0), (0, qr i0)]) dX10_plain_1 rfl (by decide) rfl rfl ?_
  have k := UX10_plain_l (L := L) (xs := xs) i0 t0 s 1912 0 rfl
  rw [zcl_zero] at k
  exact k
def CX0_init (i0 : Nat) (s : zH) : Option (Int × zH) := zlt (zu s i0 2 (-1)) fun s1 => zlt (zu s1 i0 3 (-1)) fun s2 => zlt (zu s2 i0 7 (-1)) fun s3 => some (0, s3)
set_option maxRecDepth 100000 in
set_option maxHeartbeats 2000000 in
theorem UX0_init {L : Nat} {xs : Nat → Int32} (i0 : Nat) (t0 : zK i0 = (0, 8)) (s : zH) : zMet L xs yX0_init cX0_init 1 none 0 1 [qr i0] s (CX0_init i0 s) := by
  refine zMet.of (y0 := "BottlePost$Bottle") (by decide +kernel) (Or.inl ⟨rfl, rfl⟩) (Nat.le_of_ble_eq_true rfl) (fun _ => rfl) ?_
  show zS "BottlePost$Bottle" L xs cX0_init "BottlePost$Bottle" 1 1 0 0 [(0, qr i0)] [] s (CX0_init i0 s)
  unfold CX0_init
  refine Z_aload_n 0 dX0_init_0 rfl rfl rfl ?_
  refine Z_obj tw_191 tw_27 tw_28 (by decide) (Nat.le_of_ble_eq_true rfl) dX0_init_1 rfl ?_
  refine Z_aload_n 0 dX0_init_4 rfl rfl rfl ?_
  refine Z_iconst (a := (-1)) dX0_init_5 rfl (by decide) ?_
  refine Z_puti 2 qC_0 (by decide) (by decide) rfl rfl t0 tw_200 dX0_init_6 rfl ?_
  refine Z_lh (fun s1 => ?_)
  refine Z_aload_n 0 dX0_init_9 rfl rfl rfl ?_
  refine Z_iconst (a := (-1)) dX0_init_10 rfl (by decide) ?_
  refine Z_puti 3 qC_0 (by decide) (by decide) rfl rfl t0 tw_203 dX0_init_11 rfl ?_
  refine Z_lh (fun s2 => ?_)
  refine Z_aload_n 0 dX0_init_14 rfl rfl rfl ?_
  refine Z_iconst (a := (-1)) dX0_init_15 rfl (by decide) ?_
  refine Z_puti 7 qC_0 (by decide) (by decide) rfl rfl t0 tw_215 dX0_init_16 rfl ?_
  refine Z_lh (fun s3 => ?_)
  exact Z_vret dX0_init_19
def CX1_init (i0 : Nat) (s : zH) : Option (Int × zH) := if s.1 < 225 ∧ zK s.1 = (20, 36) then zlt (znew s) fun s2 => zlt (zur s2 i0 0 s.1) fun s3 => if s3.1 < 225 ∧ zK s3.1 = (20, 216) then zlt (znew s3) fun s5 => zlt (zur s5 i0 1 s3.1) fun s6 => if s6.1 < 225 ∧ zK s6.1 = (20, 6) then zlt (znew s6) fun s8 => zlt (zur s8 i0 2 s6.1) fun s9 => if s9.1 < 225 ∧ zK s9.1 = (20, 6) then zlt (znew s9) fun s11 => zlt (zur s11 i0 3 s9.1) fun s12 => if s12.1 < 225 ∧ zK s12.1 = (20, 6) then zlt (znew s12) fun s14 => zlt (zur s14 i0 4 s12.1) fun s15 => if s15.1 < 225 ∧ zK s15.1 = (20, 6) then zlt (znew s15) fun s17 => zlt (zur s17 i0 5 s15.1) fun s18 => if s18.1 < 225 ∧ zK s18.1 = (20, 900) then zlt (znew s18) fun s20 => zlt (zur s20 i0 6 s18.1) fun s21 => zlt (zu s21 i0 13 1) fun s22 => some (0, s22) else none else none else none else none else none else none else none
set_option maxRecDepth 100000 in
set_option maxHeartbeats 2000000 in
theorem UX1_init {L : Nat} {xs : Nat → Int32} (i0 : Nat) (t0 : zK i0 = (1, 20)) (s : zH) : zMet L xs yX1_init cX1_init 1 none 0 1 [qr i0] s (CX1_init i0 s) := by
  refine zMet.of (y0 := "BottlePost$Chart") (by decide +kernel) (Or.inl ⟨rfl, rfl⟩) (Nat.le_of_ble_eq_true rfl) (fun _ => rfl) ?_
  show zS "BottlePost$Chart" L xs cX1_init "BottlePost$Chart" 1 1 0 0 [(0, qr i0)] [] s (CX1_init i0 s)
  unfold CX1_init
  refine Z_aload_n 0 dX1_init_0 rfl rfl rfl ?_
  refine Z_obj tw_40 tw_27 tw_28 (by decide) (Nat.le_of_ble_eq_true rfl) dX1_init_1 rfl ?_
  refine Z_aload_n 0 dX1_init_4 rfl rfl rfl ?_
  refine Z_bipush (a := 36) dX1_init_5 rfl (by decide) (by decide) ?_
  refine Z_ite (fun g1 => ?_) (fun _ => Z_none)
  refine Z_newa (fty := .int) dX1_init_7 rfl g1.1 g1.2 (by decide) (by decide) rfl rfl (fun _ => rfl) (fun _ _ g => g) rfl (by decide) (by decide) tw_143 ?_
  refine Z_lh (fun s2 => ?_)
  refine Z_putr 0 qC_1 (by decide) (by decide) (fun _ => ⟨rfl, rfl⟩) t0 rfl rfl (by rw [g1.2]; decide) tw_41 dX1_init_9 rfl ?_
  refine Z_lh (fun s3 => ?_)
  refine Z_aload_n 0 dX1_init_12 rfl rfl rfl ?_
  refine Z_sipush (a := 216) dX1_init_13 rfl (by decide) (by decide) ?_
  refine Z_ite (fun g4 => ?_) (fun _ => Z_none)
  refine Z_newa (fty := .int) dX1_init_16 rfl g4.1 g4.2 (by decide) (by decide) rfl rfl (fun _ => rfl) (fun _ _ g => g) rfl (by decide) (by decide) tw_143 ?_
  refine Z_lh (fun s5 => ?_)
  refine Z_putr 1 qC_1 (by decide) (by decide) (fun _ => ⟨rfl, rfl⟩) t0 rfl rfl (by rw [g4.2]; decide) tw_45 dX1_init_18 rfl ?_
  refine Z_lh (fun s6 => ?_)
  refine Z_aload_n 0 dX1_init_21 rfl rfl rfl ?_
  refine Z_bipush (a := 6) dX1_init_22 rfl (by decide) (by decide) ?_
  refine Z_ite (fun g7 => ?_) (fun _ => Z_none)
  refine Z_newa (fty := .int) dX1_init_24 rfl g7.1 g7.2 (by decide) (by decide) rfl rfl (fun _ => rfl) (fun _ _ g => g) rfl (by decide) (by decide) tw_143 ?_
  refine Z_lh (fun s8 => ?_)
  refine Z_putr 2 qC_1 (by decide) (by decide) (fun _ => ⟨rfl, rfl⟩) t0 rfl rfl (by rw [g7.2]; decide) tw_47 dX1_init_26 rfl ?_
  refine Z_lh (fun s9 => ?_)
  refine Z_aload_n 0 dX1_init_29 rfl rfl rfl ?_
  refine Z_bipush (a := 6) dX1_init_30 rfl (by decide) (by decide) ?_
  refine Z_ite (fun g10 => ?_) (fun _ => Z_none)
  refine Z_newa (fty := .int) dX1_init_32 rfl g10.1 g10.2 (by decide) (by decide) rfl rfl (fun _ => rfl) (fun _ _ g => g) rfl (by decide) (by decide) tw_143 ?_
  refine Z_lh (fun s11 => ?_)
  refine Z_putr 3 qC_1 (by decide) (by decide) (fun _ => ⟨rfl, rfl⟩) t0 rfl rfl (by rw [g10.2]; decide) tw_50 dX1_init_34 rfl ?_
  refine Z_lh (fun s12 => ?_)
  refine Z_aload_n 0 dX1_init_37 rfl rfl rfl ?_
  refine Z_bipush (a := 6) dX1_init_38 rfl (by decide) (by decide) ?_
  refine Z_ite (fun g13 => ?_) (fun _ => Z_none)
  refine Z_newa (fty := .int) dX1_init_40 rfl g13.1 g13.2 (by decide) (by decide) rfl rfl (fun _ => rfl) (fun _ _ g => g) rfl (by decide) (by decide) tw_143 ?_
  refine Z_lh (fun s14 => ?_)
  refine Z_putr 4 qC_1 (by decide) (by decide) (fun _ => ⟨rfl, rfl⟩) t0 rfl rfl (by rw [g13.2]; decide) tw_53 dX1_init_42 rfl ?_
  refine Z_lh (fun s15 => ?_)
  refine Z_aload_n 0 dX1_init_45 rfl rfl rfl ?_
  refine Z_bipush (a := 6) dX1_init_46 rfl (by decide) (by decide) ?_
  refine Z_ite (fun g16 => ?_) (fun _ => Z_none)
  refine Z_newa (fty := .int) dX1_init_48 rfl g16.1 g16.2 (by decide) (by decide) rfl rfl (fun _ => rfl) (fun _ _ g => g) rfl (by decide) (by decide) tw_143 ?_
  refine Z_lh (fun s17 => ?_)
  refine Z_putr 5 qC_1 (by decide) (by decide) (fun _ => ⟨rfl, rfl⟩) t0 rfl rfl (by rw [g16.2]; decide) tw_54 dX1_init_50 rfl ?_
  refine Z_lh (fun s18 => ?_)
  refine Z_aload_n 0 dX1_init_53 rfl rfl rfl ?_
  refine Z_sipush (a := 900) dX1_init_54 rfl (by decide) (by decide) ?_
  refine Z_ite (fun g19 => ?_) (fun _ => Z_none)
  refine Z_newa (fty := .int) dX1_init_57 rfl g19.1 g19.2 (by decide) (by decide) rfl rfl (fun _ => rfl) (fun _ _ g => g) rfl (by decide) (by decide) tw_143 ?_
  refine Z_lh (fun s20 => ?_)
  refine Z_putr 6 qC_1 (by decide) (by decide) (fun _ => ⟨rfl, rfl⟩) t0 rfl rfl (by rw [g19.2]; decide) tw_58 dX1_init_59 rfl ?_
  refine Z_lh (fun s21 => ?_)
  refine Z_aload_n 0 dX1_init_62 rfl rfl rfl ?_
  refine Z_iconst (a := 1) dX1_init_63 rfl (by decide) ?_
  refine Z_puti 13 qC_1 (by decide) (by decide) rfl rfl t0 tw_80 dX1_init_64 rfl ?_
  refine Z_lh (fun s22 => ?_)
  exact Z_vret dX1_init_67
def CX6_init (i0 : Nat) (s : zH) : Option (Int × zH) := if s.1 < 225 ∧ zK s.1 = (24, 40) then zlt (znew s) fun s2 => zlt (zur s2 i0 0 s.1) fun s3 => zlt (zu s3 i0 1 (-1)) fun s4 => some (0, s4) else none
set_option maxRecDepth 100000 in
set_option maxHeartbeats 2000000 in
theorem UX6_init {L : Nat} {xs : Nat → Int32} (i0 : Nat) (t0 : zK i0 = (6, 3)) (s : zH) : zMet L xs yX6_init cX6_init 1 none 0 1 [qr i0] s (CX6_init i0 s) := by
  refine zMet.of (y0 := "BottlePost$Tray") (by decide +kernel) (Or.inl ⟨rfl, rfl⟩) (Nat.le_of_ble_eq_true rfl) (fun _ => rfl) ?_
  show zS "BottlePost$Tray" L xs cX6_init "BottlePost$Tray" 1 1 0 0 [(0, qr i0)] [] s (CX6_init i0 s)
  unfold CX6_init
  refine Z_aload_n 0 dX6_init_0 rfl rfl rfl ?_
  refine Z_obj tw_365 tw_27 tw_28 (by decide) (Nat.le_of_ble_eq_true rfl) dX6_init_1 rfl ?_
  refine Z_aload_n 0 dX6_init_4 rfl rfl rfl ?_
  refine Z_bipush (a := 40) dX6_init_5 rfl (by decide) (by decide) ?_
  refine Z_ite (fun g1 => ?_) (fun _ => Z_none)
  refine Z_newl (fty := .long) dX6_init_7 rfl g1.1 g1.2 rfl rfl rfl (fun _ => rfl) (fun _ _ g => g) rfl (by decide) (by decide) tw_378 ?_
  refine Z_lh (fun s2 => ?_)
  refine Z_putr 0 qC_6 (by decide) (by decide) (fun _ => ⟨rfl, rfl⟩) t0 rfl rfl (by rw [g1.2]; decide) tw_366 dX6_init_9 rfl ?_
  refine Z_lh (fun s3 => ?_)
  refine Z_aload_n 0 dX6_init_12 rfl rfl rfl ?_
  refine Z_iconst (a := (-1)) dX6_init_13 rfl (by decide) ?_
  refine Z_puti 1 qC_6 (by decide) (by decide) rfl rfl t0 tw_367 dX6_init_14 rfl ?_
  refine Z_lh (fun s4 => ?_)
  exact Z_vret dX6_init_17
def CX5_init (i0 : Nat) (s : zH) : Option (Int × zH) := if s.1 < 225 ∧ zK s.1 = (20, 6) then zlt (znew s) fun s2 => zlt (zur s2 i0 0 s.1) fun s3 => if s3.1 < 225 ∧ zK s3.1 = (20, 6) then zlt (znew s3) fun s5 => zlt (zur s5 i0 1 s3.1) fun s6 => some (0, s6) else none else none
set_option maxRecDepth 100000 in
set_option maxHeartbeats 2000000 in
theorem UX5_init {L : Nat} {xs : Nat → Int32} (i0 : Nat) (t0 : zK i0 = (5, 6)) (s : zH) : zMet L xs yX5_init cX5_init 1 none 0 1 [qr i0] s (CX5_init i0 s) := by
  refine zMet.of (y0 := "BottlePost$Relay") (by decide +kernel) (Or.inl ⟨rfl, rfl⟩) (Nat.le_of_ble_eq_true rfl) (fun _ => rfl) ?_
  show zS "BottlePost$Relay" L xs cX5_init "BottlePost$Relay" 1 1 0 0 [(0, qr i0)] [] s (CX5_init i0 s)
  unfold CX5_init
  refine Z_aload_n 0 dX5_init_0 rfl rfl rfl ?_
  refine Z_obj tw_311 tw_27 tw_28 (by decide) (Nat.le_of_ble_eq_true rfl) dX5_init_1 rfl ?_
  refine Z_aload_n 0 dX5_init_4 rfl rfl rfl ?_
  refine Z_bipush (a := 6) dX5_init_5 rfl (by decide) (by decide) ?_
  refine Z_ite (fun g1 => ?_) (fun _ => Z_none)
  refine Z_newa (fty := .int) dX5_init_7 rfl g1.1 g1.2 (by decide) (by decide) rfl rfl (fun _ => rfl) (fun _ _ g => g) rfl (by decide) (by decide) tw_143 ?_
  refine Z_lh (fun s2 => ?_)
  refine Z_putr 0 qC_5 (by decide) (by decide) (fun _ => ⟨rfl, rfl⟩) t0 rfl rfl (by rw [g1.2]; decide) tw_312 dX5_init_9 rfl ?_
  refine Z_lh (fun s3 => ?_)
  refine Z_aload_n 0 dX5_init_12 rfl rfl rfl ?_
  refine Z_bipush (a := 6) dX5_init_13 rfl (by decide) (by decide) ?_
  refine Z_ite (fun g4 => ?_) (fun _ => Z_none)
  refine Z_newa (fty := .int) dX5_init_15 rfl g4.1 g4.2 (by decide) (by decide) rfl rfl (fun _ => rfl) (fun _ _ g => g) rfl (by decide) (by decide) tw_143 ?_
  refine Z_lh (fun s5 => ?_)
  refine Z_putr 1 qC_5 (by decide) (by decide) (fun _ => ⟨rfl, rfl⟩) t0 rfl rfl (by rw [g4.2]; decide) tw_313 dX5_init_17 rfl ?_
  refine Z_lh (fun s6 => ?_)
  exact Z_vret dX5_init_20
def CX4_init (i0 : Nat) (s : zH) : Option (Int × zH) := if zK s.1 = (1, 20) then zlt (znew s) fun s2 => zbd (CX1_init s.1 s2) fun _ s3 => zlt (zur s3 i0 0 s.1) fun s4 => zlt (zu s4 i0 2 (-1)) fun s5 => if s5.1 < 225 ∧ zK s5.1 = (21, 0) then zlt (znew s5) fun s7 => zlt (zur s7 i0 3 s5.1) fun s8 => some (0, s8) else none else none
set_option maxRecDepth 100000 in
set_option maxHeartbeats 2000000 in
theorem UX4_init {L : Nat} {xs : Nat → Int32} (i0 : Nat) (t0 : zK i0 = (4, 10)) (s : zH) : zMet L xs yX4_init cX4_init 1 none 0 2 [qr i0] s (CX4_init i0 s) := by
  refine zMet.of (y0 := "BottlePost$Reader") (by decide +kernel) (Or.inl ⟨rfl, rfl⟩) (Nat.le_of_ble_eq_true rfl) (fun _ => rfl) ?_
  show zS "BottlePost$Reader" L xs cX4_init "BottlePost$Reader" 1 2 0 0 [(0, qr i0)] [] s (CX4_init i0 s)
  unfold CX4_init
  refine Z_aload_n 0 dX4_init_0 rfl rfl rfl ?_
  refine Z_obj tw_34 tw_27 tw_28 (by decide) (Nat.le_of_ble_eq_true rfl) dX4_init_1 rfl ?_
  refine Z_aload_n 0 dX4_init_4 rfl rfl rfl ?_
  refine Z_ite (fun g1 => ?_) (fun _ => Z_none)
  refine Z_new qC_1 zdf_1 tw_35 tw_36 tw_3 dX4_init_5 rfl g1 ?_
  refine Z_lh (fun s2 => ?_)
  refine Z_dup dX4_init_8 rfl rfl ?_
  refine Z_callI (UX1_init s.1 g1 s2) (Or.inr ⟨_, tw_37⟩) zyi_1 (by decide) (Nat.le_of_ble_eq_true rfl) dX4_init_9 rfl (fun _ s3 _ => ?_)
  refine Z_putr 0 qC_4 (by decide) (by decide) (fun _ => ⟨rfl, rfl⟩) t0 rfl rfl (by rw [g1]; decide) tw_144 dX4_init_12 rfl ?_
  refine Z_lh (fun s4 => ?_)
  refine Z_aload_n 0 dX4_init_15 rfl rfl rfl ?_
  refine Z_iconst (a := (-1)) dX4_init_16 rfl (by decide) ?_
  refine Z_puti 2 qC_4 (by decide) (by decide) rfl rfl t0 tw_148 dX4_init_17 rfl ?_
  refine Z_lh (fun s5 => ?_)
  refine Z_aload_n 0 dX4_init_20 rfl rfl rfl ?_
  refine Z_iconst (a := 0) dX4_init_21 rfl (by decide) ?_
  refine Z_ite (fun g6 => ?_) (fun _ => Z_none)
  refine Z_newa (fty := .byte) dX4_init_22 rfl g6.1 g6.2 (by decide) (by decide) rfl rfl (fun _ => rfl) (fun _ _ g => g) rfl (by decide) (by decide) tw_142 ?_
  refine Z_lh (fun s7 => ?_)
  refine Z_putr 3 qC_4 (by decide) (by decide) (fun _ => ⟨rfl, rfl⟩) t0 rfl rfl (by rw [g6.2]; decide) tw_150 dX4_init_24 rfl ?_
  refine Z_lh (fun s8 => ?_)
  exact Z_vret dX4_init_27
def CX8_init (i0 : Nat) (s : zH) : Option (Int × zH) := if zK s.1 = (0, 8) then zlt (znew s) fun s2 => zbd (CX0_init s.1 s2) fun _ s3 => zlt (zur s3 i0 0 s.1) fun s4 => if s4.1 < 225 ∧ zK s4.1 = (20, 4) then zlt (znew s4) fun s6 => zlt (zur s6 i0 1 s4.1) fun s7 => some (0, s7) else none else none
set_option maxRecDepth 100000 in
set_option maxHeartbeats 2000000 in
theorem UX8_init {L : Nat} {xs : Nat → Int32} (i0 : Nat) (t0 : zK i0 = (8, 4)) (s : zH) : zMet L xs yX8_init cX8_init 1 none 0 2 [qr i0] s (CX8_init i0 s) := by
  refine zMet.of (y0 := "BottlePost$Witness") (by decide +kernel) (Or.inl ⟨rfl, rfl⟩) (Nat.le_of_ble_eq_true rfl) (fun _ => rfl) ?_
  show zS "BottlePost$Witness" L xs cX8_init "BottlePost$Witness" 1 2 0 0 [(0, qr i0)] [] s (CX8_init i0 s)
  unfold CX8_init
  refine Z_aload_n 0 dX8_init_0 rfl rfl rfl ?_
  refine Z_obj tw_338 tw_27 tw_28 (by decide) (Nat.le_of_ble_eq_true rfl) dX8_init_1 rfl ?_
  refine Z_aload_n 0 dX8_init_4 rfl rfl rfl ?_
  refine Z_ite (fun g1 => ?_) (fun _ => Z_none)
  refine Z_new qC_0 zdf_0 tw_339 tw_187 tw_5 dX8_init_5 rfl g1 ?_
  refine Z_lh (fun s2 => ?_)
  refine Z_dup dX8_init_8 rfl rfl ?_
  refine Z_callI (UX0_init s.1 g1 s2) (Or.inr ⟨_, tw_340⟩) zyi_0 (by decide) (Nat.le_of_ble_eq_true rfl) dX8_init_9 rfl (fun _ s3 _ => ?_)
  refine Z_putr 0 qC_8 (by decide) (by decide) (fun _ => ⟨rfl, rfl⟩) t0 rfl rfl (by rw [g1]; decide) tw_341 dX8_init_12 rfl ?_
  refine Z_lh (fun s4 => ?_)
  refine Z_aload_n 0 dX8_init_15 rfl rfl rfl ?_
  refine Z_iconst (a := 4) dX8_init_16 rfl (by decide) ?_
  refine Z_ite (fun g5 => ?_) (fun _ => Z_none)
  refine Z_newa (fty := .int) dX8_init_17 rfl g5.1 g5.2 (by decide) (by decide) rfl rfl (fun _ => rfl) (fun _ _ g => g) rfl (by decide) (by decide) tw_143 ?_
  refine Z_lh (fun s6 => ?_)
  refine Z_putr 1 qC_8 (by decide) (by decide) (fun _ => ⟨rfl, rfl⟩) t0 rfl rfl (by rw [g5.2]; decide) tw_342 dX8_init_19 rfl ?_
  refine Z_lh (fun s7 => ?_)
  exact Z_vret dX8_init_22
def CX7_init (i0 : Nat) (s : zH) : Option (Int × zH) := if s.1 < 225 ∧ zK s.1 = (25, 8) then zlt (znew s) fun s2 => zlt (zur s2 i0 0 s.1) fun s3 => zro (s3.2.2 i0 0) fun j4 => if zK j4 = (25, 8) then if zK s3.1 = (0, 8) then zlt (znew s3) fun s7 => zbd (CX0_init s3.1 s7) fun _ s8 => zlt (zur s8 j4 0 s3.1) fun s9 => zro (s9.2.2 i0 0) fun j10 => if zK j10 = (25, 8) then if zK s9.1 = (0, 8) then zlt (znew s9) fun s13 => zbd (CX0_init s9.1 s13) fun _ s14 => zlt (zur s14 j10 1 s9.1) fun s15 => zro (s15.2.2 i0 0) fun j16 => if zK j16 = (25, 8) then if zK s15.1 = (0, 8) then zlt (znew s15) fun s19 => zbd (CX0_init s15.1 s19) fun _ s20 => zlt (zur s20 j16 2 s15.1) fun s21 => zro (s21.2.2 i0 0) fun j22 => if zK j22 = (25, 8) then if zK s21.1 = (0, 8) then zlt (znew s21) fun s25 => zbd (CX0_init s21.1 s25) fun _ s26 => zlt (zur s26 j22 3 s21.1) fun s27 => zro (s27.2.2 i0 0) fun j28 => if zK j28 = (25, 8) then if zK s27.1 = (0, 8) then zlt (znew s27) fun s31 => zbd (CX0_init s27.1 s31) fun _ s32 => zlt (zur s32 j28 4 s27.1) fun s33 => zro (s33.2.2 i0 0) fun j34 => if zK j34 = (25, 8) then if zK s33.1 = (0, 8) then zlt (znew s33) fun s37 => zbd (CX0_init s33.1 s37) fun _ s38 => zlt (zur s38 j34 5 s33.1) fun s39 => zro (s39.2.2 i0 0) fun j40 => if zK j40 = (25, 8) then if zK s39.1 = (0, 8) then zlt (znew s39) fun s43 => zbd (CX0_init s39.1 s43) fun _ s44 => zlt (zur s44 j40 6 s39.1) fun s45 => zro (s45.2.2 i0 0) fun j46 => if zK j46 = (25, 8) then if zK s45.1 = (0, 8) then zlt (znew s45) fun s49 => zbd (CX0_init s45.1 s49) fun _ s50 => zlt (zur s50 j46 7 s45.1) fun s51 => some (0, s51) else none else none else none else none else none else none else none else none else none else none else none else none else none else none else none else none else none
set_option maxRecDepth 100000 in
set_option maxHeartbeats 2000000 in
theorem UX7_init {L : Nat} {xs : Nat → Int32} (i0 : Nat) (t0 : zK i0 = (7, 3)) (s : zH) : zMet L xs yX7_init cX7_init 2 none 0 2 [qr i0] s (CX7_init i0 s) := by
  refine zMet.of (y0 := "BottlePost$Waters") (by decide +kernel) (Or.inl ⟨rfl, rfl⟩) (Nat.le_of_ble_eq_true rfl) (fun _ => rfl) ?_
  show zS "BottlePost$Waters" L xs cX7_init "BottlePost$Waters" 2 2 0 0 [(0, qr i0)] [] s (CX7_init i0 s)
  unfold CX7_init
  refine Z_aload_n 0 dX7_init_0 rfl rfl rfl ?_
  refine Z_obj tw_267 tw_27 tw_28 (by decide) (Nat.le_of_ble_eq_true rfl) dX7_init_1 rfl ?_
  refine Z_aload_n 0 dX7_init_4 rfl rfl rfl ?_
  refine Z_bipush (a := 8) dX7_init_5 rfl (by decide) (by decide) ?_
  refine Z_ite (fun g1 => ?_) (fun _ => Z_none)
  refine Z_newq (C := "BottlePost$Bottle") dX7_init_7 rfl g1.1 g1.2 (by decide) (fun _ => rfl) (fun _ g => g.1) rfl (by decide) (by decide) tw_268 ?_
  refine Z_lh (fun s2 => ?_)
  refine Z_putr 0 qC_7 (by decide) (by decide) (fun _ => ⟨rfl, rfl⟩) t0 rfl rfl (by rw [g1.2]; decide) tw_271 dX7_init_10 rfl ?_
  refine Z_lh (fun s3 => ?_)
  refine Z_iconst (a := 0) dX7_init_13 rfl (by decide) ?_
  refine Z_istore_n (lv' := [(1, qi 0), (0, qr i0)]) dX7_init_14 rfl (by decide) rfl rfl ?_
  refine Z_iload_n 0 dX7_init_15 rfl rfl rfl ?_
  refine Z_bipush (a := 8) dX7_init_16 rfl (by decide) (by decide) ?_
  refine Z_pick_f ((8 : Int) ≤ 0) (by decide) ?_
  refine Z_icmp_ge (x := none) (tgt := 40) dX7_init_18 (by decide) rfl (fun gn => absurd gn (by decide)) (fun _ => ?_)
  refine Z_aload_n 1 dX7_init_21 rfl rfl rfl ?_
  refine Z_getro 0 qC_7 (by decide) (by decide) t0 tw_271 dX7_init_22 rfl (fun j4 => ?_)
  refine Z_ite (fun g5 => ?_) (fun _ => Z_none)
  refine Z_iload_n 0 dX7_init_25 rfl rfl rfl ?_
  refine Z_ite (fun g6 => ?_) (fun _ => Z_none)
  refine Z_new qC_0 zdf_0 tw_268 tw_187 tw_5 dX7_init_26 rfl g6 ?_
  refine Z_lh (fun s7 => ?_)
  refine Z_dup dX7_init_29 rfl rfl ?_
  refine Z_callI (UX0_init s3.1 g6 s7) (Or.inr ⟨_, tw_270⟩) zyi_0 (by decide) (Nat.le_of_ble_eq_true rfl) dX7_init_30 rfl (fun _ s8 _ => ?_)
  refine Z_aast (NN := 8) g5 (by decide) (by decide) (fun _ => rfl) qC_0 g6 rfl (by decide) (by decide) dX7_init_33 rfl ?_
  show zS _ _ _ _ _ _ _ _ _ _ _ (zur s8 j4 0 s3.1) _
  refine Z_lh (fun s9 => ?_)
  refine Z_iincl (b := 1) (lv' := [(1, qi 1), (0, qr i0)]) 0 (by decide +kernel) dX7_init_34 rfl (by decide) rfl rfl ?_
  refine Z_goto (pc' := 15) dX7_init_37 (by decide) ?_
  refine Z_iload_n 0 dX7_init_15 rfl rfl rfl ?_
  refine Z_bipush (a := 8) dX7_init_16 rfl (by decide) (by decide) ?_
  refine Z_pick_f ((8 : Int) ≤ 1) (by decide) ?_
  refine Z_icmp_ge (x := none) (tgt := 40) dX7_init_18 (by decide) rfl (fun gn => absurd gn (by decide)) (fun _ => ?_)
  refine Z_aload_n 1 dX7_init_21 rfl rfl rfl ?_
  refine Z_getro 0 qC_7 (by decide) (by decide) t0 tw_271 dX7_init_22 rfl (fun j10 => ?_)
  refine Z_ite (fun g11 => ?_) (fun _ => Z_none)
  refine Z_iload_n 0 dX7_init_25 rfl rfl rfl ?_
  refine Z_ite (fun g12 => ?_) (fun _ => Z_none)
  refine Z_new qC_0 zdf_0 tw_268 tw_187 tw_5 dX7_init_26 rfl g12 ?_
  refine Z_lh (fun s13 => ?_)
  refine Z_dup dX7_init_29 rfl rfl ?_
  refine Z_callI (UX0_init s9.1 g12 s13) (Or.inr ⟨_, tw_270⟩) zyi_0 (by decide) (Nat.le_of_ble_eq_true rfl) dX7_init_30 rfl (fun _ s14 _ => ?_)
  refine Z_aast (NN := 8) g11 (by decide) (by decide) (fun _ => rfl) qC_0 g12 rfl (by decide) (by decide) dX7_init_33 rfl ?_
  show zS _ _ _ _ _ _ _ _ _ _ _ (zur s14 j10 1 s9.1) _
  refine Z_lh (fun s15 => ?_)
  refine Z_iincl (b := 2) (lv' := [(1, qi 2), (0, qr i0)]) 0 (by decide +kernel) dX7_init_34 rfl (by decide) rfl rfl ?_
  refine Z_goto (pc' := 15) dX7_init_37 (by decide) ?_
  refine Z_iload_n 0 dX7_init_15 rfl rfl rfl ?_
  refine Z_bipush (a := 8) dX7_init_16 rfl (by decide) (by decide) ?_
  refine Z_pick_f ((8 : Int) ≤ 2) (by decide) ?_
  refine Z_icmp_ge (x := none) (tgt := 40) dX7_init_18 (by decide) rfl (fun gn => absurd gn (by decide)) (fun _ => ?_)
  refine Z_aload_n 1 dX7_init_21 rfl rfl rfl ?_
  refine Z_getro 0 qC_7 (by decide) (by decide) t0 tw_271 dX7_init_22 rfl (fun j16 => ?_)
  refine Z_ite (fun g17 => ?_) (fun _ => Z_none)
  refine Z_iload_n 0 dX7_init_25 rfl rfl rfl ?_
  refine Z_ite (fun g18 => ?_) (fun _ => Z_none)
  refine Z_new qC_0 zdf_0 tw_268 tw_187 tw_5 dX7_init_26 rfl g18 ?_
  refine Z_lh (fun s19 => ?_)
  refine Z_dup dX7_init_29 rfl rfl ?_
  refine Z_callI (UX0_init s15.1 g18 s19) (Or.inr ⟨_, tw_270⟩) zyi_0 (by decide) (Nat.le_of_ble_eq_true rfl) dX7_init_30 rfl (fun _ s20 _ => ?_)
  refine Z_aast (NN := 8) g17 (by decide) (by decide) (fun _ => rfl) qC_0 g18 rfl (by decide) (by decide) dX7_init_33 rfl ?_
  show zS _ _ _ _ _ _ _ _ _ _ _ (zur s20 j16 2 s15.1) _
  refine Z_lh (fun s21 => ?_)
  refine Z_iincl (b := 3) (lv' := [(1, qi 3), (0, qr i0)]) 0 (by decide +kernel) dX7_init_34 rfl (by decide) rfl rfl ?_
  refine Z_goto (pc' := 15) dX7_init_37 (by decide) ?_
  refine Z_iload_n 0 dX7_init_15 rfl rfl rfl ?_
  refine Z_bipush (a := 8) dX7_init_16 rfl (by decide) (by decide) ?_
  refine Z_pick_f ((8 : Int) ≤ 3) (by decide) ?_
  refine Z_icmp_ge (x := none) (tgt := 40) dX7_init_18 (by decide) rfl (fun gn => absurd gn (by decide)) (fun _ => ?_)
  refine Z_aload_n 1 dX7_init_21 rfl rfl rfl ?_
  refine Z_getro 0 qC_7 (by decide) (by decide) t0 tw_271 dX7_init_22 rfl (fun j22 => ?_)
  refine Z_ite (fun g23 => ?_) (fun _ => Z_none)
  refine Z_iload_n 0 dX7_init_25 rfl rfl rfl ?_
  refine Z_ite (fun g24 => ?_) (fun _ => Z_none)
  refine Z_new qC_0 zdf_0 tw_268 tw_187 tw_5 dX7_init_26 rfl g24 ?_
  refine Z_lh (fun s25 => ?_)
  refine Z_dup dX7_init_29 rfl rfl ?_
  refine Z_callI (UX0_init s21.1 g24 s25) (Or.inr ⟨_, tw_270⟩) zyi_0 (by decide) (Nat.le_of_ble_eq_true rfl) dX7_init_30 rfl (fun _ s26 _ => ?_)
  refine Z_aast (NN := 8) g23 (by decide) (by decide) (fun _ => rfl) qC_0 g24 rfl (by decide) (by decide) dX7_init_33 rfl ?_
  show zS _ _ _ _ _ _ _ _ _ _ _ (zur s26 j22 3 s21.1) _
  refine Z_lh (fun s27 => ?_)
  refine Z_iincl (b := 4) (lv' := [(1, qi 4), (0, qr i0)]) 0 (by decide +kernel) dX7_init_34 rfl (by decide) rfl rfl ?_
  refine Z_goto (pc' := 15) dX7_init_37 (by decide) ?_
  refine Z_iload_n 0 dX7_init_15 rfl rfl rfl ?_
  refine Z_bipush (a := 8) dX7_init_16 rfl (by decide) (by decide) ?_
  refine Z_pick_f ((8 : Int) ≤ 4) (by decide) ?_
  refine Z_icmp_ge (x := none) (tgt := 40) dX7_init_18 (by decide) rfl (fun gn => absurd gn (by decide)) (fun _ => ?_)
  refine Z_aload_n 1 dX7_init_21 rfl rfl rfl ?_
  refine Z_getro 0 qC_7 (by decide) (by decide) t0 tw_271 dX7_init_22 rfl (fun j28 => ?_)
  refine Z_ite (fun g29 => ?_) (fun _ => Z_none)
  refine Z_iload_n 0 dX7_init_25 rfl rfl rfl ?_
  refine Z_ite (fun g30 => ?_) (fun _ => Z_none)
  refine Z_new qC_0 zdf_0 tw_268 tw_187 tw_5 dX7_init_26 rfl g30 ?_
  refine Z_lh (fun s31 => ?_)
  refine Z_dup dX7_init_29 rfl rfl ?_
  refine Z_callI (UX0_init s27.1 g30 s31) (Or.inr ⟨_, tw_270⟩) zyi_0 (by decide) (Nat.le_of_ble_eq_true rfl) dX7_init_30 rfl (fun _ s32 _ => ?_)
  refine Z_aast (NN := 8) g29 (by decide) (by decide) (fun _ => rfl) qC_0 g30 rfl (by decide) (by decide) dX7_init_33 rfl ?_
  show zS _ _ _ _ _ _ _ _ _ _ _ (zur s32 j28 4 s27.1) _
  refine Z_lh (fun s33 => ?_)
  refine Z_iincl (b := 5) (lv' := [(1, qi 5), (0, qr i0)]) 0 (by decide +kernel) dX7_init_34 rfl (by decide) rfl rfl ?_
  refine Z_goto (pc' := 15) dX7_init_37 (by decide) ?_
  refine Z_iload_n 0 dX7_init_15 rfl rfl rfl ?_
  refine Z_bipush (a := 8) dX7_init_16 rfl (by decide) (by decide) ?_
  refine Z_pick_f ((8 : Int) ≤ 5) (by decide) ?_
  refine Z_icmp_ge (x := none) (tgt := 40) dX7_init_18 (by decide) rfl (fun gn => absurd gn (by decide)) (fun _ => ?_)
  refine Z_aload_n 1 dX7_init_21 rfl rfl rfl ?_
  refine Z_getro 0 qC_7 (by decide) (by decide) t0 tw_271 dX7_init_22 rfl (fun j34 => ?_)
  refine Z_ite (fun g35 => ?_) (fun _ => Z_none)
  refine Z_iload_n 0 dX7_init_25 rfl rfl rfl ?_
  refine Z_ite (fun g36 => ?_) (fun _ => Z_none)
  refine Z_new qC_0 zdf_0 tw_268 tw_187 tw_5 dX7_init_26 rfl g36 ?_
  refine Z_lh (fun s37 => ?_)
  refine Z_dup dX7_init_29 rfl rfl ?_
  refine Z_callI (UX0_init s33.1 g36 s37) (Or.inr ⟨_, tw_270⟩) zyi_0 (by decide) (Nat.le_of_ble_eq_true rfl) dX7_init_30 rfl (fun _ s38 _ => ?_)
  refine Z_aast (NN := 8) g35 (by decide) (by decide) (fun _ => rfl) qC_0 g36 rfl (by decide) (by decide) dX7_init_33 rfl ?_
  show zS _ _ _ _ _ _ _ _ _ _ _ (zur s38 j34 5 s33.1) _
  refine Z_lh (fun s39 => ?_)
  refine Z_iincl (b := 6) (lv' := [(1, qi 6), (0, qr i0)]) 0 (by decide +kernel) dX7_init_34 rfl (by decide) rfl rfl ?_
  refine Z_goto (pc' := 15) dX7_init_37 (by decide) ?_
  refine Z_iload_n 0 dX7_init_15 rfl rfl rfl ?_
  refine Z_bipush (a := 8) dX7_init_16 rfl (by decide) (by decide) ?_
  refine Z_pick_f ((8 : Int) ≤ 6) (by decide) ?_
  refine Z_icmp_ge (x := none) (tgt := 40) dX7_init_18 (by decide) rfl (fun gn => absurd gn (by decide)) (fun _ => ?_)
  refine Z_aload_n 1 dX7_init_21 rfl rfl rfl ?_
  refine Z_getro 0 qC_7 (by decide) (by decide) t0 tw_271 dX7_init_22 rfl (fun j40 => ?_)
  refine Z_ite (fun g41 => ?_) (fun _ => Z_none)
  refine Z_iload_n 0 dX7_init_25 rfl rfl rfl ?_
  refine Z_ite (fun g42 => ?_) (fun _ => Z_none)
  refine Z_new qC_0 zdf_0 tw_268 tw_187 tw_5 dX7_init_26 rfl g42 ?_
  refine Z_lh (fun s43 => ?_)
  refine Z_dup dX7_init_29 rfl rfl ?_
  refine Z_callI (UX0_init s39.1 g42 s43) (Or.inr ⟨_, tw_270⟩) zyi_0 (by decide) (Nat.le_of_ble_eq_true rfl) dX7_init_30 rfl (fun _ s44 _ => ?_)
  refine Z_aast (NN := 8) g41 (by decide) (by decide) (fun _ => rfl) qC_0 g42 rfl (by decide) (by decide) dX7_init_33 rfl ?_
  show zS _ _ _ _ _ _ _ _ _ _ _ (zur s44 j40 6 s39.1) _
  refine Z_lh (fun s45 => ?_)
  refine Z_iincl (b := 7) (lv' := [(1, qi 7), (0, qr i0)]) 0 (by decide +kernel) dX7_init_34 rfl (by decide) rfl rfl ?_
  refine Z_goto (pc' := 15) dX7_init_37 (by decide) ?_
  refine Z_iload_n 0 dX7_init_15 rfl rfl rfl ?_
  refine Z_bipush (a := 8) dX7_init_16 rfl (by decide) (by decide) ?_
  refine Z_pick_f ((8 : Int) ≤ 7) (by decide) ?_
  refine Z_icmp_ge (x := none) (tgt := 40) dX7_init_18 (by decide) rfl (fun gn => absurd gn (by decide)) (fun _ => ?_)
  refine Z_aload_n 1 dX7_init_21 rfl rfl rfl ?_
  refine Z_getro 0 qC_7 (by decide) (by decide) t0 tw_271 dX7_init_22 rfl (fun j46 => ?_)
  refine Z_ite (fun g47 => ?_) (fun _ => Z_none)
  refine Z_iload_n 0 dX7_init_25 rfl rfl rfl ?_
  refine Z_ite (fun g48 => ?_) (fun _ => Z_none)
  refine Z_new qC_0 zdf_0 tw_268 tw_187 tw_5 dX7_init_26 rfl g48 ?_
  refine Z_lh (fun s49 => ?_)
  refine Z_dup dX7_init_29 rfl rfl ?_
  refine Z_callI (UX0_init s45.1 g48 s49) (Or.inr ⟨_, tw_270⟩) zyi_0 (by decide) (Nat.le_of_ble_eq_true rfl) dX7_init_30 rfl (fun _ s50 _ => ?_)
  refine Z_aast (NN := 8) g47 (by decide) (by decide) (fun _ => rfl) qC_0 g48 rfl (by decide) (by decide) dX7_init_33 rfl ?_
  show zS _ _ _ _ _ _ _ _ _ _ _ (zur s50 j46 7 s45.1) _
  refine Z_lh (fun s51 => ?_)
  refine Z_iincl (b := 8) (lv' := [(1, qi 8), (0, qr i0)]) 0 (by decide +kernel) dX7_init_34 rfl (by decide) rfl rfl ?_
  refine Z_goto (pc' := 15) dX7_init_37 (by decide) ?_
  refine Z_iload_n 0 dX7_init_15 rfl rfl rfl ?_
  refine Z_bipush (a := 8) dX7_init_16 rfl (by decide) (by decide) ?_
  refine Z_pick_t ((8 : Int) ≤ 8) (by decide) ?_
  refine Z_icmp_ge (y := none) (tgt := 40) dX7_init_18 (by decide) rfl (fun _ => ?_) (fun gn => absurd (by decide) gn)
  exact Z_vret dX7_init_40
def CX3_init (i0 : Nat) (s : zH) : Option (Int × zH) := if s.1 < 225 ∧ zK s.1 = (26, 11) then zlt (znew s) fun s2 => zlt (zur s2 i0 0 s.1) fun s3 => zro (s3.2.2 i0 0) fun j4 => if zK j4 = (26, 11) then if zK s3.1 = (7, 3) then zlt (znew s3) fun s7 => zbd (CX7_init s3.1 s7) fun _ s8 => zlt (zur s8 j4 0 s3.1) fun s9 => zro (s9.2.2 i0 0) fun j10 => if zK j10 = (26, 11) then if zK s9.1 = (7, 3) then zlt (znew s9) fun s13 => zbd (CX7_init s9.1 s13) fun _ s14 => zlt (zur s14 j10 1 s9.1) fun s15 => zro (s15.2.2 i0 0) fun j16 => if zK j16 = (26, 11) then if zK s15.1 = (7, 3) then zlt (znew s15) fun s19 => zbd (CX7_init s15.1 s19) fun _ s20 => zlt (zur s20 j16 2 s15.1) fun s21 => zro (s21.2.2 i0 0) fun j22 => if zK j22 = (26, 11) then if zK s21.1 = (7, 3) then zlt (znew s21) fun s25 => zbd (CX7_init s21.1 s25) fun _ s26 => zlt (zur s26 j22 3 s21.1) fun s27 => zro (s27.2.2 i0 0) fun j28 => if zK j28 = (26, 11) then if zK s27.1 = (7, 3) then zlt (znew s27) fun s31 => zbd (CX7_init s27.1 s31) fun _ s32 => zlt (zur s32 j28 4 s27.1) fun s33 => zro (s33.2.2 i0 0) fun j34 => if zK j34 = (26, 11) then if zK s33.1 = (7, 3) then zlt (znew s33) fun s37 => zbd (CX7_init s33.1 s37) fun _ s38 => zlt (zur s38 j34 5 s33.1) fun s39 => zro (s39.2.2 i0 0) fun j40 => if zK j40 = (26, 11) then if zK s39.1 = (7, 3) then zlt (znew s39) fun s43 => zbd (CX7_init s39.1 s43) fun _ s44 => zlt (zur s44 j40 6 s39.1) fun s45 => zro (s45.2.2 i0 0) fun j46 => if zK j46 = (26, 11) then if zK s45.1 = (7, 3) then zlt (znew s45) fun s49 => zbd (CX7_init s45.1 s49) fun _ s50 => zlt (zur s50 j46 7 s45.1) fun s51 => zro (s51.2.2 i0 0) fun j52 => if zK j52 = (26, 11) then if zK s51.1 = (7, 3) then zlt (znew s51) fun s55 => zbd (CX7_init s51.1 s55) fun _ s56 => zlt (zur s56 j52 8 s51.1) fun s57 => zro (s57.2.2 i0 0) fun j58 => if zK j58 = (26, 11) then if zK s57.1 = (7, 3) then zlt (znew s57) fun s61 => zbd (CX7_init s57.1 s61) fun _ s62 => zlt (zur s62 j58 9 s57.1) fun s63 => zro (s63.2.2 i0 0) fun j64 => if zK j64 = (26, 11) then if zK s63.1 = (7, 3) then zlt (znew s63) fun s67 => zbd (CX7_init s63.1 s67) fun _ s68 => zlt (zur s68 j64 10 s63.1) fun s69 => some (0, s69) else none else none else none else none else none else none else none else none else none else none else none else none else none else none else none else none else none else none else none else none else none else none else none
set_option maxRecDepth 100000 in
set_option maxHeartbeats 2000000 in
theorem UX3_init {L : Nat} {xs : Nat → Int32} (i0 : Nat) (t0 : zK i0 = (3, 3)) (s : zH) : zMet L xs yX3_init cX3_init 2 none 0 3 [qr i0] s (CX3_init i0 s) := by
  refine zMet.of (y0 := "BottlePost$Past") (by decide +kernel) (Or.inl ⟨rfl, rfl⟩) (Nat.le_of_ble_eq_true rfl) (fun _ => rfl) ?_
  show zS "BottlePost$Past" L xs cX3_init "BottlePost$Past" 2 3 0 0 [(0, qr i0)] [] s (CX3_init i0 s)
  unfold CX3_init
  refine Z_aload_n 0 dX3_init_0 rfl rfl rfl ?_
  refine Z_obj tw_289 tw_27 tw_28 (by decide) (Nat.le_of_ble_eq_true rfl) dX3_init_1 rfl ?_
  refine Z_aload_n 0 dX3_init_4 rfl rfl rfl ?_
  refine Z_bipush (a := 11) dX3_init_5 rfl (by decide) (by decide) ?_
  refine Z_ite (fun g1 => ?_) (fun _ => Z_none)
  refine Z_newq (C := "BottlePost$Waters") dX3_init_7 rfl g1.1 g1.2 (by decide) (fun _ => rfl) (fun _ g => g.2.1) rfl (by decide) (by decide) tw_290 ?_
  refine Z_lh (fun s2 => ?_)
  refine Z_putr 0 qC_3 (by decide) (by decide) (fun _ => ⟨rfl, rfl⟩) t0 rfl rfl (by rw [g1.2]; decide) tw_293 dX3_init_10 rfl ?_
  refine Z_lh (fun s3 => ?_)
  refine Z_iconst (a := 0) dX3_init_13 rfl (by decide) ?_
  refine Z_istore_n (lv' := [(1, qi 0), (0, qr i0)]) dX3_init_14 rfl (by decide) rfl rfl ?_
  refine Z_iload_n 0 dX3_init_15 rfl rfl rfl ?_
  refine Z_bipush (a := 10) dX3_init_16 rfl (by decide) (by decide) ?_
  refine Z_pick_f ((10 : Int) < 0) (by decide) ?_
  refine Z_icmp_gt (x := none) (tgt := 40) dX3_init_18 (by decide) rfl (fun gn => absurd gn (by decide)) (fun _ => ?_)
  refine Z_aload_n 1 dX3_init_21 rfl rfl rfl ?_
  refine Z_getro 0 qC_3 (by decide) (by decide) t0 tw_293 dX3_init_22 rfl (fun j4 => ?_)
  refine Z_ite (fun g5 => ?_) (fun _ => Z_none)
  refine Z_iload_n 0 dX3_init_25 rfl rfl rfl ?_
  refine Z_ite (fun g6 => ?_) (fun _ => Z_none)
  refine Z_new qC_7 zdf_7 tw_290 tw_263 tw_6 dX3_init_26 rfl g6 ?_
  refine Z_lh (fun s7 => ?_)
  refine Z_dup dX3_init_29 rfl rfl ?_
  refine Z_callI (UX7_init s3.1 g6 s7) (Or.inl tw_292) zyi_7 (by decide) (Nat.le_of_ble_eq_true rfl) dX3_init_30 rfl (fun _ s8 _ => ?_)
  refine Z_aast (NN := 11) g5 (by decide) (by decide) (fun _ => rfl) qC_7 g6 rfl (by decide) (by decide) dX3_init_33 rfl ?_
  show zS _ _ _ _ _ _ _ _ _ _ _ (zur s8 j4 0 s3.1) _
  refine Z_lh (fun s9 => ?_)
  refine Z_iincl (b := 1) (lv' := [(1, qi 1), (0, qr i0)]) 0 (by decide +kernel) dX3_init_34 rfl (by decide) rfl rfl ?_
  refine Z_goto (pc' := 15) dX3_init_37 (by decide) ?_
  refine Z_iload_n 0 dX3_init_15 rfl rfl rfl ?_
  refine Z_bipush (a := 10) dX3_init_16 rfl (by decide) (by decide) ?_
  refine Z_pick_f ((10 : Int) < 1) (by decide) ?_
  refine Z_icmp_gt (x := none) (tgt := 40) dX3_init_18 (by decide) rfl (fun gn => absurd gn (by decide)) (fun _ => ?_)
  refine Z_aload_n 1 dX3_init_21 rfl rfl rfl ?_
  refine Z_getro 0 qC_3 (by decide) (by decide) t0 tw_293 dX3_init_22 rfl (fun j10 => ?_)
  refine Z_ite (fun g11 => ?_) (fun _ => Z_none)
  refine Z_iload_n 0 dX3_init_25 rfl rfl rfl ?_
  refine Z_ite (fun g12 => ?_) (fun _ => Z_none)
  refine Z_new qC_7 zdf_7 tw_290 tw_263 tw_6 dX3_init_26 rfl g12 ?_
  refine Z_lh (fun s13 => ?_)
  refine Z_dup dX3_init_29 rfl rfl ?_
  refine Z_callI (UX7_init s9.1 g12 s13) (Or.inl tw_292) zyi_7 (by decide) (Nat.le_of_ble_eq_true rfl) dX3_init_30 rfl (fun _ s14 _ => ?_)
  refine Z_aast (NN := 11) g11 (by decide) (by decide) (fun _ => rfl) qC_7 g12 rfl (by decide) (by decide) dX3_init_33 rfl ?_
  show zS _ _ _ _ _ _ _ _ _ _ _ (zur s14 j10 1 s9.1) _
  refine Z_lh (fun s15 => ?_)
  refine Z_iincl (b := 2) (lv' := [(1, qi 2), (0, qr i0)]) 0 (by decide +kernel) dX3_init_34 rfl (by decide) rfl rfl ?_
  refine Z_goto (pc' := 15) dX3_init_37 (by decide) ?_
  refine Z_iload_n 0 dX3_init_15 rfl rfl rfl ?_
  refine Z_bipush (a := 10) dX3_init_16 rfl (by decide) (by decide) ?_
  refine Z_pick_f ((10 : Int) < 2) (by decide) ?_
  refine Z_icmp_gt (x := none) (tgt := 40) dX3_init_18 (by decide) rfl (fun gn => absurd gn (by decide)) (fun _ => ?_)
  refine Z_aload_n 1 dX3_init_21 rfl rfl rfl ?_
  refine Z_getro 0 qC_3 (by decide) (by decide) t0 tw_293 dX3_init_22 rfl (fun j16 => ?_)
  refine Z_ite (fun g17 => ?_) (fun _ => Z_none)
  refine Z_iload_n 0 dX3_init_25 rfl rfl rfl ?_
  refine Z_ite (fun g18 => ?_) (fun _ => Z_none)
  refine Z_new qC_7 zdf_7 tw_290 tw_263 tw_6 dX3_init_26 rfl g18 ?_
  refine Z_lh (fun s19 => ?_)
  refine Z_dup dX3_init_29 rfl rfl ?_
  refine Z_callI (UX7_init s15.1 g18 s19) (Or.inl tw_292) zyi_7 (by decide) (Nat.le_of_ble_eq_true rfl) dX3_init_30 rfl (fun _ s20 _ => ?_)
  refine Z_aast (NN := 11) g17 (by decide) (by decide) (fun _ => rfl) qC_7 g18 rfl (by decide) (by decide) dX3_init_33 rfl ?_
  show zS _ _ _ _ _ _ _ _ _ _ _ (zur s20 j16 2 s15.1) _
  refine Z_lh (fun s21 => ?_)
  refine Z_iincl (b := 3) (lv' := [(1, qi 3), (0, qr i0)]) 0 (by decide +kernel) dX3_init_34 rfl (by decide) rfl rfl ?_
  refine Z_goto (pc' := 15) dX3_init_37 (by decide) ?_
  refine Z_iload_n 0 dX3_init_15 rfl rfl rfl ?_
  refine Z_bipush (a := 10) dX3_init_16 rfl (by decide) (by decide) ?_
  refine Z_pick_f ((10 : Int) < 3) (by decide) ?_
  refine Z_icmp_gt (x := none) (tgt := 40) dX3_init_18 (by decide) rfl (fun gn => absurd gn (by decide)) (fun _ => ?_)
  refine Z_aload_n 1 dX3_init_21 rfl rfl rfl ?_
  refine Z_getro 0 qC_3 (by decide) (by decide) t0 tw_293 dX3_init_22 rfl (fun j22 => ?_)
  refine Z_ite (fun g23 => ?_) (fun _ => Z_none)
  refine Z_iload_n 0 dX3_init_25 rfl rfl rfl ?_
  refine Z_ite (fun g24 => ?_) (fun _ => Z_none)
  refine Z_new qC_7 zdf_7 tw_290 tw_263 tw_6 dX3_init_26 rfl g24 ?_
  refine Z_lh (fun s25 => ?_)
  refine Z_dup dX3_init_29 rfl rfl ?_
  refine Z_callI (UX7_init s21.1 g24 s25) (Or.inl tw_292) zyi_7 (by decide) (Nat.le_of_ble_eq_true rfl) dX3_init_30 rfl (fun _ s26 _ => ?_)
  refine Z_aast (NN := 11) g23 (by decide) (by decide) (fun _ => rfl) qC_7 g24 rfl (by decide) (by decide) dX3_init_33 rfl ?_
  show zS _ _ _ _ _ _ _ _ _ _ _ (zur s26 j22 3 s21.1) _
  refine Z_lh (fun s27 => ?_)
  refine Z_iincl (b := 4) (lv' := [(1, qi 4), (0, qr i0)]) 0 (by decide +kernel) dX3_init_34 rfl (by decide) rfl rfl ?_
  refine Z_goto (pc' := 15) dX3_init_37 (by decide) ?_
  refine Z_iload_n 0 dX3_init_15 rfl rfl rfl ?_
  refine Z_bipush (a := 10) dX3_init_16 rfl (by decide) (by decide) ?_
  refine Z_pick_f ((10 : Int) < 4) (by decide) ?_
  refine Z_icmp_gt (x := none) (tgt := 40) dX3_init_18 (by decide) rfl (fun gn => absurd gn (by decide)) (fun _ => ?_)
  refine Z_aload_n 1 dX3_init_21 rfl rfl rfl ?_
  refine Z_getro 0 qC_3 (by decide) (by decide) t0 tw_293 dX3_init_22 rfl (fun j28 => ?_)
  refine Z_ite (fun g29 => ?_) (fun _ => Z_none)
  refine Z_iload_n 0 dX3_init_25 rfl rfl rfl ?_
  refine Z_ite (fun g30 => ?_) (fun _ => Z_none)
  refine Z_new qC_7 zdf_7 tw_290 tw_263 tw_6 dX3_init_26 rfl g30 ?_
  refine Z_lh (fun s31 => ?_)
  refine Z_dup dX3_init_29 rfl rfl ?_
  refine Z_callI (UX7_init s27.1 g30 s31) (Or.inl tw_292) zyi_7 (by decide) (Nat.le_of_ble_eq_true rfl) dX3_init_30 rfl (fun _ s32 _ => ?_)
  refine Z_aast (NN := 11) g29 (by decide) (by decide) (fun _ => rfl) qC_7 g30 rfl (by decide) (by decide) dX3_init_33 rfl ?_
  show zS _ _ _ _ _ _ _ _ _ _ _ (zur s32 j28 4 s27.1) _
  refine Z_lh (fun s33 => ?_)
  refine Z_iincl (b := 5) (lv' := [(1, qi 5), (0, qr i0)]) 0 (by decide +kernel) dX3_init_34 rfl (by decide) rfl rfl ?_
  refine Z_goto (pc' := 15) dX3_init_37 (by decide) ?_
  refine Z_iload_n 0 dX3_init_15 rfl rfl rfl ?_
  refine Z_bipush (a := 10) dX3_init_16 rfl (by decide) (by decide) ?_
  refine Z_pick_f ((10 : Int) < 5) (by decide) ?_
  refine Z_icmp_gt (x := none) (tgt := 40) dX3_init_18 (by decide) rfl (fun gn => absurd gn (by decide)) (fun _ => ?_)
  refine Z_aload_n 1 dX3_init_21 rfl rfl rfl ?_
  refine Z_getro 0 qC_3 (by decide) (by decide) t0 tw_293 dX3_init_22 rfl (fun j34 => ?_)
  refine Z_ite (fun g35 => ?_) (fun _ => Z_none)
  refine Z_iload_n 0 dX3_init_25 rfl rfl rfl ?_
  refine Z_ite (fun g36 => ?_) (fun _ => Z_none)
  refine Z_new qC_7 zdf_7 tw_290 tw_263 tw_6 dX3_init_26 rfl g36 ?_
  refine Z_lh (fun s37 => ?_)
  refine Z_dup dX3_init_29 rfl rfl ?_
  refine Z_callI (UX7_init s33.1 g36 s37) (Or.inl tw_292) zyi_7 (by decide) (Nat.le_of_ble_eq_true rfl) dX3_init_30 rfl (fun _ s38 _ => ?_)
  refine Z_aast (NN := 11) g35 (by decide) (by decide) (fun _ => rfl) qC_7 g36 rfl (by decide) (by decide) dX3_init_33 rfl ?_
  show zS _ _ _ _ _ _ _ _ _ _ _ (zur s38 j34 5 s33.1) _
  refine Z_lh (fun s39 => ?_)
  refine Z_iincl (b := 6) (lv' := [(1, qi 6), (0, qr i0)]) 0 (by decide +kernel) dX3_init_34 rfl (by decide) rfl rfl ?_
  refine Z_goto (pc' := 15) dX3_init_37 (by decide) ?_
  refine Z_iload_n 0 dX3_init_15 rfl rfl rfl ?_
  refine Z_bipush (a := 10) dX3_init_16 rfl (by decide) (by decide) ?_
  refine Z_pick_f ((10 : Int) < 6) (by decide) ?_
  refine Z_icmp_gt (x := none) (tgt := 40) dX3_init_18 (by decide) rfl (fun gn => absurd gn (by decide)) (fun _ => ?_)
  refine Z_aload_n 1 dX3_init_21 rfl rfl rfl ?_
  refine Z_getro 0 qC_3 (by decide) (by decide) t0 tw_293 dX3_init_22 rfl (fun j40 => ?_)
  refine Z_ite (fun g41 => ?_) (fun _ => Z_none)
  refine Z_iload_n 0 dX3_init_25 rfl rfl rfl ?_
  refine Z_ite (fun g42 => ?_) (fun _ => Z_none)
  refine Z_new qC_7 zdf_7 tw_290 tw_263 tw_6 dX3_init_26 rfl g42 ?_
  refine Z_lh (fun s43 => ?_)
  refine Z_dup dX3_init_29 rfl rfl ?_
  refine Z_callI (UX7_init s39.1 g42 s43) (Or.inl tw_292) zyi_7 (by decide) (Nat.le_of_ble_eq_true rfl) dX3_init_30 rfl (fun _ s44 _ => ?_)
  refine Z_aast (NN := 11) g41 (by decide) (by decide) (fun _ => rfl) qC_7 g42 rfl (by decide) (by decide) dX3_init_33 rfl ?_
  show zS _ _ _ _ _ _ _ _ _ _ _ (zur s44 j40 6 s39.1) _
  refine Z_lh (fun s45 => ?_)
  refine Z_iincl (b := 7) (lv' := [(1, qi 7), (0, qr i0)]) 0 (by decide +kernel) dX3_init_34 rfl (by decide) rfl rfl ?_
  refine Z_goto (pc' := 15) dX3_init_37 (by decide) ?_
  refine Z_iload_n 0 dX3_init_15 rfl rfl rfl ?_
  refine Z_bipush (a := 10) dX3_init_16 rfl (by decide) (by decide) ?_
  refine Z_pick_f ((10 : Int) < 7) (by decide) ?_
  refine Z_icmp_gt (x := none) (tgt := 40) dX3_init_18 (by decide) rfl (fun gn => absurd gn (by decide)) (fun _ => ?_)
  refine Z_aload_n 1 dX3_init_21 rfl rfl rfl ?_
  refine Z_getro 0 qC_3 (by decide) (by decide) t0 tw_293 dX3_init_22 rfl (fun j46 => ?_)
  refine Z_ite (fun g47 => ?_) (fun _ => Z_none)
  refine Z_iload_n 0 dX3_init_25 rfl rfl rfl ?_
  refine Z_ite (fun g48 => ?_) (fun _ => Z_none)
  refine Z_new qC_7 zdf_7 tw_290 tw_263 tw_6 dX3_init_26 rfl g48 ?_
  refine Z_lh (fun s49 => ?_)
  refine Z_dup dX3_init_29 rfl rfl ?_
  refine Z_callI (UX7_init s45.1 g48 s49) (Or.inl tw_292) zyi_7 (by decide) (Nat.le_of_ble_eq_true rfl) dX3_init_30 rfl (fun _ s50 _ => ?_)
  refine Z_aast (NN := 11) g47 (by decide) (by decide) (fun _ => rfl) qC_7 g48 rfl (by decide) (by decide) dX3_init_33 rfl ?_
  show zS _ _ _ _ _ _ _ _ _ _ _ (zur s50 j46 7 s45.1) _
  refine Z_lh (fun s51 => ?_)
  refine Z_iincl (b := 8) (lv' := [(1, qi 8), (0, qr i0)]) 0 (by decide +kernel) dX3_init_34 rfl (by decide) rfl rfl ?_
  refine Z_goto (pc' := 15) dX3_init_37 (by decide) ?_
  refine Z_iload_n 0 dX3_init_15 rfl rfl rfl ?_
  refine Z_bipush (a := 10) dX3_init_16 rfl (by decide) (by decide) ?_
  refine Z_pick_f ((10 : Int) < 8) (by decide) ?_
  refine Z_icmp_gt (x := none) (tgt := 40) dX3_init_18 (by decide) rfl (fun gn => absurd gn (by decide)) (fun _ => ?_)
  refine Z_aload_n 1 dX3_init_21 rfl rfl rfl ?_
  refine Z_getro 0 qC_3 (by decide) (by decide) t0 tw_293 dX3_init_22 rfl (fun j52 => ?_)
  refine Z_ite (fun g53 => ?_) (fun _ => Z_none)
  refine Z_iload_n 0 dX3_init_25 rfl rfl rfl ?_
  refine Z_ite (fun g54 => ?_) (fun _ => Z_none)
  refine Z_new qC_7 zdf_7 tw_290 tw_263 tw_6 dX3_init_26 rfl g54 ?_
  refine Z_lh (fun s55 => ?_)
  refine Z_dup dX3_init_29 rfl rfl ?_
  refine Z_callI (UX7_init s51.1 g54 s55) (Or.inl tw_292) zyi_7 (by decide) (Nat.le_of_ble_eq_true rfl) dX3_init_30 rfl (fun _ s56 _ => ?_)
  refine Z_aast (NN := 11) g53 (by decide) (by decide) (fun _ => rfl) qC_7 g54 rfl (by decide) (by decide) dX3_init_33 rfl ?_
  show zS _ _ _ _ _ _ _ _ _ _ _ (zur s56 j52 8 s51.1) _
  refine Z_lh (fun s57 => ?_)
  refine Z_iincl (b := 9) (lv' := [(1, qi 9), (0, qr i0)]) 0 (by decide +kernel) dX3_init_34 rfl (by decide) rfl rfl ?_
  refine Z_goto (pc' := 15) dX3_init_37 (by decide) ?_
  refine Z_iload_n 0 dX3_init_15 rfl rfl rfl ?_
  refine Z_bipush (a := 10) dX3_init_16 rfl (by decide) (by decide) ?_
  refine Z_pick_f ((10 : Int) < 9) (by decide) ?_
  refine Z_icmp_gt (x := none) (tgt := 40) dX3_init_18 (by decide) rfl (fun gn => absurd gn (by decide)) (fun _ => ?_)
  refine Z_aload_n 1 dX3_init_21 rfl rfl rfl ?_
  refine Z_getro 0 qC_3 (by decide) (by decide) t0 tw_293 dX3_init_22 rfl (fun j58 => ?_)
  refine Z_ite (fun g59 => ?_) (fun _ => Z_none)
  refine Z_iload_n 0 dX3_init_25 rfl rfl rfl ?_
  refine Z_ite (fun g60 => ?_) (fun _ => Z_none)
  refine Z_new qC_7 zdf_7 tw_290 tw_263 tw_6 dX3_init_26 rfl g60 ?_
  refine Z_lh (fun s61 => ?_)
  refine Z_dup dX3_init_29 rfl rfl ?_
  refine Z_callI (UX7_init s57.1 g60 s61) (Or.inl tw_292) zyi_7 (by decide) (Nat.le_of_ble_eq_true rfl) dX3_init_30 rfl (fun _ s62 _ => ?_)
  refine Z_aast (NN := 11) g59 (by decide) (by decide) (fun _ => rfl) qC_7 g60 rfl (by decide) (by decide) dX3_init_33 rfl ?_
  show zS _ _ _ _ _ _ _ _ _ _ _ (zur s62 j58 9 s57.1) _
  refine Z_lh (fun s63 => ?_)
  refine Z_iincl (b := 10) (lv' := [(1, qi 10), (0, qr i0)]) 0 (by decide +kernel) dX3_init_34 rfl (by decide) rfl rfl ?_
  refine Z_goto (pc' := 15) dX3_init_37 (by decide) ?_
  refine Z_iload_n 0 dX3_init_15 rfl rfl rfl ?_
  refine Z_bipush (a := 10) dX3_init_16 rfl (by decide) (by decide) ?_
  refine Z_pick_f ((10 : Int) < 10) (by decide) ?_
  refine Z_icmp_gt (x := none) (tgt := 40) dX3_init_18 (by decide) rfl (fun gn => absurd gn (by decide)) (fun _ => ?_)
  refine Z_aload_n 1 dX3_init_21 rfl rfl rfl ?_
  refine Z_getro 0 qC_3 (by decide) (by decide) t0 tw_293 dX3_init_22 rfl (fun j64 => ?_)
  refine Z_ite (fun g65 => ?_) (fun _ => Z_none)
  refine Z_iload_n 0 dX3_init_25 rfl rfl rfl ?_
  refine Z_ite (fun g66 => ?_) (fun _ => Z_none)
  refine Z_new qC_7 zdf_7 tw_290 tw_263 tw_6 dX3_init_26 rfl g66 ?_
  refine Z_lh (fun s67 => ?_)
  refine Z_dup dX3_init_29 rfl rfl ?_
  refine Z_callI (UX7_init s63.1 g66 s67) (Or.inl tw_292) zyi_7 (by decide) (Nat.le_of_ble_eq_true rfl) dX3_init_30 rfl (fun _ s68 _ => ?_)
  refine Z_aast (NN := 11) g65 (by decide) (by decide) (fun _ => rfl) qC_7 g66 rfl (by decide) (by decide) dX3_init_33 rfl ?_
  show zS _ _ _ _ _ _ _ _ _ _ _ (zur s68 j64 10 s63.1) _
  refine Z_lh (fun s69 => ?_)
  refine Z_iincl (b := 11) (lv' := [(1, qi 11), (0, qr i0)]) 0 (by decide +kernel) dX3_init_34 rfl (by decide) rfl rfl ?_
  refine Z_goto (pc' := 15) dX3_init_37 (by decide) ?_
  refine Z_iload_n 0 dX3_init_15 rfl rfl rfl ?_
  refine Z_bipush (a := 10) dX3_init_16 rfl (by decide) (by decide) ?_
  refine Z_pick_t ((10 : Int) < 11) (by decide) ?_
  refine Z_icmp_gt (y := none) (tgt := 40) dX3_init_18 (by decide) rfl (fun _ => ?_) (fun gn => absurd (by decide) gn)
  exact Z_vret dX3_init_40
def CX2_init (i0 : Nat) (s : zH) : Option (Int × zH) := if zK s.1 = (1, 20) then zlt (znew s) fun s2 => zbd (CX1_init s.1 s2) fun _ s3 => zlt (zur s3 i0 0 s.1) fun s4 => if zK s4.1 = (0, 8) then zlt (znew s4) fun s6 => zbd (CX0_init s4.1 s6) fun _ s7 => zlt (zur s7 i0 1 s4.1) fun s8 => if s8.1 < 225 ∧ zK s8.1 = (20, 7) then zlt (znew s8) fun s10 => zlt (zur s10 i0 2 s8.1) fun s11 => if s11.1 < 225 ∧ zK s11.1 = (20, 64) then zlt (znew s11) fun s13 => zlt (zur s13 i0 3 s11.1) fun s14 => zlt (zu s14 i0 6 (-1)) fun s15 => some (0, s15) else none else none else none else none
set_option maxRecDepth 100000 in
set_option maxHeartbeats 2000000 in
theorem UX2_init {L : Nat} {xs : Nat → Int32} (i0 : Nat) (t0 : zK i0 = (2, 7)) (s : zH) : zMet L xs yX2_init cX2_init 1 none 0 2 [qr i0] s (CX2_init i0 s) := by
  refine zMet.of (y0 := "BottlePost$Drift") (by decide +kernel) (Or.inl ⟨rfl, rfl⟩) (Nat.le_of_ble_eq_true rfl) (fun _ => rfl) ?_
  show zS "BottlePost$Drift" L xs cX2_init "BottlePost$Drift" 1 2 0 0 [(0, qr i0)] [] s (CX2_init i0 s)
  unfold CX2_init
  refine Z_aload_n 0 dX2_init_0 rfl rfl rfl ?_
  refine Z_obj tw_183 tw_27 tw_28 (by decide) (Nat.le_of_ble_eq_true rfl) dX2_init_1 rfl ?_
  refine Z_aload_n 0 dX2_init_4 rfl rfl rfl ?_
  refine Z_ite (fun g1 => ?_) (fun _ => Z_none)
  refine Z_new qC_1 zdf_1 tw_184 tw_36 tw_3 dX2_init_5 rfl g1 ?_
  refine Z_lh (fun s2 => ?_)
  refine Z_dup dX2_init_8 rfl rfl ?_
  refine Z_callI (UX1_init s.1 g1 s2) (Or.inr ⟨_, tw_185⟩) zyi_1 (by decide) (Nat.le_of_ble_eq_true rfl) dX2_init_9 rfl (fun _ s3 _ => ?_)
  refine Z_putr 0 qC_2 (by decide) (by decide) (fun _ => ⟨rfl, rfl⟩) t0 rfl rfl (by rw [g1]; decide) tw_236 dX2_init_12 rfl ?_
  refine Z_lh (fun s4 => ?_)
  refine Z_aload_n 0 dX2_init_15 rfl rfl rfl ?_
  refine Z_ite (fun g5 => ?_) (fun _ => Z_none)
  refine Z_new qC_0 zdf_0 tw_186 tw_187 tw_5 dX2_init_16 rfl g5 ?_
  refine Z_lh (fun s6 => ?_)
  refine Z_dup dX2_init_19 rfl rfl ?_
  refine Z_callI (UX0_init s4.1 g5 s6) (Or.inr ⟨_, tw_188⟩) zyi_0 (by decide) (Nat.le_of_ble_eq_true rfl) dX2_init_20 rfl (fun _ s7 _ => ?_)
  refine Z_putr 1 qC_2 (by decide) (by decide) (fun _ => ⟨rfl, rfl⟩) t0 rfl rfl (by rw [g5]; decide) tw_240 dX2_init_23 rfl ?_
  refine Z_lh (fun s8 => ?_)
  refine Z_aload_n 0 dX2_init_26 rfl rfl rfl ?_
  refine Z_bipush (a := 7) dX2_init_27 rfl (by decide) (by decide) ?_
  refine Z_ite (fun g9 => ?_) (fun _ => Z_none)
  refine Z_newa (fty := .int) dX2_init_29 rfl g9.1 g9.2 (by decide) (by decide) rfl rfl (fun _ => rfl) (fun _ _ g => g) rfl (by decide) (by decide) tw_143 ?_
  refine Z_lh (fun s10 => ?_)
  refine Z_putr 2 qC_2 (by decide) (by decide) (fun _ => ⟨rfl, rfl⟩) t0 rfl rfl (by rw [g9.2]; decide) tw_241 dX2_init_31 rfl ?_
  refine Z_lh (fun s11 => ?_)
  refine Z_aload_n 0 dX2_init_34 rfl rfl rfl ?_
  refine Z_bipush (a := 64) dX2_init_35 rfl (by decide) (by decide) ?_
  refine Z_ite (fun g12 => ?_) (fun _ => Z_none)
  refine Z_newa (fty := .int) dX2_init_37 rfl g12.1 g12.2 (by decide) (by decide) rfl rfl (fun _ => rfl) (fun _ _ g => g) rfl (by decide) (by decide) tw_143 ?_
  refine Z_lh (fun s13 => ?_)
  refine Z_putr 3 qC_2 (by decide) (by decide) (fun _ => ⟨rfl, rfl⟩) t0 rfl rfl (by rw [g12.2]; decide) tw_242 dX2_init_39 rfl ?_
  refine Z_lh (fun s14 => ?_)
  refine Z_aload_n 0 dX2_init_42 rfl rfl rfl ?_
  refine Z_iconst (a := (-1)) dX2_init_43 rfl (by decide) ?_
  refine Z_puti 6 qC_2 (by decide) (by decide) rfl rfl t0 tw_245 dX2_init_44 rfl ?_
  refine Z_lh (fun s15 => ?_)
  exact Z_vret dX2_init_47
def CX9_init (i0 : Nat) (s : zH) : Option (Int × zH) := if s.1 < 225 ∧ zK s.1 = (21, 900) then zlt (znew s) fun s2 => zlt (zur s2 i0 0 s.1) fun s3 => if zK s3.1 = (4, 10) then zlt (znew s3) fun s5 => zbd (CX4_init s3.1 s5) fun _ s6 => zlt (zur s6 i0 2 s3.1) fun s7 => if zK s7.1 = (2, 7) then zlt (znew s7) fun s9 => zbd (CX2_init s7.1 s9) fun _ s10 => zlt (zur s10 i0 3 s7.1) fun s11 => zro (s11.2.2 i0 3) fun j12 => if zK j12 = (2, 7) then zro (s11.2.2 j12 0) fun j14 => if zK j14 = (1, 20) then zlt (zur s11 i0 4 j14) fun s16 => if zK s16.1 = (7, 3) then zlt (znew s16) fun s18 => zbd (CX7_init s16.1 s18) fun _ s19 => zlt (zur s19 i0 5 s16.1) fun s20 => if zK s20.1 = (7, 3) then zlt (znew s20) fun s22 => zbd (CX7_init s20.1 s22) fun _ s23 => zlt (zur s23 i0 6 s20.1) fun s24 => if zK s24.1 = (3, 3) then zlt (znew s24) fun s26 => zbd (CX3_init s24.1 s26) fun _ s27 => zlt (zur s27 i0 7 s24.1) fun s28 => if zK s28.1 = (0, 8) then zlt (znew s28) fun s30 => zbd (CX0_init s28.1 s30) fun _ s31 => zlt (zur s31 i0 8 s28.1) fun s32 => if zK s32.1 = (5, 6) then zlt (znew s32) fun s34 => zbd (CX5_init s32.1 s34) fun _ s35 => zlt (zur s35 i0 9 s32.1) fun s36 => if zK s36.1 = (8, 4) then zlt (znew s36) fun s38 => zbd (CX8_init s36.1 s38) fun _ s39 => zlt (zur s39 i0 10 s36.1) fun s40 => if s40.1 < 225 ∧ zK s40.1 = (24, 8) then zlt (znew s40) fun s42 => zlt (zur s42 i0 11 s40.1) fun s43 => if s43.1 < 225 ∧ zK s43.1 = (27, 4) then zlt (znew s43) fun s45 => zlt (zur s45 i0 12 s43.1) fun s46 => if s46.1 < 225 ∧ zK s46.1 = (28, 2) then zlt (znew s46) fun s48 => zlt (zur s48 i0 13 s46.1) fun s49 => if s49.1 < 225 ∧ zK s49.1 = (26, 2) then zlt (znew s49) fun s51 => zlt (zur s51 i0 14 s49.1) fun s52 => if s52.1 < 225 ∧ zK s52.1 = (23, 2) then zlt (znew s52) fun s54 => zlt (zur s54 i0 15 s52.1) fun s55 => zro (s55.2.2 i0 12) fun j56 => if zK j56 = (27, 4) then if zK s55.1 = (6, 3) then zlt (znew s55) fun s59 => zbd (CX6_init s55.1 s59) fun _ s60 => zlt (zur s60 j56 0 s55.1) fun s61 => zro (s61.2.2 i0 12) fun j62 => if zK j62 = (27, 4) then if zK s61.1 = (6, 3) then zlt (znew s61) fun s65 => zbd (CX6_init s61.1 s65) fun _ s66 => zlt (zur s66 j62 1 s61.1) fun s67 => zro (s67.2.2 i0 12) fun j68 => if zK j68 = (27, 4) then if zK s67.1 = (6, 3) then zlt (znew s67) fun s71 => zbd (CX6_init s67.1 s71) fun _ s72 => zlt (zur s72 j68 2 s67.1) fun s73 => zro (s73.2.2 i0 12) fun j74 => if zK j74 = (27, 4) then if zK s73.1 = (6, 3) then zlt (znew s73) fun s77 => zbd (CX6_init s73.1 s77) fun _ s78 => zlt (zur s78 j74 3 s73.1) fun s79 => zro (s79.2.2 i0 13) fun j80 => if zK j80 = (28, 2) then if zK s79.1 = (1, 20) then zlt (znew s79) fun s83 => zbd (CX1_init s79.1 s83) fun _ s84 => zlt (zur s84 j80 0 s79.1) fun s85 => zro (s85.2.2 i0 14) fun j86 => if zK j86 = (26, 2) then if zK s85.1 = (7, 3) then zlt (znew s85) fun s89 => zbd (CX7_init s85.1 s89) fun _ s90 => zlt (zur s90 j86 0 s85.1) fun s91 => zro (s91.2.2 i0 13) fun j92 => if zK j92 = (28, 2) then if zK s91.1 = (1, 20) then zlt (znew s91) fun s95 => zbd (CX1_init s91.1 s95) fun _ s96 => zlt (zur s96 j92 1 s91.1) fun s97 => zro (s97.2.2 i0 14) fun j98 => if zK j98 = (26, 2) then if zK s97.1 = (7, 3) then zlt (znew s97) fun s101 => zbd (CX7_init s97.1 s101) fun _ s102 => zlt (zur s102 j98 1 s97.1) fun s103 => some (0, s103) else none else none else none else none else none else none else none else none else none else none else none else none else none else none else none else none else none else none else none else none else none else none else none else none else none else none else none else none else none else none else none else none
set_option maxRecDepth 100000 in
set_option maxHeartbeats 2000000 in
theorem UX9_init {L : Nat} {xs : Nat → Int32} (i0 : Nat) (t0 : zK i0 = (9, 16)) (s : zH) : zMet L xs yX9_init cX9_init 2 none 0 4 [qr i0] s (CX9_init i0 s) := by
  refine zMet.of (y0 := "BottlePost") (by decide +kernel) (Or.inl ⟨rfl, rfl⟩) (Nat.le_of_ble_eq_true rfl) (fun _ => rfl) ?_
  show zS "BottlePost" L xs cX9_init "BottlePost" 2 4 0 0 [(0, qr i0)] [] s (CX9_init i0 s)
  unfold CX9_init
  refine Z_aload_n 0 dX9_init_0 rfl rfl rfl ?_
  refine Z_obj tw_26 tw_27 tw_28 (by decide) (Nat.le_of_ble_eq_true rfl) dX9_init_1 rfl ?_
  refine Z_aload_n 0 dX9_init_4 rfl rfl rfl ?_
  refine Z_sipush (a := 900) dX9_init_5 rfl (by decide) (by decide) ?_
  refine Z_ite (fun g1 => ?_) (fun _ => Z_none)
  refine Z_newa (fty := .byte) dX9_init_8 rfl g1.1 g1.2 (by decide) (by decide) rfl rfl (fun _ => rfl) (fun _ _ g => g) rfl (by decide) (by decide) tw_142 ?_
  refine Z_lh (fun s2 => ?_)
  refine Z_putr 0 qC_9 (by decide) (by decide) (fun _ => ⟨rfl, rfl⟩) t0 rfl rfl (by rw [g1.2]; decide) tw_381 dX9_init_10 rfl ?_
  refine Z_lh (fun s3 => ?_)
  refine Z_aload_n 0 dX9_init_13 rfl rfl rfl ?_
  refine Z_ite (fun g4 => ?_) (fun _ => Z_none)
  refine Z_new qC_4 zdf_4 tw_29 tw_30 tw_2 dX9_init_14 rfl g4 ?_
  refine Z_lh (fun s5 => ?_)
  refine Z_dup dX9_init_17 rfl rfl ?_
  refine Z_callI (UX4_init s3.1 g4 s5) (Or.inr ⟨_, tw_31⟩) zyi_4 (by decide) (Nat.le_of_ble_eq_true rfl) dX9_init_18 rfl (fun _ s6 _ => ?_)
  refine Z_putr 2 qC_9 (by decide) (by decide) (fun _ => ⟨rfl, rfl⟩) t0 rfl rfl (by rw [g4]; decide) tw_383 dX9_init_21 rfl ?_
  refine Z_lh (fun s7 => ?_)
  refine Z_aload_n 0 dX9_init_24 rfl rfl rfl ?_
  refine Z_ite (fun g8 => ?_) (fun _ => Z_none)
  refine Z_new qC_2 zdf_2 tw_178 tw_179 tw_4 dX9_init_25 rfl g8 ?_
  refine Z_lh (fun s9 => ?_)
  refine Z_dup dX9_init_28 rfl rfl ?_
  refine Z_callI (UX2_init s7.1 g8 s9) (Or.inr ⟨_, tw_180⟩) zyi_2 (by decide) (Nat.le_of_ble_eq_true rfl) dX9_init_29 rfl (fun _ s10 _ => ?_)
  refine Z_putr 3 qC_9 (by decide) (by decide) (fun _ => ⟨rfl, rfl⟩) t0 rfl rfl (by rw [g8]; decide) tw_384 dX9_init_32 rfl ?_
  refine Z_lh (fun s11 => ?_)
  refine Z_aload_n 0 dX9_init_35 rfl rfl rfl ?_
  refine Z_aload_n 0 dX9_init_36 rfl rfl rfl ?_
  refine Z_getro 3 qC_9 (by decide) (by decide) t0 tw_384 dX9_init_37 rfl (fun j12 => ?_)
  refine Z_ite (fun g13 => ?_) (fun _ => Z_none)
  refine Z_getro 0 qC_2 (by decide) (by decide) g13 tw_237 dX9_init_40 rfl (fun j14 => ?_)
  refine Z_ite (fun g15 => ?_) (fun _ => Z_none)
  refine Z_putr 4 qC_9 (by decide) (by decide) (fun _ => ⟨rfl, rfl⟩) t0 rfl rfl (by rw [g15]; decide) tw_385 dX9_init_43 rfl ?_
  refine Z_lh (fun s16 => ?_)
  refine Z_aload_n 0 dX9_init_46 rfl rfl rfl ?_
  refine Z_ite (fun g17 => ?_) (fun _ => Z_none)
  refine Z_new qC_7 zdf_7 tw_262 tw_263 tw_6 dX9_init_47 rfl g17 ?_
  refine Z_lh (fun s18 => ?_)
  refine Z_dup dX9_init_50 rfl rfl ?_
  refine Z_callI (UX7_init s16.1 g17 s18) (Or.inl tw_264) zyi_7 (by decide) (Nat.le_of_ble_eq_true rfl) dX9_init_51 rfl (fun _ s19 _ => ?_)
  refine Z_putr 5 qC_9 (by decide) (by decide) (fun _ => ⟨rfl, rfl⟩) t0 rfl rfl (by rw [g17]; decide) tw_386 dX9_init_54 rfl ?_
  refine Z_lh (fun s20 => ?_)
  refine Z_aload_n 0 dX9_init_57 rfl rfl rfl ?_
  refine Z_ite (fun g21 => ?_) (fun _ => Z_none)
  refine Z_new qC_7 zdf_7 tw_262 tw_263 tw_6 dX9_init_58 rfl g21 ?_
  refine Z_lh (fun s22 => ?_)
  refine Z_dup dX9_init_61 rfl rfl ?_
  refine Z_callI (UX7_init s20.1 g21 s22) (Or.inl tw_264) zyi_7 (by decide) (Nat.le_of_ble_eq_true rfl) dX9_init_62 rfl (fun _ s23 _ => ?_)
  refine Z_putr 6 qC_9 (by decide) (by decide) (fun _ => ⟨rfl, rfl⟩) t0 rfl rfl (by rw [g21]; decide) tw_387 dX9_init_65 rfl ?_
  refine Z_lh (fun s24 => ?_)
  refine Z_aload_n 0 dX9_init_68 rfl rfl rfl ?_
  refine Z_ite (fun g25 => ?_) (fun _ => Z_none)
  refine Z_new qC_3 zdf_3 tw_284 tw_285 tw_7 dX9_init_69 rfl g25 ?_
  refine Z_lh (fun s26 => ?_)
  refine Z_dup dX9_init_72 rfl rfl ?_
  refine Z_callI (UX3_init s24.1 g25 s26) (Or.inl tw_286) zyi_3 (by decide) (Nat.le_of_ble_eq_true rfl) dX9_init_73 rfl (fun _ s27 _ => ?_)
  refine Z_putr 7 qC_9 (by decide) (by decide) (fun _ => ⟨rfl, rfl⟩) t0 rfl rfl (by rw [g25]; decide) tw_388 dX9_init_76 rfl ?_
  refine Z_lh (fun s28 => ?_)
  refine Z_aload_n 0 dX9_init_79 rfl rfl rfl ?_
  refine Z_ite (fun g29 => ?_) (fun _ => Z_none)
  refine Z_new qC_0 zdf_0 tw_304 tw_187 tw_5 dX9_init_80 rfl g29 ?_
  refine Z_lh (fun s30 => ?_)
  refine Z_dup dX9_init_83 rfl rfl ?_
  refine Z_callI (UX0_init s28.1 g29 s30) (Or.inr ⟨_, tw_305⟩) zyi_0 (by decide) (Nat.le_of_ble_eq_true rfl) dX9_init_84 rfl (fun _ s31 _ => ?_)
  refine Z_putr 8 qC_9 (by decide) (by decide) (fun _ => ⟨rfl, rfl⟩) t0 rfl rfl (by rw [g29]; decide) tw_389 dX9_init_87 rfl ?_
  refine Z_lh (fun s32 => ?_)
  refine Z_aload_n 0 dX9_init_90 rfl rfl rfl ?_
  refine Z_ite (fun g33 => ?_) (fun _ => Z_none)
  refine Z_new qC_5 zdf_5 tw_306 tw_307 tw_8 dX9_init_91 rfl g33 ?_
  refine Z_lh (fun s34 => ?_)
  refine Z_dup dX9_init_94 rfl rfl ?_
  refine Z_callI (UX5_init s32.1 g33 s34) (Or.inr ⟨_, tw_308⟩) zyi_5 (by decide) (Nat.le_of_ble_eq_true rfl) dX9_init_95 rfl (fun _ s35 _ => ?_)
  refine Z_putr 9 qC_9 (by decide) (by decide) (fun _ => ⟨rfl, rfl⟩) t0 rfl rfl (by rw [g33]; decide) tw_390 dX9_init_98 rfl ?_
  refine Z_lh (fun s36 => ?_)
  refine Z_aload_n 0 dX9_init_101 rfl rfl rfl ?_
  refine Z_ite (fun g37 => ?_) (fun _ => Z_none)
  refine Z_new qC_8 zdf_8 tw_333 tw_334 tw_9 dX9_init_102 rfl g37 ?_
  refine Z_lh (fun s38 => ?_)
  refine Z_dup dX9_init_105 rfl rfl ?_
  refine Z_callI (UX8_init s36.1 g37 s38) (Or.inr ⟨_, tw_335⟩) zyi_8 (by decide) (Nat.le_of_ble_eq_true rfl) dX9_init_106 rfl (fun _ s39 _ => ?_)
  refine Z_putr 10 qC_9 (by decide) (by decide) (fun _ => ⟨rfl, rfl⟩) t0 rfl rfl (by rw [g37]; decide) tw_391 dX9_init_109 rfl ?_
  refine Z_lh (fun s40 => ?_)
  refine Z_aload_n 0 dX9_init_112 rfl rfl rfl ?_
  refine Z_bipush (a := 8) dX9_init_113 rfl (by decide) (by decide) ?_
  refine Z_ite (fun g41 => ?_) (fun _ => Z_none)
  refine Z_newl (fty := .long) dX9_init_115 rfl g41.1 g41.2 rfl rfl rfl (fun _ => rfl) (fun _ _ g => g) rfl (by decide) (by decide) tw_378 ?_
  refine Z_lh (fun s42 => ?_)
  refine Z_putr 11 qC_9 (by decide) (by decide) (fun _ => ⟨rfl, rfl⟩) t0 rfl rfl (by rw [g41.2]; decide) tw_392 dX9_init_117 rfl ?_
  refine Z_lh (fun s43 => ?_)
  refine Z_aload_n 0 dX9_init_120 rfl rfl rfl ?_
  refine Z_iconst (a := 4) dX9_init_121 rfl (by decide) ?_
  refine Z_ite (fun g44 => ?_) (fun _ => Z_none)
  refine Z_newq (C := "BottlePost$Tray") dX9_init_122 rfl g44.1 g44.2 (by decide) (fun _ => rfl) (fun _ g => g.2.2.1) rfl (by decide) (by decide) tw_357 ?_
  refine Z_lh (fun s45 => ?_)
  refine Z_putr 12 qC_9 (by decide) (by decide) (fun _ => ⟨rfl, rfl⟩) t0 rfl rfl (by rw [g44.2]; decide) tw_393 dX9_init_125 rfl ?_
  refine Z_lh (fun s46 => ?_)
  refine Z_aload_n 0 dX9_init_128 rfl rfl rfl ?_
  refine Z_iconst (a := 2) dX9_init_129 rfl (by decide) ?_
  refine Z_ite (fun g47 => ?_) (fun _ => Z_none)
  refine Z_newq (C := "BottlePost$Chart") dX9_init_130 rfl g47.1 g47.2 (by decide) (fun _ => rfl) (fun _ g => g.2.2.2) rfl (by decide) (by decide) tw_359 ?_
  refine Z_lh (fun s48 => ?_)
  refine Z_putr 13 qC_9 (by decide) (by decide) (fun _ => ⟨rfl, rfl⟩) t0 rfl rfl (by rw [g47.2]; decide) tw_394 dX9_init_133 rfl ?_
  refine Z_lh (fun s49 => ?_)
  refine Z_aload_n 0 dX9_init_136 rfl rfl rfl ?_
  refine Z_iconst (a := 2) dX9_init_137 rfl (by decide) ?_
  refine Z_ite (fun g50 => ?_) (fun _ => Z_none)
  refine Z_newq (C := "BottlePost$Waters") dX9_init_138 rfl g50.1 g50.2 (by decide) (fun _ => rfl) (fun _ g => g.2.1) rfl (by decide) (by decide) tw_262 ?_
  refine Z_lh (fun s51 => ?_)
  refine Z_putr 14 qC_9 (by decide) (by decide) (fun _ => ⟨rfl, rfl⟩) t0 rfl rfl (by rw [g50.2]; decide) tw_395 dX9_init_141 rfl ?_
  refine Z_lh (fun s52 => ?_)
  refine Z_aload_n 0 dX9_init_144 rfl rfl rfl ?_
  refine Z_iconst (a := 2) dX9_init_145 rfl (by decide) ?_
  refine Z_ite (fun g53 => ?_) (fun _ => Z_none)
  refine Z_newa (fty := .boolean) dX9_init_146 rfl g53.1 g53.2 (by decide) (by decide) rfl rfl (fun _ => rfl) (fun _ _ g => g) rfl (by decide) (by decide) tw_379 ?_
  refine Z_lh (fun s54 => ?_)
  refine Z_putr 15 qC_9 (by decide) (by decide) (fun _ => ⟨rfl, rfl⟩) t0 rfl rfl (by rw [g53.2]; decide) tw_396 dX9_init_148 rfl ?_
  refine Z_lh (fun s55 => ?_)
  refine Z_iconst (a := 0) dX9_init_151 rfl (by decide) ?_
  refine Z_istore_n (lv' := [(1, qi 0), (0, qr i0)]) dX9_init_152 rfl (by decide) rfl rfl ?_
  refine Z_iload_n 0 dX9_init_153 rfl rfl rfl ?_
  refine Z_iconst (a := 4) dX9_init_154 rfl (by decide) ?_
  refine Z_pick_f ((4 : Int) ≤ 0) (by decide) ?_
  refine Z_icmp_ge (x := none) (tgt := 177) dX9_init_155 (by decide) rfl (fun gn => absurd gn (by decide)) (fun _ => ?_)
  refine Z_aload_n 1 dX9_init_158 rfl rfl rfl ?_
  refine Z_getro 12 qC_9 (by decide) (by decide) t0 tw_393 dX9_init_159 rfl (fun j56 => ?_)
  refine Z_ite (fun g57 => ?_) (fun _ => Z_none)
  refine Z_iload_n 0 dX9_init_162 rfl rfl rfl ?_
  refine Z_ite (fun g58 => ?_) (fun _ => Z_none)
  refine Z_new qC_6 zdf_6 tw_357 tw_361 tw_10 dX9_init_163 rfl g58 ?_
  refine Z_lh (fun s59 => ?_)
  refine Z_dup dX9_init_166 rfl rfl ?_
  refine Z_callI (UX6_init s55.1 g58 s59) (Or.inr ⟨_, tw_362⟩) zyi_6 (by decide) (Nat.le_of_ble_eq_true rfl) dX9_init_167 rfl (fun _ s60 _ => ?_)
  refine Z_aast (NN := 4) g57 (by decide) (by decide) (fun _ => rfl) qC_6 g58 rfl (by decide) (by decide) dX9_init_170 rfl ?_
  show zS _ _ _ _ _ _ _ _ _ _ _ (zur s60 j56 0 s55.1) _
  refine Z_lh (fun s61 => ?_)
  refine Z_iincl (b := 1) (lv' := [(1, qi 1), (0, qr i0)]) 0 (by decide +kernel) dX9_init_171 rfl (by decide) rfl rfl ?_
  refine Z_goto (pc' := 153) dX9_init_174 (by decide) ?_
  refine Z_iload_n 0 dX9_init_153 rfl rfl rfl ?_
  refine Z_iconst (a := 4) dX9_init_154 rfl (by decide) ?_
  refine Z_pick_f ((4 : Int) ≤ 1) (by decide) ?_
  refine Z_icmp_ge (x := none) (tgt := 177) dX9_init_155 (by decide) rfl (fun gn => absurd gn (by decide)) (fun _ => ?_)
  refine Z_aload_n 1 dX9_init_158 rfl rfl rfl ?_
  refine Z_getro 12 qC_9 (by decide) (by decide) t0 tw_393 dX9_init_159 rfl (fun j62 => ?_)
  refine Z_ite (fun g63 => ?_) (fun _ => Z_none)
  refine Z_iload_n 0 dX9_init_162 rfl rfl rfl ?_
  refine Z_ite (fun g64 => ?_) (fun _ => Z_none)
  refine Z_new qC_6 zdf_6 tw_357 tw_361 tw_10 dX9_init_163 rfl g64 ?_
  refine Z_lh (fun s65 => ?_)
  refine Z_dup dX9_init_166 rfl rfl ?_
  refine Z_callI (UX6_init s61.1 g64 s65) (Or.inr ⟨_, tw_362⟩) zyi_6 (by decide) (Nat.le_of_ble_eq_true rfl) dX9_init_167 rfl (fun _ s66 _ => ?_)
  refine Z_aast (NN := 4) g63 (by decide) (by decide) (fun _ => rfl) qC_6 g64 rfl (by decide) (by decide) dX9_init_170 rfl ?_
  show zS _ _ _ _ _ _ _ _ _ _ _ (zur s66 j62 1 s61.1) _
  refine Z_lh (fun s67 => ?_)
  refine Z_iincl (b := 2) (lv' := [(1, qi 2), (0, qr i0)]) 0 (by decide +kernel) dX9_init_171 rfl (by decide) rfl rfl ?_
  refine Z_goto (pc' := 153) dX9_init_174 (by decide) ?_
  refine Z_iload_n 0 dX9_init_153 rfl rfl rfl ?_
  refine Z_iconst (a := 4) dX9_init_154 rfl (by decide) ?_
  refine Z_pick_f ((4 : Int) ≤ 2) (by decide) ?_
  refine Z_icmp_ge (x := none) (tgt := 177) dX9_init_155 (by decide) rfl (fun gn => absurd gn (by decide)) (fun _ => ?_)
  refine Z_aload_n 1 dX9_init_158 rfl rfl rfl ?_
  refine Z_getro 12 qC_9 (by decide) (by decide) t0 tw_393 dX9_init_159 rfl (fun j68 => ?_)
  refine Z_ite (fun g69 => ?_) (fun _ => Z_none)
  refine Z_iload_n 0 dX9_init_162 rfl rfl rfl ?_
  refine Z_ite (fun g70 => ?_) (fun _ => Z_none)
  refine Z_new qC_6 zdf_6 tw_357 tw_361 tw_10 dX9_init_163 rfl g70 ?_
  refine Z_lh (fun s71 => ?_)
  refine Z_dup dX9_init_166 rfl rfl ?_
  refine Z_callI (UX6_init s67.1 g70 s71) (Or.inr ⟨_, tw_362⟩) zyi_6 (by decide) (Nat.le_of_ble_eq_true rfl) dX9_init_167 rfl (fun _ s72 _ => ?_)
  refine Z_aast (NN := 4) g69 (by decide) (by decide) (fun _ => rfl) qC_6 g70 rfl (by decide) (by decide) dX9_init_170 rfl ?_
  show zS _ _ _ _ _ _ _ _ _ _ _ (zur s72 j68 2 s67.1) _
  refine Z_lh (fun s73 => ?_)
  refine Z_iincl (b := 3) (lv' := [(1, qi 3), (0, qr i0)]) 0 (by decide +kernel) dX9_init_171 rfl (by decide) rfl rfl ?_
  refine Z_goto (pc' := 153) dX9_init_174 (by decide) ?_
  refine Z_iload_n 0 dX9_init_153 rfl rfl rfl ?_
  refine Z_iconst (a := 4) dX9_init_154 rfl (by decide) ?_
  refine Z_pick_f ((4 : Int) ≤ 3) (by decide) ?_
  refine Z_icmp_ge (x := none) (tgt := 177) dX9_init_155 (by decide) rfl (fun gn => absurd gn (by decide)) (fun _ => ?_)
  refine Z_aload_n 1 dX9_init_158 rfl rfl rfl ?_
  refine Z_getro 12 qC_9 (by decide) (by decide) t0 tw_393 dX9_init_159 rfl (fun j74 => ?_)
  refine Z_ite (fun g75 => ?_) (fun _ => Z_none)
  refine Z_iload_n 0 dX9_init_162 rfl rfl rfl ?_
  refine Z_ite (fun g76 => ?_) (fun _ => Z_none)
  refine Z_new qC_6 zdf_6 tw_357 tw_361 tw_10 dX9_init_163 rfl g76 ?_
  refine Z_lh (fun s77 => ?_)
  refine Z_dup dX9_init_166 rfl rfl ?_
  refine Z_callI (UX6_init s73.1 g76 s77) (Or.inr ⟨_, tw_362⟩) zyi_6 (by decide) (Nat.le_of_ble_eq_true rfl) dX9_init_167 rfl (fun _ s78 _ => ?_)
  refine Z_aast (NN := 4) g75 (by decide) (by decide) (fun _ => rfl) qC_6 g76 rfl (by decide) (by decide) dX9_init_170 rfl ?_
  show zS _ _ _ _ _ _ _ _ _ _ _ (zur s78 j74 3 s73.1) _
  refine Z_lh (fun s79 => ?_)
  refine Z_iincl (b := 4) (lv' := [(1, qi 4), (0, qr i0)]) 0 (by decide +kernel) dX9_init_171 rfl (by decide) rfl rfl ?_
  refine Z_goto (pc' := 153) dX9_init_174 (by decide) ?_
  refine Z_iload_n 0 dX9_init_153 rfl rfl rfl ?_
  refine Z_iconst (a := 4) dX9_init_154 rfl (by decide) ?_
  refine Z_pick_t ((4 : Int) ≤ 4) (by decide) ?_
  refine Z_icmp_ge (y := none) (tgt := 177) dX9_init_155 (by decide) rfl (fun _ => ?_) (fun gn => absurd (by decide) gn)
  refine Z_iconst (a := 0) dX9_init_177 rfl (by decide) ?_
  refine Z_istore_n (lv' := [(1, qi 0), (0, qr i0)]) dX9_init_178 rfl (by decide) rfl rfl ?_
  refine Z_iload_n 0 dX9_init_179 rfl rfl rfl ?_
  refine Z_iconst (a := 2) dX9_init_180 rfl (by decide) ?_
  refine Z_pick_f ((2 : Int) ≤ 0) (by decide) ?_
  refine Z_icmp_ge (x := none) (tgt := 216) dX9_init_181 (by decide) rfl (fun gn => absurd gn (by decide)) (fun _ => ?_)
  refine Z_aload_n 1 dX9_init_184 rfl rfl rfl ?_
  refine Z_getro 13 qC_9 (by decide) (by decide) t0 tw_394 dX9_init_185 rfl (fun j80 => ?_)
  refine Z_ite (fun g81 => ?_) (fun _ => Z_none)
  refine Z_iload_n 0 dX9_init_188 rfl rfl rfl ?_
  refine Z_ite (fun g82 => ?_) (fun _ => Z_none)
  refine Z_new qC_1 zdf_1 tw_359 tw_36 tw_3 dX9_init_189 rfl g82 ?_
  refine Z_lh (fun s83 => ?_)
  refine Z_dup dX9_init_192 rfl rfl ?_
  refine Z_callI (UX1_init s79.1 g82 s83) (Or.inr ⟨_, tw_380⟩) zyi_1 (by decide) (Nat.le_of_ble_eq_true rfl) dX9_init_193 rfl (fun _ s84 _ => ?_)
  refine Z_aast (NN := 2) g81 (by decide) (by decide) (fun _ => rfl) qC_1 g82 rfl (by decide) (by decide) dX9_init_196 rfl ?_
  show zS _ _ _ _ _ _ _ _ _ _ _ (zur s84 j80 0 s79.1) _
  refine Z_lh (fun s85 => ?_)
  refine Z_aload_n 1 dX9_init_197 rfl rfl rfl ?_
  refine Z_getro 14 qC_9 (by decide) (by decide) t0 tw_395 dX9_init_198 rfl (fun j86 => ?_)
  refine Z_ite (fun g87 => ?_) (fun _ => Z_none)
  refine Z_iload_n 0 dX9_init_201 rfl rfl rfl ?_
  refine Z_ite (fun g88 => ?_) (fun _ => Z_none)
  refine Z_new qC_7 zdf_7 tw_262 tw_263 tw_6 dX9_init_202 rfl g88 ?_
  refine Z_lh (fun s89 => ?_)
  refine Z_dup dX9_init_205 rfl rfl ?_
  refine Z_callI (UX7_init s85.1 g88 s89) (Or.inl tw_264) zyi_7 (by decide) (Nat.le_of_ble_eq_true rfl) dX9_init_206 rfl (fun _ s90 _ => ?_)
  refine Z_aast (NN := 2) g87 (by decide) (by decide) (fun _ => rfl) qC_7 g88 rfl (by decide) (by decide) dX9_init_209 rfl ?_
  show zS _ _ _ _ _ _ _ _ _ _ _ (zur s90 j86 0 s85.1) _
  refine Z_lh (fun s91 => ?_)
  refine Z_iincl (b := 1) (lv' := [(1, qi 1), (0, qr i0)]) 0 (by decide +kernel) dX9_init_210 rfl (by decide) rfl rfl ?_
  refine Z_goto (pc' := 179) dX9_init_213 (by decide) ?_
  refine Z_iload_n 0 dX9_init_179 rfl rfl rfl ?_
  refine Z_iconst (a := 2) dX9_init_180 rfl (by decide) ?_
  refine Z_pick_f ((2 : Int) ≤ 1) (by decide) ?_
  refine Z_icmp_ge (x := none) (tgt := 216) dX9_init_181 (by decide) rfl (fun gn => absurd gn (by decide)) (fun _ => ?_)
  refine Z_aload_n 1 dX9_init_184 rfl rfl rfl ?_
  refine Z_getro 13 qC_9 (by decide) (by decide) t0 tw_394 dX9_init_185 rfl (fun j92 => ?_)
  refine Z_ite (fun g93 => ?_) (fun _ => Z_none)
  refine Z_iload_n 0 dX9_init_188 rfl rfl rfl ?_
  refine Z_ite (fun g94 => ?_) (fun _ => Z_none)
  refine Z_new qC_1 zdf_1 tw_359 tw_36 tw_3 dX9_init_189 rfl g94 ?_
  refine Z_lh (fun s95 => ?_)
  refine Z_dup dX9_init_192 rfl rfl ?_
  refine Z_callI (UX1_init s91.1 g94 s95) (Or.inr ⟨_, tw_380⟩) zyi_1 (by decide) (Nat.le_of_ble_eq_true rfl) dX9_init_193 rfl (fun _ s96 _ => ?_)
  refine Z_aast (NN := 2) g93 (by decide) (by decide) (fun _ => rfl) qC_1 g94 rfl (by decide) (by decide) dX9_init_196 rfl ?_
  show zS _ _ _ _ _ _ _ _ _ _ _ (zur s96 j92 1 s91.1) _
  refine Z_lh (fun s97 => ?_)
  refine Z_aload_n 1 dX9_init_197 rfl rfl rfl ?_
  refine Z_getro 14 qC_9 (by decide) (by decide) t0 tw_395 dX9_init_198 rfl (fun j98 => ?_)
  refine Z_ite (fun g99 => ?_) (fun _ => Z_none)
  refine Z_iload_n 0 dX9_init_201 rfl rfl rfl ?_
  refine Z_ite (fun g100 => ?_) (fun _ => Z_none)
  refine Z_new qC_7 zdf_7 tw_262 tw_263 tw_6 dX9_init_202 rfl g100 ?_
  refine Z_lh (fun s101 => ?_)
  refine Z_dup dX9_init_205 rfl rfl ?_
  refine Z_callI (UX7_init s97.1 g100 s101) (Or.inl tw_264) zyi_7 (by decide) (Nat.le_of_ble_eq_true rfl) dX9_init_206 rfl (fun _ s102 _ => ?_)
  refine Z_aast (NN := 2) g99 (by decide) (by decide) (fun _ => rfl) qC_7 g100 rfl (by decide) (by decide) dX9_init_209 rfl ?_
  show zS _ _ _ _ _ _ _ _ _ _ _ (zur s102 j98 1 s97.1) _
  refine Z_lh (fun s103 => ?_)
  refine Z_iincl (b := 2) (lv' := [(1, qi 2), (0, qr i0)]) 0 (by decide +kernel) dX9_init_210 rfl (by decide) rfl rfl ?_
  refine Z_goto (pc' := 179) dX9_init_213 (by decide) ?_
  refine Z_iload_n 0 dX9_init_179 rfl rfl rfl ?_
  refine Z_iconst (a := 2) dX9_init_180 rfl (by decide) ?_
  refine Z_pick_t ((2 : Int) ≤ 2) (by decide) ?_
  refine Z_icmp_ge (y := none) (tgt := 216) dX9_init_181 (by decide) rfl (fun _ => ?_) (fun gn => absurd (by decide) gn)
  exact Z_vret dX9_init_216
def CX10_init (i0 : Nat) (s : zH) : Option (Int × zH) := if s.1 < 225 ∧ zK s.1 = (20, 5736) then zlt (znew s) fun s2 => zlt (zur s2 i0 1 s.1) fun s3 => if s3.1 < 225 ∧ zK s3.1 = (23, 2) then zlt (znew s3) fun s5 => zlt (zur s5 i0 2 s3.1) fun s6 => if s6.1 < 225 ∧ zK s6.1 = (20, 900) then zlt (znew s6) fun s8 => zlt (zur s8 i0 3 s6.1) fun s9 => if s9.1 < 225 ∧ zK s9.1 = (20, 1912) then zlt (znew s9) fun s11 => zlt (zur s11 i0 4 s9.1) fun s12 => zlt (zu s12 i0 14 (-1)) fun s13 => if s13.1 < 225 ∧ zK s13.1 = (20, 8) then zlt (znew s13) fun s15 => zlt (zur s15 i0 16 s13.1) fun s16 => if s16.1 < 225 ∧ zK s16.1 = (20, 900) then zlt (znew s16) fun s18 => zlt (zur s18 i0 17 s16.1) fun s19 => zlt (zu s19 i0 19 (-1)) fun s20 => if s20.1 < 225 ∧ zK s20.1 = (20, 66) then zlt (znew s20) fun s22 => zlt (zur s22 i0 20 s20.1) fun s23 => if s23.1 < 225 ∧ zK s23.1 = (20, 6) then zlt (znew s23) fun s25 => zlt (zur s25 i0 26 s23.1) fun s26 => if s26.1 < 225 ∧ zK s26.1 = (20, 6) then zlt (znew s26) fun s28 => zlt (zur s28 i0 27 s26.1) fun s29 => if s29.1 < 225 ∧ zK s29.1 = (20, 4) then zlt (znew s29) fun s31 => zlt (zu s31 s29.1 0 (-1)) fun s32 => zlt (zu s32 s29.1 1 (-1)) fun s33 => zlt (zu s33 s29.1 2 (-1)) fun s34 => zlt (zu s34 s29.1 3 (-1)) fun s35 => zlt (zur s35 i0 36 s29.1) fun s36 => if s36.1 < 225 ∧ zK s36.1 = (20, 4) then zlt (znew s36) fun s38 => zlt (zur s38 i0 37 s36.1) fun s39 => if s39.1 < 225 ∧ zK s39.1 = (24, 160) then zlt (znew s39) fun s41 => zlt (zur s41 i0 38 s39.1) fun s42 => zro (s42.2.2 i0 1) fun j43 => if zK j43 = (20, 5736) then zbd (CX10_plain j43 s42) fun _ s45 => some (0, s45) else none else none else none else none else none else none else none else none else none else none else none else none else none
set_option maxRecDepth 100000 in
set_option maxHeartbeats 2000000 in
theorem UX10_init {L : Nat} {xs : Nat → Int32} (i0 : Nat) (t0 : zK i0 = (10, 39)) (s : zH) : zMet L xs yX10_init cX10_init 1 none 0 2 [qr i0] s (CX10_init i0 s) := by
  refine zMet.of (y0 := "BottlePostModel") (by decide +kernel) (Or.inl ⟨rfl, rfl⟩) (Nat.le_of_ble_eq_true rfl) (fun _ => rfl) ?_
  show zS "BottlePostModel" L xs cX10_init "BottlePostModel" 1 2 0 0 [(0, qr i0)] [] s (CX10_init i0 s)
  unfold CX10_init
  refine Z_aload_n 0 dX10_init_0 rfl rfl rfl ?_
  refine Z_obj tw_1222 tw_27 tw_28 (by decide) (Nat.le_of_ble_eq_true rfl) dX10_init_1 rfl ?_
  refine Z_aload_n 0 dX10_init_4 rfl rfl rfl ?_
  refine Z_sipush (a := 5736) dX10_init_5 rfl (by decide) (by decide) ?_
  refine Z_ite (fun g1 => ?_) (fun _ => Z_none)
  refine Z_newa (fty := .int) dX10_init_8 rfl g1.1 g1.2 (by decide) (by decide) rfl rfl (fun _ => rfl) (fun _ _ g => g) rfl (by decide) (by decide) tw_143 ?_
  refine Z_lh (fun s2 => ?_)
  refine Z_putr 1 qC_10 (by decide) (by decide) (fun _ => ⟨rfl, rfl⟩) t0 rfl rfl (by rw [g1.2]; decide) tw_1227 dX10_init_10 rfl ?_
  refine Z_lh (fun s3 => ?_)
  refine Z_aload_n 0 dX10_init_13 rfl rfl rfl ?_
  refine Z_iconst (a := 2) dX10_init_14 rfl (by decide) ?_
  refine Z_ite (fun g4 => ?_) (fun _ => Z_none)
  refine Z_newa (fty := .boolean) dX10_init_15 rfl g4.1 g4.2 (by decide) (by decide) rfl rfl (fun _ => rfl) (fun _ _ g => g) rfl (by decide) (by decide) tw_379 ?_
  refine Z_lh (fun s5 => ?_)
  refine Z_putr 2 qC_10 (by decide) (by decide) (fun _ => ⟨rfl, rfl⟩) t0 rfl rfl (by rw [g4.2]; decide) tw_1228 dX10_init_17 rfl ?_
  refine Z_lh (fun s6 => ?_)
  refine Z_aload_n 0 dX10_init_20 rfl rfl rfl ?_
  refine Z_sipush (a := 900) dX10_init_21 rfl (by decide) (by decide) ?_
  refine Z_ite (fun g7 => ?_) (fun _ => Z_none)
  refine Z_newa (fty := .int) dX10_init_24 rfl g7.1 g7.2 (by decide) (by decide) rfl rfl (fun _ => rfl) (fun _ _ g => g) rfl (by decide) (by decide) tw_143 ?_
  refine Z_lh (fun s8 => ?_)
  refine Z_putr 3 qC_10 (by decide) (by decide) (fun _ => ⟨rfl, rfl⟩) t0 rfl rfl (by rw [g7.2]; decide) tw_1229 dX10_init_26 rfl ?_
  refine Z_lh (fun s9 => ?_)
  refine Z_aload_n 0 dX10_init_29 rfl rfl rfl ?_
  refine Z_sipush (a := 1912) dX10_init_30 rfl (by decide) (by decide) ?_
  refine Z_ite (fun g10 => ?_) (fun _ => Z_none)
  refine Z_newa (fty := .int) dX10_init_33 rfl g10.1 g10.2 (by decide) (by decide) rfl rfl (fun _ => rfl) (fun _ _ g => g) rfl (by decide) (by decide) tw_143 ?_
  refine Z_lh (fun s11 => ?_)
  refine Z_putr 4 qC_10 (by decide) (by decide) (fun _ => ⟨rfl, rfl⟩) t0 rfl rfl (by rw [g10.2]; decide) tw_1230 dX10_init_35 rfl ?_
  refine Z_lh (fun s12 => ?_)
  refine Z_aload_n 0 dX10_init_38 rfl rfl rfl ?_
  refine Z_iconst (a := (-1)) dX10_init_39 rfl (by decide) ?_
  refine Z_puti 14 qC_10 (by decide) (by decide) rfl rfl t0 tw_1240 dX10_init_40 rfl ?_
  refine Z_lh (fun s13 => ?_)
  refine Z_aload_n 0 dX10_init_43 rfl rfl rfl ?_
  refine Z_bipush (a := 8) dX10_init_44 rfl (by decide) (by decide) ?_
  refine Z_ite (fun g14 => ?_) (fun _ => Z_none)
  refine Z_newa (fty := .int) dX10_init_46 rfl g14.1 g14.2 (by decide) (by decide) rfl rfl (fun _ => rfl) (fun _ _ g => g) rfl (by decide) (by decide) tw_143 ?_
  refine Z_lh (fun s15 => ?_)
  refine Z_putr 16 qC_10 (by decide) (by decide) (fun _ => ⟨rfl, rfl⟩) t0 rfl rfl (by rw [g14.2]; decide) tw_1242 dX10_init_48 rfl ?_
  refine Z_lh (fun s16 => ?_)
  refine Z_aload_n 0 dX10_init_51 rfl rfl rfl ?_
  refine Z_sipush (a := 900) dX10_init_52 rfl (by decide) (by decide) ?_
  refine Z_ite (fun g17 => ?_) (fun _ => Z_none)
  refine Z_newa (fty := .int) dX10_init_55 rfl g17.1 g17.2 (by decide) (by decide) rfl rfl (fun _ => rfl) (fun _ _ g => g) rfl (by decide) (by decide) tw_143 ?_
  refine Z_lh (fun s18 => ?_)
  refine Z_putr 17 qC_10 (by decide) (by decide) (fun _ => ⟨rfl, rfl⟩) t0 rfl rfl (by rw [g17.2]; decide) tw_1243 dX10_init_57 rfl ?_
  refine Z_lh (fun s19 => ?_)
  refine Z_aload_n 0 dX10_init_60 rfl rfl rfl ?_
  refine Z_iconst (a := (-1)) dX10_init_61 rfl (by decide) ?_
  refine Z_puti 19 qC_10 (by decide) (by decide) rfl rfl t0 tw_1245 dX10_init_62 rfl ?_
  refine Z_lh (fun s20 => ?_)
  refine Z_aload_n 0 dX10_init_65 rfl rfl rfl ?_
  refine Z_bipush (a := 66) dX10_init_66 rfl (by decide) (by decide) ?_
  refine Z_ite (fun g21 => ?_) (fun _ => Z_none)
  refine Z_newa (fty := .int) dX10_init_68 rfl g21.1 g21.2 (by decide) (by decide) rfl rfl (fun _ => rfl) (fun _ _ g => g) rfl (by decide) (by decide) tw_143 ?_
  refine Z_lh (fun s22 => ?_)
  refine Z_putr 20 qC_10 (by decide) (by decide) (fun _ => ⟨rfl, rfl⟩) t0 rfl rfl (by rw [g21.2]; decide) tw_1246 dX10_init_70 rfl ?_
  refine Z_lh (fun s23 => ?_)
  refine Z_aload_n 0 dX10_init_73 rfl rfl rfl ?_
  refine Z_bipush (a := 6) dX10_init_74 rfl (by decide) (by decide) ?_
  refine Z_ite (fun g24 => ?_) (fun _ => Z_none)
  refine Z_newa (fty := .int) dX10_init_76 rfl g24.1 g24.2 (by decide) (by decide) rfl rfl (fun _ => rfl) (fun _ _ g => g) rfl (by decide) (by decide) tw_143 ?_
  refine Z_lh (fun s25 => ?_)
  refine Z_putr 26 qC_10 (by decide) (by decide) (fun _ => ⟨rfl, rfl⟩) t0 rfl rfl (by rw [g24.2]; decide) tw_1252 dX10_init_78 rfl ?_
  refine Z_lh (fun s26 => ?_)
  refine Z_aload_n 0 dX10_init_81 rfl rfl rfl ?_
  refine Z_bipush (a := 6) dX10_init_82 rfl (by decide) (by decide) ?_
  refine Z_ite (fun g27 => ?_) (fun _ => Z_none)
  refine Z_newa (fty := .int) dX10_init_84 rfl g27.1 g27.2 (by decide) (by decide) rfl rfl (fun _ => rfl) (fun _ _ g => g) rfl (by decide) (by decide) tw_143 ?_
  refine Z_lh (fun s28 => ?_)
  refine Z_putr 27 qC_10 (by decide) (by decide) (fun _ => ⟨rfl, rfl⟩) t0 rfl rfl (by rw [g27.2]; decide) tw_1253 dX10_init_86 rfl ?_
  refine Z_lh (fun s29 => ?_)
  refine Z_aload_n 0 dX10_init_89 rfl rfl rfl ?_
  refine Z_iconst (a := 4) dX10_init_90 rfl (by decide) ?_
  refine Z_ite (fun g30 => ?_) (fun _ => Z_none)
  refine Z_newa (fty := .int) dX10_init_91 rfl g30.1 g30.2 (by decide) (by decide) rfl rfl (fun _ => rfl) (fun _ _ g => g) rfl (by decide) (by decide) tw_143 ?_
  refine Z_lh (fun s31 => ?_)
  refine Z_dup dX10_init_93 rfl rfl ?_
  refine Z_iconst (a := 0) dX10_init_94 rfl (by decide) ?_
  refine Z_iconst (a := (-1)) dX10_init_95 rfl (by decide) ?_
  refine Z_iast (N := 4) g30.2 rfl dX10_init_96 rfl (by decide) (by decide) (Or.inl (by decide)) ?_
  show zS _ _ _ _ _ _ _ _ _ _ _ (zu s31 s29.1 0 (-1)) _
  refine Z_lh (fun s32 => ?_)
  refine Z_dup dX10_init_97 rfl rfl ?_
  refine Z_iconst (a := 1) dX10_init_98 rfl (by decide) ?_
  refine Z_iconst (a := (-1)) dX10_init_99 rfl (by decide) ?_
  refine Z_iast (N := 4) g30.2 rfl dX10_init_100 rfl (by decide) (by decide) (Or.inl (by decide)) ?_
  show zS _ _ _ _ _ _ _ _ _ _ _ (zu s32 s29.1 1 (-1)) _
  refine Z_lh (fun s33 => ?_)
  refine Z_dup dX10_init_101 rfl rfl ?_
  refine Z_iconst (a := 2) dX10_init_102 rfl (by decide) ?_
  refine Z_iconst (a := (-1)) dX10_init_103 rfl (by decide) ?_
  refine Z_iast (N := 4) g30.2 rfl dX10_init_104 rfl (by decide) (by decide) (Or.inl (by decide)) ?_
  show zS _ _ _ _ _ _ _ _ _ _ _ (zu s33 s29.1 2 (-1)) _
  refine Z_lh (fun s34 => ?_)
  refine Z_dup dX10_init_105 rfl rfl ?_
  refine Z_iconst (a := 3) dX10_init_106 rfl (by decide) ?_
  refine Z_iconst (a := (-1)) dX10_init_107 rfl (by decide) ?_
  refine Z_iast (N := 4) g30.2 rfl dX10_init_108 rfl (by decide) (by decide) (Or.inl (by decide)) ?_
  show zS _ _ _ _ _ _ _ _ _ _ _ (zu s34 s29.1 3 (-1)) _
  refine Z_lh (fun s35 => ?_)
  refine Z_putr 36 qC_10 (by decide) (by decide) (fun _ => ⟨rfl, rfl⟩) t0 rfl rfl (by rw [g30.2]; decide) tw_1262 dX10_init_109 rfl ?_
  refine Z_lh (fun s36 => ?_)
  refine Z_aload_n 0 dX10_init_112 rfl rfl rfl ?_
  refine Z_iconst (a := 4) dX10_init_113 rfl (by decide) ?_
  refine Z_ite (fun g37 => ?_) (fun _ => Z_none)
  refine Z_newa (fty := .int) dX10_init_114 rfl g37.1 g37.2 (by decide) (by decide) rfl rfl (fun _ => rfl) (fun _ _ g => g) rfl (by decide) (by decide) tw_143 ?_
  refine Z_lh (fun s38 => ?_)
  refine Z_putr 37 qC_10 (by decide) (by decide) (fun _ => ⟨rfl, rfl⟩) t0 rfl rfl (by rw [g37.2]; decide) tw_1263 dX10_init_116 rfl ?_
  refine Z_lh (fun s39 => ?_)
  refine Z_aload_n 0 dX10_init_119 rfl rfl rfl ?_
  refine Z_sipush (a := 160) dX10_init_120 rfl (by decide) (by decide) ?_
  refine Z_ite (fun g40 => ?_) (fun _ => Z_none)
  refine Z_newl (fty := .long) dX10_init_123 rfl g40.1 g40.2 rfl rfl rfl (fun _ => rfl) (fun _ _ g => g) rfl (by decide) (by decide) tw_378 ?_
  refine Z_lh (fun s41 => ?_)
  refine Z_putr 38 qC_10 (by decide) (by decide) (fun _ => ⟨rfl, rfl⟩) t0 rfl rfl (by rw [g40.2]; decide) tw_1264 dX10_init_125 rfl ?_
  refine Z_lh (fun s42 => ?_)
  refine Z_aload_n 0 dX10_init_128 rfl rfl rfl ?_
  refine Z_getro 1 qC_10 (by decide) (by decide) t0 tw_1227 dX10_init_129 rfl (fun j43 => ?_)
  refine Z_ite (fun g44 => ?_) (fun _ => Z_none)
  refine Z_callS (as := [qr j43]) (st := []) (n := 1) (rk' := 0) (UX10_plain j43 g44 s42) zy_plain tw_1223 (by decide) rfl rfl (Nat.le_of_ble_eq_true rfl) dX10_init_132 rfl (fun _ s45 _ => ?_)
  exact Z_vret dX10_init_135
