/-! ===== numbers: what the machine's operations are on whole numbers ===== -/
theorem qw_e {x : Int} (h1 : -2147483648 ≤ x) (h2 : x < 2147483648) : qw x = x := q32_i ⟨h1, h2⟩
theorem qwl_e {x : Int} (h1 : -9223372036854775808 ≤ x) (h2 : x < 9223372036854775808) : qwl x = x := q64_i ⟨h1, h2⟩
theorem qw_32 (x : Int) : q32 (qw x) := q32_of _
theorem qw_w (x : Int) : qw (qw x) = qw x := q32_i (qw_32 x)
theorem qdiv_t {a b : Int} (ha : q32 a) (hb : q32 b) (h : 0 < b) : qdiv a b = a.tdiv b := by
  unfold qdiv
  rw [Int32.toInt_div_of_ne_right, q32_i ha, q32_i hb]
  intro e
  have e1 := congrArg Int32.toInt e
  rw [q32_i hb] at e1
  have e2 : (-1 : Int32).toInt = -1 := by decide
  omega
theorem qdiv_e {a b : Int} (h1 : 0 ≤ a) (h2 : a < 2147483648) (h3 : 0 < b) (h4 : b < 2147483648) : qdiv a b = a / b := by
  rw [qdiv_t ⟨by omega, h2⟩ ⟨by omega, h4⟩ h3, Int.tdiv_eq_ediv_of_nonneg h1]
theorem qrem_t {a b : Int} (ha : -2147483648 < a) (ha2 : a < 2147483648) (hb : q32 b) (h : 0 < b) : qrem a b = a.tmod b := by
  unfold qrem
  have hd : (Int32.ofInt a / Int32.ofInt b).toInt = a.tdiv b := qdiv_t ⟨by omega, ha2⟩ hb h
  have hn := Int.natAbs_tdiv_le_natAbs a b
  have e1 : Int32.ofInt a / Int32.ofInt b = Int32.ofInt (a.tdiv b) := by
    apply Int32.toInt_inj.mp
    rw [hd, q32_i ⟨by omega, by omega⟩]
  rw [e1, ← Int32.ofInt_mul, ← Int32.ofInt_sub]
  have e2 : a - a.tdiv b * b = a.tmod b := by rw [Int.tmod_def, Int.mul_comm]
  rw [e2]
  have l1 := Int.tmod_lt_of_pos a h
  have l2 := Int.lt_tmod_of_pos a h
  have l3 := hb.2
  exact q32_i ⟨by omega, by omega⟩
theorem qrem_e {a b : Int} (h1 : 0 ≤ a) (h2 : a < 2147483648) (h3 : 0 < b) (h4 : b < 2147483648) : qrem a b = a % b := by
  rw [qrem_t (by omega) h2 ⟨by omega, h4⟩ h3, Int.tmod_eq_emod_of_nonneg h1]
theorem qdivl_e {a b : Int} (h1 : 0 ≤ a) (h2 : a < 9223372036854775808) (h3 : 0 < b) (h4 : b < 9223372036854775808) : qdivl a b = a / b := by
  unfold qdivl
  have hb : q64 b := ⟨by omega, h4⟩
  rw [Int64.toInt_div_of_ne_right, q64_i ⟨by omega, h2⟩, q64_i hb, Int.tdiv_eq_ediv_of_nonneg h1]
  intro e
  have e1 := congrArg Int64.toInt e
  rw [q64_i hb] at e1
  have e2 : (-1 : Int64).toInt = -1 := by decide
  omega
theorem qreml_e {a b : Int} (h1 : 0 ≤ a) (h2 : a < 9223372036854775808) (h3 : 0 < b) (h4 : b < 9223372036854775808) : qreml a b = a % b := by
  unfold qreml
  have hd : (Int64.ofInt a / Int64.ofInt b).toInt = a / b := qdivl_e h1 h2 h3 h4
  have l0 : 0 ≤ a / b := Int.ediv_nonneg h1 (by omega)
  have l1 : a / b ≤ a := Int.ediv_le_self b h1
  have e1 : Int64.ofInt a / Int64.ofInt b = Int64.ofInt (a / b) := by
    apply Int64.toInt_inj.mp
    rw [hd, q64_i ⟨by omega, by omega⟩]
  rw [e1, ← Int64.ofInt_mul, ← Int64.ofInt_sub]
  have e2 : a - a / b * b = a % b := by rw [Int.emod_def, Int.mul_comm]
  rw [e2]
  have l2 := Int.emod_lt_of_pos a h3
  have l3 := Int.emod_nonneg a (show b ≠ 0 by omega)
  exact q64_i ⟨by omega, by omega⟩
/-! shifts and masks -/
theorem qs_l : ∀ n, n < 32 → ((Int32.ofNat n &&& 31).toBitVec.smod 32).toNat = n := by decide +kernel
theorem qs_ll : ∀ n, n < 64 → (((Int32.ofNat n).toInt64 &&& 63).toBitVec.smod 64).toNat = n := by decide +kernel
theorem qshr_e {a : Int} (ha : q32 a) {n : Nat} (hn : n < 32) : qshr a (n : Int) = a / 2 ^ n := by
  unfold qshr
  rw [Int32.ofInt_eq_ofNat]
  show (Int32.ofInt a >>> (Int32.ofNat n &&& 31)).toBitVec.toInt = _
  rw [Int32.toBitVec_shiftRight]
  show ((Int32.ofInt a).toBitVec.sshiftRight ((Int32.ofNat n &&& 31).toBitVec.smod 32).toNat).toInt = _
  rw [qs_l n hn, BitVec.toInt_sshiftRight, Int32.toInt_toBitVec, q32_i ha, Int.shiftRight_eq_div_pow]
  simp
theorem qshrl_e {a : Int} (ha : q64 a) {n : Nat} (hn : n < 64) : qshrl a (n : Int) = a / 2 ^ n := by
  unfold qshrl
  rw [Int32.ofInt_eq_ofNat]
  show (Int64.ofInt a >>> ((Int32.ofNat n).toInt64 &&& 63)).toBitVec.toInt = _
  rw [Int64.toBitVec_shiftRight]
  show ((Int64.ofInt a).toBitVec.sshiftRight (((Int32.ofNat n).toInt64 &&& 63).toBitVec.smod 64).toNat).toInt = _
  rw [qs_ll n hn, BitVec.toInt_sshiftRight, Int64.toInt_toBitVec, q64_i ha, Int.shiftRight_eq_div_pow]
  simp
theorem qand_m {a : Int} {m k : Nat} (hk : k ≤ 30) (hm : m = 2 ^ k - 1) : qand a (m : Int) = a % (2 ^ k : Nat) := by
  unfold qand
  rw [Int32.ofInt_eq_ofNat]
  show ((Int32.ofInt a).toBitVec &&& BitVec.ofNat 32 m).toInt = _
  have hp : 2 ^ k ≤ 2 ^ 30 := Nat.pow_le_pow_right (by decide) hk
  have hp0 : 0 < 2 ^ k := Nat.pow_pos (by decide)
  have hmm : m % 2 ^ 32 = m := Nat.mod_eq_of_lt (by omega)
  have ht : ((Int32.ofInt a).toBitVec &&& BitVec.ofNat 32 m).toNat = (a % 4294967296).toNat % 2 ^ k := by
    rw [BitVec.toNat_and, BitVec.toNat_ofNat, hmm, hm, Nat.and_two_pow_sub_one_eq_mod, Int32.toBitVec_ofInt, BitVec.toNat_ofInt]
    rfl
  have hl : (a % 4294967296).toNat % 2 ^ k < 2 ^ k := Nat.mod_lt _ hp0
  rw [BitVec.toInt_eq_toNat_of_lt (by rw [ht]; omega), ht, Int.natCast_emod, Int.toNat_of_nonneg (Int.emod_nonneg _ (by decide))]
  refine Int.emod_emod_of_dvd a ?_
  refine ⟨((2 ^ (32 - k) : Nat) : Int), ?_⟩
  rw [← Int.natCast_mul, ← Nat.pow_add, show k + (32 - k) = 32 by omega]
  rfl
theorem qand_1 (a : Int) : qand a 1 = a % 2 := qand_m (m := 1) (k := 1) (by decide) rfl
theorem qand_7 (a : Int) : qand a 7 = a % 8 := qand_m (m := 7) (k := 3) (by decide) rfl
theorem qand_31 (a : Int) : qand a 31 = a % 32 := qand_m (m := 31) (k := 5) (by decide) rfl
theorem qand_63 (a : Int) : qand a 63 = a % 64 := qand_m (m := 63) (k := 6) (by decide) rfl
theorem qand_255 (a : Int) : qand a 255 = a % 256 := qand_m (m := 255) (k := 8) (by decide) rfl
theorem qandl_1 (a : Int) : qandl a 1 = a % 2 := by
  unfold qandl
  show ((Int64.ofInt a).toBitVec &&& 1#64).toInt = _
  have ht : ((Int64.ofInt a).toBitVec &&& 1#64).toNat = (a % 18446744073709551616).toNat % 2 := by
    rw [BitVec.toNat_and, show (1#64).toNat = 2 ^ 1 - 1 from rfl, Nat.and_two_pow_sub_one_eq_mod, Int64.toBitVec_ofInt, BitVec.toNat_ofInt]
    rfl
  rw [BitVec.toInt_eq_toNat_of_lt (by rw [ht]; omega), ht]
  omega
theorem qshr_1 {a : Int} (ha : q32 a) : qshr a 1 = a / 2 := by have := qshr_e ha (n := 1) (by decide); simpa using this
theorem qshr_3 {a : Int} (ha : q32 a) : qshr a 3 = a / 8 := by have := qshr_e ha (n := 3) (by decide); simpa using this
theorem qshr_6 {a : Int} (ha : q32 a) : qshr a 6 = a / 64 := by have := qshr_e ha (n := 6) (by decide); simpa using this
/-- one bit, by ints and by longs -/
def qbit (a k : Int) : Int := a / 2 ^ k.toNat % 2
theorem qbit_i {a k : Int} (ha : q32 a) (h0 : 0 ≤ k) (h1 : k < 32) : qand (qshr a k) 1 = qbit a k := by
  obtain ⟨n, rfl⟩ := Int.eq_ofNat_of_zero_le h0
  rw [qand_1, qshr_e ha (by omega)]
  rfl
theorem qbit_l {a k : Int} (ha : q64 a) (h0 : 0 ≤ k) (h1 : k < 64) : qandl (qshrl a k) 1 = qbit a k := by
  obtain ⟨n, rfl⟩ := Int.eq_ofNat_of_zero_le h0
  rw [qandl_1, qshrl_e ha (by omega)]
  rfl
theorem qbit_01 (a k : Int) : qbit a k = 0 ∨ qbit a k = 1 := by unfold qbit; omega
theorem qor_32 (a b : Int) : q32 (qor a b) := q32_of _
theorem qshl_32 (a b : Int) : q32 (qshl a b) := q32_of _
theorem qorl_64 (a b : Int) : q64 (qorl a b) := q64_of _
theorem qandl_64 (a b : Int) : q64 (qandl a b) := q64_of _
theorem qshll_64 (a b : Int) : q64 (qshll a b) := q64_of _
theorem qor_0 {a : Int} (ha : q32 a) : qor a 0 = a := by
  unfold qor
  have : Int32.ofInt a ||| Int32.ofInt 0 = Int32.ofInt a := Int32.toBitVec_inj.mp (by rw [Int32.toBitVec_or]; exact BitVec.or_zero)
  rw [this, q32_i ha]
theorem qorl_0 {a : Int} (ha : q64 a) : qorl a 0 = a := by
  unfold qorl
  have : Int64.ofInt a ||| Int64.ofInt 0 = Int64.ofInt a := Int64.toBitVec_inj.mp (by rw [Int64.toBitVec_or]; exact BitVec.or_zero)
  rw [this, q64_i ha]
/-! bytes -/
theorem qb8_e (a : Int) : qb8 a = (qw a).bmod 256 := by
  unfold qb8
  rw [Int8.toInt_toInt32, Int32.toInt_toInt8]
  rfl
theorem qb8_b (a : Int) : -128 ≤ qb8 a ∧ qb8 a < 128 := by
  rw [qb8_e]
  have h1 := Int.le_bmod (x := qw a) (m := 256) (by decide)
  have h2 := Int.bmod_lt (x := qw a) (m := 256) (by decide)
  constructor
  · exact h1
  · exact h2
theorem qb8_i {a : Int} (h1 : -128 ≤ a) (h2 : a < 128) : qb8 a = a := by
  rw [qb8_e, qw_e (by omega) (by omega)]
  exact Int.bmod_eq_of_le (m := 256) h1 h2
theorem qb8_m {a : Int} (ha : q32 a) : qb8 a % 256 = a % 256 := by
  rw [qb8_e, qw_e ha.1 ha.2]
  exact Int.bmod_emod
theorem qs16_i {a : Int} (h1 : -32768 ≤ a) (h2 : a < 32768) : qs16 a = a := by
  unfold qs16
  rw [Int16.toInt_toInt32, Int32.toInt_toInt16, q32_i ⟨by omega, by omega⟩]
  exact Int.bmod_eq_of_le (m := 65536) h1 h2
theorem qc16_i {a : Int} (h1 : 0 ≤ a) (h2 : a < 65536) : qc16 a = a := by
  obtain ⟨n, rfl⟩ := Int.eq_ofNat_of_zero_le h1
  have hn : n < 65536 := by omega
  unfold qc16
  rw [Int32.ofInt_eq_ofNat]
  have e : (Int32.ofNat n).toUInt32 % 65536 = UInt32.ofNat n := by
    apply UInt32.toNat_inj.mp
    rw [UInt32.toNat_mod]
    show (BitVec.ofNat 32 n).toNat % 65536 = (BitVec.ofNat 32 n).toNat
    rw [BitVec.toNat_ofNat]
    omega
  rw [e]
  show (Int32.ofNat n).toInt = _
  rw [Int32.toInt_ofNat_of_lt (by omega)]
theorem qcmp_z {a b : Int} : qcmp a b = 0 ↔ a = b := by unfold qcmp; split <;> (try split) <;> omega
theorem qcmp_l {a b : Int} : qcmp a b < 0 ↔ a < b := by unfold qcmp; split <;> (try split) <;> omega
theorem qcmp_g {a b : Int} : 0 < qcmp a b ↔ b < a := by unfold qcmp; split <;> (try split) <;> omega
theorem qcmp_le {a b : Int} : qcmp a b ≤ 0 ↔ a ≤ b := by unfold qcmp; split <;> (try split) <;> omega
theorem qcmp_ge {a b : Int} : 0 ≤ qcmp a b ↔ b ≤ a := by unfold qcmp; split <;> (try split) <;> omega
theorem qxor_n {a b : Int} (ha : q32 a) (hb : q32 b) (h : 0 ≤ b) : 0 ≤ qxor a b ↔ 0 ≤ a := by
  unfold qxor
  have e1 : (Int32.ofInt a ^^^ Int32.ofInt b).toBitVec.msb = ((Int32.ofInt a).toBitVec.msb ^^ (Int32.ofInt b).toBitVec.msb) := by
    rw [Int32.toBitVec_xor, BitVec.msb_xor]
  rw [BitVec.msb_eq_toInt, BitVec.msb_eq_toInt, BitVec.msb_eq_toInt, Int32.toInt_toBitVec, Int32.toInt_toBitVec, Int32.toInt_toBitVec, q32_i ha, q32_i hb, decide_eq_false (by omega : ¬ b < 0), Bool.xor_false, decide_eq_decide] at e1
  omega
theorem floorMod_e {a b : Int} (h1 : -2147483648 < a) (h2 : a < 2147483648) (h3 : 0 < b) (h4 : b < 2147483648) (h : qH) : DJ9_floorMod_7cf53 a b h = some (a % b, h) := by
  unfold DJ9_floorMod_7cf53
  rw [if_neg (by omega)]
  simp only [qlt]
  have hq := qxor_n (a := a) (b := b) ⟨by omega, h2⟩ ⟨by omega, h4⟩ (by omega)
  rw [qrem_t h1 h2 ⟨by omega, h4⟩ h3]
  by_cases h0 : 0 ≤ a
  · rw [if_pos (hq.mpr h0), Int.tmod_eq_emod_of_nonneg h0]
  · rw [if_neg (fun e => h0 (hq.mp e))]
    have ht := Int.tmod_eq_emod (a := a) (b := b)
    have l1 := Int.emod_nonneg a (show b ≠ 0 by omega)
    have l2 := Int.emod_lt_of_pos a h3
    have l3 := Int.tmod_lt_of_pos a h3
    by_cases hz : a.tmod b = 0
    · rw [if_pos hz]
      have hd : b ∣ a := Int.dvd_of_tmod_eq_zero hz
      rw [hz, Int.emod_eq_zero_of_dvd hd]
    · rw [if_neg hz]
      have hd : ¬ b ∣ a := fun e => hz (Int.tmod_eq_zero_of_dvd e)
      rw [if_neg (fun e : 0 ≤ a ∨ b ∣ a => e.elim h0 hd)] at ht
      have hn : (b.natAbs : Int) = b := by omega
      rw [hn] at ht
      rw [qw_e (by omega) (by omega), ht]
      congr 2
      omega
