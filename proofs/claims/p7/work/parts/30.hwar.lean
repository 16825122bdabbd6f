/-! ints and longs of the machine as integers -/
def hw_iI (x : Int) : Prop := -2147483648 ≤ x ∧ x ≤ 2147483647
def hw_iJ (x : Int) : Prop := -9223372036854775808 ≤ x ∧ x ≤ 9223372036854775807
theorem hw_i32 (x : Int32) : hw_iI x.toInt := by
  have h1 := x.toInt_lt
  have h2 := x.le_toInt
  unfold hw_iI
  omega
theorem hw_i64 (x : Int64) : hw_iJ x.toInt := by
  have h1 := x.toInt_lt
  have h2 := x.le_toInt
  unfold hw_iJ
  omega
theorem hw_b32 {e : Int} (h : hw_iI e) : e.bmod (2 ^ 32) = e := by
  unfold hw_iI at h
  exact Int.bmod_eq_of_le (by omega) (by omega)
theorem hw_b64 {e : Int} (h : hw_iJ e) : e.bmod (2 ^ 64) = e := by
  unfold hw_iJ at h
  exact Int.bmod_eq_of_le (by omega) (by omega)
theorem hw_add32 (x y : Int32) (h : hw_iI (x.toInt + y.toInt)) : (x + y).toInt = x.toInt + y.toInt := by rw [Int32.toInt_add, hw_b32 h]
theorem hw_sub32 (x y : Int32) (h : hw_iI (x.toInt - y.toInt)) : (x - y).toInt = x.toInt - y.toInt := by rw [Int32.toInt_sub, hw_b32 h]
theorem hw_mul32 (x y : Int32) (h : hw_iI (x.toInt * y.toInt)) : (x * y).toInt = x.toInt * y.toInt := by rw [Int32.toInt_mul, hw_b32 h]
theorem hw_add64 (x y : Int64) (h : hw_iJ (x.toInt + y.toInt)) : (x + y).toInt = x.toInt + y.toInt := by rw [Int64.toInt_add, hw_b64 h]
theorem hw_sub64 (x y : Int64) (h : hw_iJ (x.toInt - y.toInt)) : (x - y).toInt = x.toInt - y.toInt := by rw [Int64.toInt_sub, hw_b64 h]
theorem hw_mul64 (x y : Int64) (h : hw_iJ (x.toInt * y.toInt)) : (x * y).toInt = x.toInt * y.toInt := by rw [Int64.toInt_mul, hw_b64 h]
theorem hw_neg64 (x : Int64) (h : hw_iJ (-x.toInt)) : (-x).toInt = -x.toInt := by rw [Int64.toInt_neg, hw_b64 h]
theorem hw_l2i (x : Int64) (h : hw_iI x.toInt) : x.toInt32.toInt = x.toInt := by rw [Int64.toInt_toInt32, hw_b32 h]
/-- what an and of two ints is at most -/
def hw_fa (x y z : Int) : Prop := (0 ≤ x → 0 ≤ z ∧ z ≤ x) ∧ (0 ≤ y → 0 ≤ z ∧ z ≤ y)
theorem hw_and32 (x y : Int32) : hw_fa x.toInt y.toInt (x &&& y).toInt := by
  have hx := BitVec.toInt_eq_toNat_cond x.toBitVec
  have hy := BitVec.toInt_eq_toNat_cond y.toBitVec
  have hz := BitVec.toInt_eq_toNat_cond (x &&& y).toBitVec
  have h1 : (x &&& y).toBitVec.toNat = x.toBitVec.toNat &&& y.toBitVec.toNat := by rw [Int32.toBitVec_and, BitVec.toNat_and]
  have h2 := Nat.and_le_left (n := x.toBitVec.toNat) (m := y.toBitVec.toNat)
  have h3 := Nat.and_le_right (n := x.toBitVec.toNat) (m := y.toBitVec.toNat)
  rw [Int32.toInt_toBitVec] at hx hy hz
  rw [← h1] at h2 h3
  have b1 := x.toBitVec.isLt
  have b2 := y.toBitVec.isLt
  unfold hw_fa
  generalize (x &&& y).toBitVec.toNat = t at *
  generalize x.toBitVec.toNat = a at *
  generalize y.toBitVec.toNat = b at *
  split at hx <;> split at hy <;> split at hz <;> omega
theorem hw_and64 (x y : Int64) : hw_fa x.toInt y.toInt (x &&& y).toInt := by
  have hx := BitVec.toInt_eq_toNat_cond x.toBitVec
  have hy := BitVec.toInt_eq_toNat_cond y.toBitVec
  have hz := BitVec.toInt_eq_toNat_cond (x &&& y).toBitVec
  have h1 : (x &&& y).toBitVec.toNat = x.toBitVec.toNat &&& y.toBitVec.toNat := by rw [Int64.toBitVec_and, BitVec.toNat_and]
  have h2 := Nat.and_le_left (n := x.toBitVec.toNat) (m := y.toBitVec.toNat)
  have h3 := Nat.and_le_right (n := x.toBitVec.toNat) (m := y.toBitVec.toNat)
  rw [Int64.toInt_toBitVec] at hx hy hz
  rw [← h1] at h2 h3
  have b1 := x.toBitVec.isLt
  have b2 := y.toBitVec.isLt
  unfold hw_fa
  generalize (x &&& y).toBitVec.toNat = t at *
  generalize x.toBitVec.toNat = a at *
  generalize y.toBitVec.toNat = b at *
  split at hx <;> split at hy <;> split at hz <;> omega
/-- what a shift down is at most -/
def hw_fs (x z : Int) : Prop := 0 ≤ x → 0 ≤ z ∧ z ≤ x
theorem hw_shdiv (x : Int) (n : Nat) : hw_fs x (x >>> n) := by
  intro h
  rw [Int.shiftRight_eq_div_pow]
  have hp : (0 : Int) < ((2 ^ n : Nat) : Int) := by
    have : 0 < 2 ^ n := Nat.pow_pos (by decide)
    omega
  refine ⟨Int.ediv_nonneg h (by omega), ?_⟩
  exact Int.ediv_le_self _ h
theorem hw_shr32 (x y : Int32) : hw_fs x.toInt (x >>> y).toInt := by
  have h1 : (x >>> y).toInt = x.toInt >>> (y.toBitVec.smod 32).toNat := by
    rw [← Int32.toInt_toBitVec, Int32.toBitVec_shiftRight, BitVec.sshiftRight_eq', BitVec.toInt_sshiftRight, Int32.toInt_toBitVec]
  rw [h1]
  exact hw_shdiv _ _
theorem hw_shr64 (x y : Int64) : hw_fs x.toInt (x >>> y).toInt := by
  have h1 : (x >>> y).toInt = x.toInt >>> (y.toBitVec.smod 64).toNat := by
    rw [← Int64.toInt_toBitVec, Int64.toBitVec_shiftRight, BitVec.sshiftRight_eq', BitVec.toInt_sshiftRight, Int64.toInt_toBitVec]
  rw [h1]
  exact hw_shdiv _ _
theorem hw_ushr32 (x : Int32) (y : UInt32) : hw_fs x.toInt (x.toUInt32 >>> y).toInt32.toInt := by
  have hx := BitVec.toInt_eq_toNat_cond x.toBitVec
  have hz := BitVec.toInt_eq_toNat_cond (x.toUInt32 >>> y).toInt32.toBitVec
  rw [Int32.toInt_toBitVec] at hx hz
  have h1 : (x.toUInt32 >>> y).toInt32.toBitVec.toNat ≤ x.toBitVec.toNat := by
    show (x.toUInt32 >>> y).toNat ≤ x.toUInt32.toNat
    rw [UInt32.toNat_shiftRight, Nat.shiftRight_eq_div_pow]
    exact Nat.div_le_self _ _
  have b1 := x.toBitVec.isLt
  intro h
  generalize (x.toUInt32 >>> y).toInt32.toBitVec.toNat = t at *
  generalize x.toBitVec.toNat = a at *
  split at hx <;> split at hz <;> omega
theorem hw_ushr64 (x : Int64) (y : UInt64) : hw_fs x.toInt (x.toUInt64 >>> y).toInt64.toInt := by
  have hx := BitVec.toInt_eq_toNat_cond x.toBitVec
  have hz := BitVec.toInt_eq_toNat_cond (x.toUInt64 >>> y).toInt64.toBitVec
  rw [Int64.toInt_toBitVec] at hx hz
  have h1 : (x.toUInt64 >>> y).toInt64.toBitVec.toNat ≤ x.toBitVec.toNat := by
    show (x.toUInt64 >>> y).toNat ≤ x.toUInt64.toNat
    rw [UInt64.toNat_shiftRight, Nat.shiftRight_eq_div_pow]
    exact Nat.div_le_self _ _
  have b1 := x.toBitVec.isLt
  intro h
  generalize (x.toUInt64 >>> y).toInt64.toBitVec.toNat = t at *
  generalize x.toBitVec.toNat = a at *
  split at hx <;> split at hz <;> omega
/-- a quotient, a rest -/
def hw_fd (x y z : Int) : Prop := 0 ≤ x → 0 < y → z = x / y ∧ 0 ≤ z ∧ z ≤ x ∧ (y ≤ x → 1 ≤ z)
def hw_fr (x y z : Int) : Prop := 0 ≤ x → 0 < y → z = x % y ∧ 0 ≤ z ∧ z < y ∧ z ≤ x
theorem hw_dv32 (x y : Int32) (h1 : 0 ≤ x.toInt) (h2 : 0 < y.toInt) : (x / y).toInt = x.toInt / y.toInt := by
  have h3 := hw_i32 x
  rw [Int32.toInt_div, Int.tdiv_eq_ediv_of_nonneg h1]
  refine hw_b32 ⟨?_, ?_⟩
  · have := Int.ediv_nonneg h1 (Int.le_of_lt h2)
    omega
  · have := Int.ediv_le_self y.toInt h1
    unfold hw_iI at h3
    omega
theorem hw_dv64 (x y : Int64) (h1 : 0 ≤ x.toInt) (h2 : 0 < y.toInt) : (x / y).toInt = x.toInt / y.toInt := by
  have h3 := hw_i64 x
  rw [Int64.toInt_div, Int.tdiv_eq_ediv_of_nonneg h1]
  refine hw_b64 ⟨?_, ?_⟩
  · have := Int.ediv_nonneg h1 (Int.le_of_lt h2)
    omega
  · have := Int.ediv_le_self y.toInt h1
    unfold hw_iJ at h3
    omega
theorem hw_div32 (x y : Int32) : hw_fd x.toInt y.toInt (x / y).toInt := by
  intro h1 h2
  rw [hw_dv32 x y h1 h2]
  refine ⟨rfl, Int.ediv_nonneg h1 (Int.le_of_lt h2), Int.ediv_le_self _ h1, fun h => ?_⟩
  exact (Int.le_ediv_iff_mul_le h2).mpr (by omega)
theorem hw_rm32 (x y : Int32) (h1 : 0 ≤ x.toInt) (h2 : 0 < y.toInt) : (x - x / y * y).toInt = x.toInt % y.toInt := by
  have h3 := hw_i32 x
  have hd := hw_dv32 x y h1 h2
  have e1 : x.toInt / y.toInt * y.toInt + x.toInt % y.toInt = x.toInt := Int.ediv_mul_add_emod _ _
  have e2 := Int.emod_nonneg x.toInt (show y.toInt ≠ 0 by omega)
  have e3 := Int.ediv_nonneg h1 (Int.le_of_lt h2)
  have e4 : 0 ≤ x.toInt / y.toInt * y.toInt := Int.mul_nonneg e3 (Int.le_of_lt h2)
  unfold hw_iI at h3
  have m : (x / y * y).toInt = x.toInt / y.toInt * y.toInt := by
    rw [hw_mul32 _ _ (by rw [hd]; unfold hw_iI; omega), hd]
  rw [hw_sub32 _ _ (by rw [m]; unfold hw_iI; omega), m]
  omega
theorem hw_div64 (x y : Int64) : hw_fd x.toInt y.toInt (x / y).toInt := by
  intro h1 h2
  rw [hw_dv64 x y h1 h2]
  refine ⟨rfl, Int.ediv_nonneg h1 (Int.le_of_lt h2), Int.ediv_le_self _ h1, fun h => ?_⟩
  exact (Int.le_ediv_iff_mul_le h2).mpr (by omega)
theorem hw_rm64 (x y : Int64) (h1 : 0 ≤ x.toInt) (h2 : 0 < y.toInt) : (x - x / y * y).toInt = x.toInt % y.toInt := by
  have h3 := hw_i64 x
  have hd := hw_dv64 x y h1 h2
  have e1 : x.toInt / y.toInt * y.toInt + x.toInt % y.toInt = x.toInt := Int.ediv_mul_add_emod _ _
  have e2 := Int.emod_nonneg x.toInt (show y.toInt ≠ 0 by omega)
  have e3 := Int.ediv_nonneg h1 (Int.le_of_lt h2)
  have e4 : 0 ≤ x.toInt / y.toInt * y.toInt := Int.mul_nonneg e3 (Int.le_of_lt h2)
  unfold hw_iJ at h3
  have m : (x / y * y).toInt = x.toInt / y.toInt * y.toInt := by
    rw [hw_mul64 _ _ (by rw [hd]; unfold hw_iJ; omega), hd]
  rw [hw_sub64 _ _ (by rw [m]; unfold hw_iJ; omega), m]
  omega
theorem hw_rem32 (x y : Int32) : hw_fr x.toInt y.toInt (x - x / y * y).toInt := by
  intro h1 h2
  rw [hw_rm32 x y h1 h2]
  refine ⟨rfl, Int.emod_nonneg _ (by omega), Int.emod_lt_of_pos _ h2, ?_⟩
  have e1 : x.toInt / y.toInt * y.toInt + x.toInt % y.toInt = x.toInt := Int.ediv_mul_add_emod _ _
  have e3 := Int.ediv_nonneg h1 (Int.le_of_lt h2)
  have e4 : 0 ≤ x.toInt / y.toInt * y.toInt := Int.mul_nonneg e3 (Int.le_of_lt h2)
  omega
theorem hw_rem64 (x y : Int64) : hw_fr x.toInt y.toInt (x - x / y * y).toInt := by
  intro h1 h2
  rw [hw_rm64 x y h1 h2]
  refine ⟨rfl, Int.emod_nonneg _ (by omega), Int.emod_lt_of_pos _ h2, ?_⟩
  have e1 : x.toInt / y.toInt * y.toInt + x.toInt % y.toInt = x.toInt := Int.ediv_mul_add_emod _ _
  have e3 := Int.ediv_nonneg h1 (Int.le_of_lt h2)
  have e4 : 0 ≤ x.toInt / y.toInt * y.toInt := Int.mul_nonneg e3 (Int.le_of_lt h2)
  omega
/-- a char -/
def hw_fc (x z : Int) : Prop := (0 ≤ z ∧ z ≤ 65535) ∧ (0 ≤ x → x ≤ 65535 → z = x)
theorem hw_i2c (x : Int32) : hw_fc x.toInt (x.toUInt32 % 65536).toInt32.toInt := by
  have hx := BitVec.toInt_eq_toNat_cond x.toBitVec
  have hz := BitVec.toInt_eq_toNat_cond (x.toUInt32 % 65536).toInt32.toBitVec
  rw [Int32.toInt_toBitVec] at hx hz
  have h1 : (x.toUInt32 % 65536).toInt32.toBitVec.toNat = x.toBitVec.toNat % 65536 := by
    show (x.toUInt32 % 65536).toNat = x.toUInt32.toNat % 65536
    rw [UInt32.toNat_mod]
    rfl
  have h2 : x.toBitVec.toNat < 4294967296 := x.toBitVec.isLt
  unfold hw_fc
  rw [h1] at hz
  generalize x.toBitVec.toNat = a at *
  split at hx <;> split at hz <;> omega
/-- which of two longs is greater -/
def hw_fm (x y z : Int) : Prop := (x < y → z = -1) ∧ (x = y → z = 0) ∧ (y < x → z = 1)
theorem hw_cmp (x y : Int64) : hw_fm x.toInt y.toInt (lg_cmp x y).toInt := by
  unfold lg_cmp hw_fm
  rcases Int.lt_trichotomy x.toInt y.toInt with h | h | h
  · have h1 : ¬ x > y := fun q => by have := Int64.lt_iff_toInt_lt.mp q; omega
    have h2 : ¬ x = y := fun q => by rw [q] at h; omega
    refine ⟨fun _ => ?_, fun q => by omega, fun q => by omega⟩
    rw [if_neg h1, if_neg h2]
    decide
  · have h1 : x = y := Int64.toInt_inj.mp h
    have h2 : ¬ x > y := fun q => by have := Int64.lt_iff_toInt_lt.mp q; omega
    refine ⟨fun q => by omega, fun _ => ?_, fun q => by omega⟩
    rw [if_neg h2, if_pos h1]
    decide
  · have h1 : x > y := Int64.lt_iff_toInt_lt.mpr h
    refine ⟨fun q => by omega, fun q => by omega, fun _ => ?_⟩
    rw [if_pos h1]
    decide
/-! what an operation makes, as a function; wraps -/
theorem hw_wr32 (e : Int) : ∃ q : Int, e.bmod (2 ^ 32) = e + 4294967296 * q := by
  unfold Int.bmod
  dsimp only
  split
  · exact ⟨-(e / 4294967296), by omega⟩
  · exact ⟨-(e / 4294967296) - 1, by omega⟩
theorem hw_wr64 (e : Int) : ∃ q : Int, e.bmod (2 ^ 64) = e + 18446744073709551616 * q := by
  unfold Int.bmod
  dsimp only
  split
  · exact ⟨-(e / 18446744073709551616), by omega⟩
  · exact ⟨-(e / 18446744073709551616) - 1, by omega⟩
def hb_and (x y : Int) : Int := (fun (x y : Int32) => (x &&& y).toInt) (Int32.ofInt x) (Int32.ofInt y)
theorem hb_and_eq (x y : Int32) : (x &&& y).toInt = hb_and x.toInt y.toInt := by unfold hb_and; rw [Int32.ofInt_toInt, Int32.ofInt_toInt]
def hb_or (x y : Int) : Int := (fun (x y : Int32) => (x ||| y).toInt) (Int32.ofInt x) (Int32.ofInt y)
theorem hb_or_eq (x y : Int32) : (x ||| y).toInt = hb_or x.toInt y.toInt := by unfold hb_or; rw [Int32.ofInt_toInt, Int32.ofInt_toInt]
def hb_xor (x y : Int) : Int := (fun (x y : Int32) => (x ^^^ y).toInt) (Int32.ofInt x) (Int32.ofInt y)
theorem hb_xor_eq (x y : Int32) : (x ^^^ y).toInt = hb_xor x.toInt y.toInt := by unfold hb_xor; rw [Int32.ofInt_toInt, Int32.ofInt_toInt]
def hb_shl (x y : Int) : Int := (fun (x y : Int32) => (x <<< (y &&& 31)).toInt) (Int32.ofInt x) (Int32.ofInt y)
theorem hb_shl_eq (x y : Int32) : (x <<< (y &&& 31)).toInt = hb_shl x.toInt y.toInt := by unfold hb_shl; rw [Int32.ofInt_toInt, Int32.ofInt_toInt]
def hb_shr (x y : Int) : Int := (fun (x y : Int32) => (x >>> (y &&& 31)).toInt) (Int32.ofInt x) (Int32.ofInt y)
theorem hb_shr_eq (x y : Int32) : (x >>> (y &&& 31)).toInt = hb_shr x.toInt y.toInt := by unfold hb_shr; rw [Int32.ofInt_toInt, Int32.ofInt_toInt]
def hb_ushr (x y : Int) : Int := (fun (x y : Int32) => ((x.toUInt32 >>> (y.toUInt32 &&& Int32.toUInt32 31)).toInt32).toInt) (Int32.ofInt x) (Int32.ofInt y)
theorem hb_ushr_eq (x y : Int32) : ((x.toUInt32 >>> (y.toUInt32 &&& Int32.toUInt32 31)).toInt32).toInt = hb_ushr x.toInt y.toInt := by unfold hb_ushr; rw [Int32.ofInt_toInt, Int32.ofInt_toInt]
def hb_div (x y : Int) : Int := (fun (x y : Int32) => (x / y).toInt) (Int32.ofInt x) (Int32.ofInt y)
theorem hb_div_eq (x y : Int32) : (x / y).toInt = hb_div x.toInt y.toInt := by unfold hb_div; rw [Int32.ofInt_toInt, Int32.ofInt_toInt]
def hb_rem (x y : Int) : Int := (fun (x y : Int32) => (x - x / y * y).toInt) (Int32.ofInt x) (Int32.ofInt y)
theorem hb_rem_eq (x y : Int32) : (x - x / y * y).toInt = hb_rem x.toInt y.toInt := by unfold hb_rem; rw [Int32.ofInt_toInt, Int32.ofInt_toInt]
def hb_land (x y : Int) : Int := (fun (x y : Int64) => (x &&& y).toInt) (Int64.ofInt x) (Int64.ofInt y)
theorem hb_land_eq (x y : Int64) : (x &&& y).toInt = hb_land x.toInt y.toInt := by unfold hb_land; rw [Int64.ofInt_toInt, Int64.ofInt_toInt]
def hb_lor (x y : Int) : Int := (fun (x y : Int64) => (x ||| y).toInt) (Int64.ofInt x) (Int64.ofInt y)
theorem hb_lor_eq (x y : Int64) : (x ||| y).toInt = hb_lor x.toInt y.toInt := by unfold hb_lor; rw [Int64.ofInt_toInt, Int64.ofInt_toInt]
def hb_ldiv (x y : Int) : Int := (fun (x y : Int64) => (x / y).toInt) (Int64.ofInt x) (Int64.ofInt y)
theorem hb_ldiv_eq (x y : Int64) : (x / y).toInt = hb_ldiv x.toInt y.toInt := by unfold hb_ldiv; rw [Int64.ofInt_toInt, Int64.ofInt_toInt]
def hb_lrem (x y : Int) : Int := (fun (x y : Int64) => (x - x / y * y).toInt) (Int64.ofInt x) (Int64.ofInt y)
theorem hb_lrem_eq (x y : Int64) : (x - x / y * y).toInt = hb_lrem x.toInt y.toInt := by unfold hb_lrem; rw [Int64.ofInt_toInt, Int64.ofInt_toInt]
def hb_lshl (x y : Int) : Int := (fun (x : Int64) (y : Int32) => (x <<< (y.toInt64 &&& 63)).toInt) (Int64.ofInt x) (Int32.ofInt y)
theorem hb_lshl_eq (x : Int64) (y : Int32) : (x <<< (y.toInt64 &&& 63)).toInt = hb_lshl x.toInt y.toInt := by unfold hb_lshl; rw [Int64.ofInt_toInt, Int32.ofInt_toInt]
def hb_lshr (x y : Int) : Int := (fun (x : Int64) (y : Int32) => (x >>> (y.toInt64 &&& 63)).toInt) (Int64.ofInt x) (Int32.ofInt y)
theorem hb_lshr_eq (x : Int64) (y : Int32) : (x >>> (y.toInt64 &&& 63)).toInt = hb_lshr x.toInt y.toInt := by unfold hb_lshr; rw [Int64.ofInt_toInt, Int32.ofInt_toInt]
def hb_lushr (x y : Int) : Int := (fun (x : Int64) (y : Int32) => ((x.toUInt64 >>> (y.toInt64.toUInt64 &&& Int64.toUInt64 63)).toInt64).toInt) (Int64.ofInt x) (Int32.ofInt y)
theorem hb_lushr_eq (x : Int64) (y : Int32) : ((x.toUInt64 >>> (y.toInt64.toUInt64 &&& Int64.toUInt64 63)).toInt64).toInt = hb_lushr x.toInt y.toInt := by unfold hb_lushr; rw [Int64.ofInt_toInt, Int32.ofInt_toInt]
def hb_i2c (x : Int) : Int := (fun (x : Int32) => (x.toUInt32 % 65536).toInt32.toInt) (Int32.ofInt x)
theorem hb_i2c_eq (x : Int32) : (x.toUInt32 % 65536).toInt32.toInt = hb_i2c x.toInt := by unfold hb_i2c; rw [Int32.ofInt_toInt]
def hb_i2b (x : Int) : Int := (fun (x : Int32) => x.toInt8.toInt32.toInt) (Int32.ofInt x)
theorem hb_i2b_eq (x : Int32) : x.toInt8.toInt32.toInt = hb_i2b x.toInt := by unfold hb_i2b; rw [Int32.ofInt_toInt]
theorem hw_i2b (x : Int32) : -128 ≤ x.toInt8.toInt32.toInt ∧ x.toInt8.toInt32.toInt ≤ 127 := by
  rw [Int8.toInt_toInt32]
  have h1 := x.toInt8.toInt_lt
  have h2 := x.toInt8.le_toInt
  omega
/-- bytes and chars as they are returned -/
theorem hw_nb {v : Int32} (h : -128 ≤ v.toInt ∧ v.toInt ≤ 127) : narrow .byte (.int v) = .int v := by
  have e : v.toInt8.toInt32 = v := by
    refine Int32.toInt_inj.mp ?_
    rw [Int8.toInt_toInt32, Int32.toInt_toInt8]
    exact Int.bmod_eq_of_le (by omega) (by omega)
  show Value.int v.toInt8.toInt32 = .int v
  rw [e]
theorem hw_nc {v : Int32} (h : 0 ≤ v.toInt ∧ v.toInt ≤ 65535) : narrow .char (.int v) = .int v := by
  have hx := BitVec.toInt_eq_toNat_cond v.toBitVec
  rw [Int32.toInt_toBitVec] at hx
  have b1 := v.toBitVec.isLt
  have hn : v.toUInt32.toNat < 65536 := by
    show v.toBitVec.toNat < 65536
    split at hx <;> omega
  have e : v.toUInt32.toUInt16.toUInt32.toInt32 = v := by
    have e1 : v.toUInt32.toUInt16.toUInt32 = v.toUInt32 := by
      refine UInt32.toNat_inj.mp ?_
      rw [UInt16.toNat_toUInt32, UInt32.toNat_toUInt16]
      exact Nat.mod_eq_of_lt hn
    rw [e1]
    exact Int32.toInt32_toUInt32 v
  show Value.int v.toUInt32.toUInt16.toUInt32.toInt32 = .int v
  rw [e]
theorem hw_nz {v : Int32} (h : v.toInt = 0 ∨ v.toInt = 1) : narrow .boolean (.int v) = .int v := by
  rcases h with q | q
  · have : v = 0 := Int32.toInt_inj.mp (q.trans rfl)
    subst this
    decide +kernel
  · have : v = 1 := Int32.toInt_inj.mp (q.trans rfl)
    subst this
    decide +kernel
theorem hw_on (n : Nat) : (Int32.ofNat n).toInt ≤ n := by
  rw [Int32.toInt_ofNat']
  have e : Int32.size = 4294967296 := rfl
  rw [e]
  unfold Int.bmod
  dsimp only
  split <;> omega
