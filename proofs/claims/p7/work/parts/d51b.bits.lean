/-! shifts and masks by 16 as quotients and rests -/
section C51b
theorem hb_a32 (a : Int32) : (a &&& Int32.ofInt 65535).toInt = a.toInt % 65536 := by
  have hx := BitVec.toInt_eq_toNat_cond a.toBitVec
  have hz := BitVec.toInt_eq_toNat_cond (a &&& Int32.ofInt 65535).toBitVec
  have h1 : (a &&& Int32.ofInt 65535).toBitVec.toNat = a.toBitVec.toNat % 65536 := by
    rw [Int32.toBitVec_and, BitVec.toNat_and]
    have e : (Int32.ofInt 65535).toBitVec.toNat = 2 ^ 16 - 1 := by decide
    rw [e]
    exact Nat.and_two_pow_sub_one_eq_mod _ 16
  rw [Int32.toInt_toBitVec] at hx hz
  have b1 := a.toBitVec.isLt
  rw [h1] at hz
  generalize a.toBitVec.toNat = t at *
  split at hx <;> split at hz <;> omega
theorem hb_a64 (a : Int64) : (a &&& Int64.ofInt 65535).toInt = a.toInt % 65536 := by
  have hx := BitVec.toInt_eq_toNat_cond a.toBitVec
  have hz := BitVec.toInt_eq_toNat_cond (a &&& Int64.ofInt 65535).toBitVec
  have h1 : (a &&& Int64.ofInt 65535).toBitVec.toNat = a.toBitVec.toNat % 65536 := by
    rw [Int64.toBitVec_and, BitVec.toNat_and]
    have e : (Int64.ofInt 65535).toBitVec.toNat = 2 ^ 16 - 1 := by decide
    rw [e]
    exact Nat.and_two_pow_sub_one_eq_mod _ 16
  rw [Int64.toInt_toBitVec] at hx hz
  have b1 := a.toBitVec.isLt
  rw [h1] at hz
  generalize a.toBitVec.toNat = t at *
  split at hx <;> split at hz <;> omega
theorem hb_and16 (x : Int) : hb_and x 65535 = x % 65536 := by
  unfold hb_and
  dsimp only
  rw [hb_a32, Int32.toInt_ofInt]
  obtain ⟨q, hq⟩ := hw_wr32 x
  show (x.bmod (2 ^ 32)) % 65536 = x % 65536
  rw [hq]
  omega
theorem hb_land16 (x : Int) : hb_land x 65535 = x % 65536 := by
  unfold hb_land
  dsimp only
  rw [hb_a64, Int64.toInt_ofInt]
  obtain ⟨q, hq⟩ := hw_wr64 x
  show (x.bmod (2 ^ 64)) % 65536 = x % 65536
  rw [hq]
  omega
theorem hb_shr16 {x : Int} (h1 : -2147483648 ≤ x) (h2 : x ≤ 2147483647) : hb_shr x 16 = x / 65536 := by
  unfold hb_shr
  dsimp only
  rw [← Int32.toInt_toBitVec, Int32.toBitVec_shiftRight, BitVec.sshiftRight_eq', BitVec.toInt_sshiftRight, Int32.toInt_toBitVec]
  have e : ((Int32.ofInt 16 &&& 31 : Int32).toBitVec.smod 32).toNat = 16 := by decide
  have e2 : ((2 ^ 16 : Nat) : Int) = 65536 := by decide
  rw [e, Int32.toInt_ofInt_of_le (by omega) (by omega), Int.shiftRight_eq_div_pow, e2]
theorem hb_shr1 {x : Int} (h1 : -2147483648 ≤ x) (h2 : x ≤ 2147483647) : hb_shr x 1 = x / 2 := by
  unfold hb_shr
  dsimp only
  rw [← Int32.toInt_toBitVec, Int32.toBitVec_shiftRight, BitVec.sshiftRight_eq', BitVec.toInt_sshiftRight, Int32.toInt_toBitVec]
  have e : ((Int32.ofInt 1 &&& 31 : Int32).toBitVec.smod 32).toNat = 1 := by decide
  have e2 : ((2 ^ 1 : Nat) : Int) = 2 := by decide
  rw [e, Int32.toInt_ofInt_of_le (by omega) (by omega), Int.shiftRight_eq_div_pow, e2]
theorem hb_lshr16 {x : Int} (h1 : -9223372036854775808 ≤ x) (h2 : x ≤ 9223372036854775807) : hb_lshr x 16 = x / 65536 := by
  unfold hb_lshr
  dsimp only
  rw [← Int64.toInt_toBitVec, Int64.toBitVec_shiftRight, BitVec.sshiftRight_eq', BitVec.toInt_sshiftRight, Int64.toInt_toBitVec]
  have e : (((Int32.ofInt 16).toInt64 &&& 63 : Int64).toBitVec.smod 64).toNat = 16 := by decide
  have e2 : ((2 ^ 16 : Nat) : Int) = 65536 := by decide
  rw [e, Int64.toInt_ofInt_of_le (by omega) (by omega), Int.shiftRight_eq_div_pow, e2]
theorem hb_lshr4 {x : Int} (h1 : -9223372036854775808 ≤ x) (h2 : x ≤ 9223372036854775807) : hb_lshr x 4 = x / 16 := by
  unfold hb_lshr
  dsimp only
  rw [← Int64.toInt_toBitVec, Int64.toBitVec_shiftRight, BitVec.sshiftRight_eq', BitVec.toInt_sshiftRight, Int64.toInt_toBitVec]
  have e : (((Int32.ofInt 4).toInt64 &&& 63 : Int64).toBitVec.smod 64).toNat = 4 := by decide
  have e2 : ((2 ^ 4 : Nat) : Int) = 16 := by decide
  rw [e, Int64.toInt_ofInt_of_le (by omega) (by omega), Int.shiftRight_eq_div_pow, e2]
theorem hb_nat64 {x : Int} (h1 : 0 ≤ x) (h2 : x ≤ 9223372036854775807) : ((Int64.ofInt x).toBitVec.toNat : Int) = x := by
  have hx := BitVec.toInt_eq_toNat_cond (Int64.ofInt x).toBitVec
  rw [Int64.toInt_toBitVec, Int64.toInt_ofInt_of_le (by omega) (by omega)] at hx
  have b1 := (Int64.ofInt x).toBitVec.isLt
  generalize (Int64.ofInt x).toBitVec.toNat = t at *
  split at hx <;> omega
theorem hb_lushr16 {x : Int} (h1 : 0 ≤ x) (h2 : x ≤ 9223372036854775807) : hb_lushr x 16 = x / 65536 := by
  unfold hb_lushr
  dsimp only
  have hx := hb_nat64 h1 h2
  have hz := BitVec.toInt_eq_toNat_cond (((Int64.ofInt x).toUInt64 >>> ((Int32.ofInt 16).toInt64.toUInt64 &&& Int64.toUInt64 63)).toInt64).toBitVec
  have h3 : (((Int64.ofInt x).toUInt64 >>> ((Int32.ofInt 16).toInt64.toUInt64 &&& Int64.toUInt64 63)).toInt64).toBitVec.toNat = (Int64.ofInt x).toBitVec.toNat / 65536 := by
    show ((Int64.ofInt x).toUInt64 >>> ((Int32.ofInt 16).toInt64.toUInt64 &&& Int64.toUInt64 63)).toNat = (Int64.ofInt x).toUInt64.toNat / 65536
    have e : ((Int32.ofInt 16).toInt64.toUInt64 &&& Int64.toUInt64 63).toNat % 64 = 16 := by decide
    rw [UInt64.toNat_shiftRight, Nat.shiftRight_eq_div_pow, e]
  rw [Int64.toInt_toBitVec, h3] at hz
  generalize (Int64.ofInt x).toBitVec.toNat = t at *
  split at hz <;> omega
theorem hb_lshl16 {x : Int} (h1 : 0 ≤ x) (h2 : x < 140737488355328) : hb_lshl x 16 = x * 65536 := by
  unfold hb_lshl
  dsimp only
  have hx := hb_nat64 h1 (by omega)
  have hz := BitVec.toInt_eq_toNat_cond (Int64.ofInt x <<< ((Int32.ofInt 16).toInt64 &&& 63)).toBitVec
  have h3 : (Int64.ofInt x <<< ((Int32.ofInt 16).toInt64 &&& 63)).toBitVec.toNat = (Int64.ofInt x).toBitVec.toNat * 65536 := by
    have e : (((Int32.ofInt 16).toInt64 &&& 63 : Int64).toBitVec.smod 64).toNat = 16 := by decide
    rw [Int64.toBitVec_shiftLeft, BitVec.shiftLeft_eq', BitVec.toNat_shiftLeft, e, Nat.shiftLeft_eq]
    exact Nat.mod_eq_of_lt (by omega)
  rw [Int64.toInt_toBitVec, h3] at hz
  generalize (Int64.ofInt x).toBitVec.toNat = t at *
  split at hz <;> omega
theorem hb_lor16 {x y : Int} (h : x % 65536 = 0) (h1 : 0 ≤ x) (h2 : x ≤ 9223372036854775807) (h3 : 0 ≤ y) (h4 : y < 65536) : hb_lor x y = x + y := by
  unfold hb_lor
  dsimp only
  have hx := hb_nat64 h1 h2
  have hy := hb_nat64 h3 (by omega)
  have hz := BitVec.toInt_eq_toNat_cond (Int64.ofInt x ||| Int64.ofInt y).toBitVec
  have h5 : (Int64.ofInt x ||| Int64.ofInt y).toBitVec.toNat = (Int64.ofInt x).toBitVec.toNat + (Int64.ofInt y).toBitVec.toNat := by
    rw [Int64.toBitVec_or, BitVec.toNat_or]
    have e := Nat.two_pow_add_eq_or_of_lt (i := 16) (b := (Int64.ofInt y).toBitVec.toNat) (by omega) ((Int64.ofInt x).toBitVec.toNat / 65536)
    have e2 : 2 ^ 16 * ((Int64.ofInt x).toBitVec.toNat / 65536) = (Int64.ofInt x).toBitVec.toNat := by omega
    rw [e2] at e
    exact e.symm
  rw [Int64.toInt_toBitVec, h5] at hz
  generalize (Int64.ofInt x).toBitVec.toNat = s at *
  generalize (Int64.ofInt y).toBitVec.toNat = t at *
  split at hz <;> omega
end C51b
