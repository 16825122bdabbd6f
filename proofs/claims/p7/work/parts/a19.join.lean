/-! what an instruction makes; a run of code, out of arrays -/
def yfitI (v : Int) : Option Int := if -2147483648 ≤ v ∧ v ≤ 2147483647 then some v else none
theorem yfitI_s {v : Int} (h : -2147483648 ≤ v ∧ v ≤ 2147483647) : yfitI v = some v := if_pos h
theorem yfitI_n {v : Int} (h : v < -2147483648 ∨ 2147483647 < v) : yfitI v = none := if_neg (by omega)
def yjoin (o a b : Int) : Option Int := if o = 27 then yfitI (a + b) else if o = 28 then yfitI (a - b) else if o = 29 then yfitI (a * b) else if o = 15 then some (if a ≤ b then a else b) else if o = 16 then some (if b ≤ a then a else b) else if o = 17 then (if 0 < b then some (a % b) else none)
  else if o = 24 then some (if a = b then 1 else 0) else if o = 21 then some (if a = b then 0 else 1) else if o = 25 then some (if a < b then 1 else 0) else if o = 22 then some (if a ≤ b then 1 else 0) else if o = 26 then some (if b < a then 1 else 0) else some (if b ≤ a then 1 else 0)
theorem mul_b31 {a b : Int} (ha : -2147483648 ≤ a ∧ a ≤ 2147483647) (hb : -2147483648 ≤ b ∧ b ≤ 2147483647) : -4611686018427387904 ≤ a * b ∧ a * b ≤ 4611686018427387904 := by
  have h1 : a.natAbs ≤ 2147483648 := by omega
  have h2 : b.natAbs ≤ 2147483648 := by omega
  have h3 : (a * b).natAbs ≤ 4611686018427387904 := by
    rw [Int.natAbs_mul]
    exact Nat.mul_le_mul h1 h2
  omega
theorem em_le {x y : Int} (hx : 0 ≤ x) (hy : 0 < y) : x % y ≤ x := by
  have h := Int.mul_ediv_add_emod x y
  have h2 := Int.ediv_nonneg hx (show 0 ≤ y by omega)
  have h3 := Int.mul_nonneg (show 0 ≤ y by omega) h2
  omega
theorem tm_b {x y : Int} (hy : 0 < y) : (0 ≤ x → 0 ≤ Int.tmod x y ∧ Int.tmod x y ≤ x) ∧ (x < 0 → x ≤ Int.tmod x y ∧ Int.tmod x y ≤ 0) := by
  constructor
  · intro h
    rw [Int.tmod_eq_emod_of_nonneg h]
    exact ⟨Int.emod_nonneg x (by omega), em_le h hy⟩
  · intro h
    have e : Int.tmod x y = -(Int.tmod (-x) y) := by rw [Int.neg_tmod]; omega
    rw [e, Int.tmod_eq_emod_of_nonneg (show 0 ≤ -x by omega)]
    have a := Int.emod_nonneg (-x) (show y ≠ 0 by omega)
    have b := em_le (show 0 ≤ -x by omega) hy
    omega
theorem hb_rem_t {x y : Int} (hx : -2147483648 ≤ x ∧ x ≤ 2147483647) (hy : 0 < y ∧ y ≤ 2147483647) : hb_rem x y = Int.tmod x y := by
  have ex : (Int32.ofInt x).toInt = x := Int32.toInt_ofInt_of_le hx.1 (by omega)
  have ey : (Int32.ofInt y).toInt = y := Int32.toInt_ofInt_of_le (by omega) (by omega)
  have b := tm_b (x := x) hy.1
  have e := Int.mul_tdiv_add_tmod x y
  have d : (Int.tdiv x y).natAbs ≤ x.natAbs := by
    rw [Int.natAbs_tdiv]
    exact Nat.div_le_self _ _
  have d2 : -2147483648 ≤ Int.tdiv x y ∧ Int.tdiv x y ≤ 2147483648 := by omega
  have d3 : (Int.tdiv x y).bmod (2 ^ 32) * y = Int.tdiv x y * y := by
    by_cases c : Int.tdiv x y = 2147483648
    · exfalso
      rw [c] at e
      have : y * 2147483648 ≥ 2147483648 := by omega
      omega
    · rw [Int.bmod_eq_of_le (by omega) (by omega)]
  have m : Int.tdiv x y * y = x - Int.tmod x y := by
    rw [Int.mul_comm]
    omega
  unfold hb_rem
  dsimp only
  rw [Int32.toInt_sub, Int32.toInt_mul, Int32.toInt_div, ex, ey, d3, m]
  rw [Int.bmod_eq_of_le (n := x - Int.tmod x y) (by omega) (by omega)]
  rw [Int.bmod_eq_of_le (by omega) (by omega)]
  omega
theorem hb_xor_n {x y : Int} (hx : -2147483648 ≤ x ∧ x ≤ 2147483647) (hy : 0 < y ∧ y ≤ 2147483647) : hb_xor x y < 0 ↔ x < 0 := by
  have key : ∀ a b : BitVec 32, b.msb = false → ((a ^^^ b).toInt < 0 ↔ a.toInt < 0) := by
    intro a b hb
    have h1 : ∀ z : BitVec 32, z.toInt < 0 ↔ z.msb = true := by
      intro z
      rw [BitVec.msb_eq_toInt]
      simp
    rw [h1, h1, BitVec.msb_xor, hb, Bool.xor_false]
  have e1 : (Int32.ofInt x).toBitVec.toInt = x := by
    rw [Int32.toInt_toBitVec]
    exact Int32.toInt_ofInt_of_le hx.1 (by omega)
  have e2 : (Int32.ofInt y).toBitVec.msb = false := by
    rw [BitVec.msb_eq_toInt, Int32.toInt_toBitVec, Int32.toInt_ofInt_of_le (by omega) (by omega)]
    simp
    omega
  have k := key (Int32.ofInt x).toBitVec (Int32.ofInt y).toBitVec e2
  rw [e1] at k
  exact k
/-- the rest of a division whose divisor is positive -/
theorem fm_p {x y : Int} (h0 : 0 ≤ x) : Int.tmod x y = x % y := Int.tmod_eq_emod_of_nonneg h0
theorem fm_n {x y : Int} (hx : x < 0) (hy : 0 < y) : (Int.tmod x y = 0 → x % y = 0) ∧ (¬ Int.tmod x y = 0 → x % y = Int.tmod x y + y ∧ -y < Int.tmod x y ∧ Int.tmod x y ≤ 0) := by
  have h1 := Int.tmod_eq_emod (a := x) (b := y)
  have h2 := Int.emod_nonneg x (show y ≠ 0 by omega)
  have h3 := Int.emod_lt_of_pos x hy
  have h4 : (y.natAbs : Int) = y := by omega
  by_cases c : 0 ≤ x ∨ y ∣ x
  · rw [if_pos c] at h1
    rcases c with c | c
    · omega
    · have := Int.emod_eq_zero_of_dvd c
      omega
  · rw [if_neg c] at h1
    have h5 : ¬ x % y = 0 := fun z => c (Or.inr (Int.dvd_of_emod_eq_zero z))
    omega
/-- a number of 32 bits -/
def w3y (x : Int) : Int := (x + 2147483648) % 4294967296 - 2147483648
theorem w3y_of {x z q : Int} (hz : -2147483648 ≤ z ∧ z ≤ 2147483647) (h : z = x + 4294967296 * q) : z = w3y x := by
  unfold w3y
  omega
theorem w3y_in {x : Int} (hz : -2147483648 ≤ x ∧ x ≤ 2147483647) : w3y x = x := by
  unfold w3y
  omega
def cR (op wi lo : Int → Int) (used : Int) : Nat → Int → Int → (Int → Int) → Option Int
  | 0, _, _, _ => none
  | f + 1, nx, tp, S => if nx < 0 ∨ used ≤ nx ∨ tp < 1 ∨ 248 ≤ tp + 1 then none
    else if op nx = 44 then some (S tp)
    else if op nx = 3 then cR op wi lo used f (nx + 1) (tp + 1) (hw_up S (tp + 1) (wi nx))
    else if op nx = 2 then cR op wi lo used f (nx + 1) (tp + 1) (hw_up S (tp + 1) (lo (wi nx)))
    else if op nx = 31 then cR op wi lo used f (nx + 1) tp (hw_up S tp (w3y (1 - S tp)))
    else if op nx = 43 then (match yjoin 28 0 (S tp) with
      | none => none
      | some z => cR op wi lo used f (nx + 1) tp (hw_up S tp z))
    else if op nx = 35 then cR op wi lo used f (wi nx) tp S
    else if op nx = 32 ∨ op nx = 33 ∨ op nx = 20 ∨ op nx = 34 then (if (¬ S tp = 0 ∧ op nx = 33) ∨ (S tp = 0 ∧ ¬ op nx = 33) then (if op nx = 20 then cR op wi lo used f (wi nx) tp (hw_up S tp 1) else if op nx = 34 then cR op wi lo used f (wi nx) (tp - 1) S else cR op wi lo used f (wi nx) tp S) else cR op wi lo used f (nx + 1) (tp - 1) S)
    else (match yjoin (op nx) (S (tp - 1)) (S tp) with
      | none => none
      | some z => cR op wi lo used f (nx + 1) (tp - 1) (hw_up S (tp - 1) z))
def cRi (op wi lo : Int → Int) (used i nx tp : Int) (S : Int → Int) : Option Int := cR op wi lo used (1501 - i).toNat nx tp S
section CR
variable {op wi lo S : Int → Int} {used i i' nx tp o v : Int} {V : Option Int}
theorem cr_u (h : i < 1501) : cRi op wi lo used i nx tp S = (if nx < 0 ∨ used ≤ nx ∨ tp < 1 ∨ 248 ≤ tp + 1 then none
    else if op nx = 44 then some (S tp)
    else if op nx = 3 then cRi op wi lo used (i + 1) (nx + 1) (tp + 1) (hw_up S (tp + 1) (wi nx))
    else if op nx = 2 then cRi op wi lo used (i + 1) (nx + 1) (tp + 1) (hw_up S (tp + 1) (lo (wi nx)))
    else if op nx = 31 then cRi op wi lo used (i + 1) (nx + 1) tp (hw_up S tp (w3y (1 - S tp)))
    else if op nx = 43 then (match yjoin 28 0 (S tp) with
      | none => none
      | some z => cRi op wi lo used (i + 1) (nx + 1) tp (hw_up S tp z))
    else if op nx = 35 then cRi op wi lo used (i + 1) (wi nx) tp S
    else if op nx = 32 ∨ op nx = 33 ∨ op nx = 20 ∨ op nx = 34 then (if (¬ S tp = 0 ∧ op nx = 33) ∨ (S tp = 0 ∧ ¬ op nx = 33) then (if op nx = 20 then cRi op wi lo used (i + 1) (wi nx) tp (hw_up S tp 1) else if op nx = 34 then cRi op wi lo used (i + 1) (wi nx) (tp - 1) S else cRi op wi lo used (i + 1) (wi nx) tp S) else cRi op wi lo used (i + 1) (nx + 1) (tp - 1) S)
    else (match yjoin (op nx) (S (tp - 1)) (S tp) with
      | none => none
      | some z => cRi op wi lo used (i + 1) (nx + 1) (tp - 1) (hw_up S (tp - 1) z))) := by
  unfold cRi
  rw [show (1501 - i).toNat = (1501 - (i + 1)).toNat + 1 by omega]
  rfl
theorem cr_e (h0 : V = cRi op wi lo used i nx tp S) (h : 1501 ≤ i ∨ nx < 0 ∨ used ≤ nx ∨ tp < 1 ∨ 248 ≤ tp + 1) : V = none := by
  rw [h0]
  by_cases g : i < 1501
  · rw [cr_u g, if_pos (by omega)]
  · unfold cRi
    rw [show (1501 - i).toNat = 0 by omega]
    rfl
theorem cr_stop (h0 : V = cRi op wi lo used i nx tp S) (hi : i < 1501) (hb : ¬ (nx < 0 ∨ used ≤ nx ∨ tp < 1 ∨ 248 ≤ tp + 1)) (ho : op nx = 44) : V = some (S tp) := by
  rw [h0, cr_u hi, if_neg hb, if_pos ho]
theorem cr_int {nx' tp' : Int} (h0 : V = cRi op wi lo used i nx tp S) (hi : i < 1501) (hb : ¬ (nx < 0 ∨ used ≤ nx ∨ tp < 1 ∨ 248 ≤ tp + 1)) (ho : op nx = 3) (hn : nx' = nx + 1) (ht : tp' = tp + 1) (hi' : i' = i + 1) : V = cRi op wi lo used i' nx' tp' (hw_up S tp' (wi nx)) := by
  subst hn ht hi'
  rw [h0, cr_u hi, if_neg hb, if_neg (by omega), if_pos ho]
theorem cr_nam {nx' tp' x : Int} (h0 : V = cRi op wi lo used i nx tp S) (hi : i < 1501) (hb : ¬ (nx < 0 ∨ used ≤ nx ∨ tp < 1 ∨ 248 ≤ tp + 1)) (ho : op nx = 2) (hn : nx' = nx + 1) (ht : tp' = tp + 1) (hi' : i' = i + 1) (hx : x = lo (wi nx)) : V = cRi op wi lo used i' nx' tp' (hw_up S tp' x) := by
  subst hn ht hi'
  have e : lo (wi nx) = x := hx.symm
  rw [h0, cr_u hi, if_neg hb, if_neg (by omega), if_neg (by omega), if_pos ho, e]
theorem cr_not {nx' z : Int} (h0 : V = cRi op wi lo used i nx tp S) (hi : i < 1501) (hb : ¬ (nx < 0 ∨ used ≤ nx ∨ tp < 1 ∨ 248 ≤ tp + 1)) (ho : op nx = 31) (hn : nx' = nx + 1) (hi' : i' = i + 1) (hz : z = w3y (1 - S tp)) : V = cRi op wi lo used i' nx' tp (hw_up S tp z) := by
  subst hn hi' hz
  rw [h0, cr_u hi, if_neg hb, if_neg (by omega), if_neg (by omega), if_neg (by omega), if_pos ho]
theorem cr_neg {nx' z : Int} (h0 : V = cRi op wi lo used i nx tp S) (hi : i < 1501) (hb : ¬ (nx < 0 ∨ used ≤ nx ∨ tp < 1 ∨ 248 ≤ tp + 1)) (hj : yjoin 28 0 (S tp) = some z) (ho : op nx = 43) (hn : nx' = nx + 1) (hi' : i' = i + 1) : V = cRi op wi lo used i' nx' tp (hw_up S tp z) := by
  subst hn hi'
  rw [h0, cr_u hi, if_neg hb, if_neg (by omega), if_neg (by omega), if_neg (by omega), if_neg (by omega), if_pos ho, hj]
theorem cr_negn (h0 : V = cRi op wi lo used i nx tp S) (hi : i < 1501) (hb : ¬ (nx < 0 ∨ used ≤ nx ∨ tp < 1 ∨ 248 ≤ tp + 1)) (hj : yjoin 28 0 (S tp) = none) (ho : op nx = 43) : V = none := by
  rw [h0, cr_u hi, if_neg hb, if_neg (by omega), if_neg (by omega), if_neg (by omega), if_neg (by omega), if_pos ho, hj]
theorem cr_col {nx' : Int} (h0 : V = cRi op wi lo used i nx tp S) (hi : i < 1501) (hb : ¬ (nx < 0 ∨ used ≤ nx ∨ tp < 1 ∨ 248 ≤ tp + 1)) (ho : op nx = 35) (hn : nx' = wi nx) (hi' : i' = i + 1) : V = cRi op wi lo used i' nx' tp S := by
  subst hn hi'
  rw [h0, cr_u hi, if_neg hb, if_neg (by omega), if_neg (by omega), if_neg (by omega), if_neg (by omega), if_neg (by omega), if_pos ho]
theorem cr_jmp {nx' tp' : Int} {S' : Int → Int} (h0 : V = cRi op wi lo used i nx tp S) (hi : i < 1501) (hb : ¬ (nx < 0 ∨ used ≤ nx ∨ tp < 1 ∨ 248 ≤ tp + 1)) (ho : op nx = 32 ∨ op nx = 33 ∨ op nx = 20 ∨ op nx = 34) (hi' : i' = i + 1)
    (hc : ((¬ S tp = 0 ∧ op nx = 33) ∨ (S tp = 0 ∧ ¬ op nx = 33)) ∧ nx' = wi nx ∧ ((op nx = 20 ∧ tp' = tp ∧ S' = hw_up S tp 1) ∨ (op nx = 34 ∧ tp' = tp - 1 ∧ S' = S) ∨ (¬ op nx = 20 ∧ ¬ op nx = 34 ∧ tp' = tp ∧ S' = S)) ∨ ¬ ((¬ S tp = 0 ∧ op nx = 33) ∨ (S tp = 0 ∧ ¬ op nx = 33)) ∧ nx' = nx + 1 ∧ tp' = tp - 1 ∧ S' = S) : V = cRi op wi lo used i' nx' tp' S' := by
  subst hi'
  rw [h0, cr_u hi, if_neg hb, if_neg (by omega), if_neg (by omega), if_neg (by omega), if_neg (by omega), if_neg (by omega), if_neg (by omega), if_pos ho]
  rcases hc with ⟨c1, c2, c3⟩ | ⟨c1, c2, c3, c4⟩
  · rw [if_pos c1, c2]
    rcases c3 with ⟨d1, d2, d3⟩ | ⟨d1, d2, d3⟩ | ⟨d1, d2, d3, d4⟩
    · rw [if_pos d1, d2, d3]
    · rw [if_neg (by omega), if_pos d1, d2, d3]
    · rw [if_neg d1, if_neg d2, d3, d4]
  · rw [if_neg c1, c2, c3, c4]
theorem cr_bin {nx' tp' z : Int} (h0 : V = cRi op wi lo used i nx tp S) (hi : i < 1501) (hb : ¬ (nx < 0 ∨ used ≤ nx ∨ tp < 1 ∨ 248 ≤ tp + 1)) (hj : yjoin (op nx) (S tp') (S (tp' + 1)) = some z) (hn : nx' = nx + 1) (ht : tp' = tp - 1) (hi' : i' = i + 1) (ho : ¬ op nx = 44 ∧ ¬ op nx = 3 ∧ ¬ op nx = 2 ∧ ¬ op nx = 31 ∧ ¬ op nx = 43 ∧ ¬ op nx = 35 ∧ ¬ (op nx = 32 ∨ op nx = 33 ∨ op nx = 20 ∨ op nx = 34)) : V = cRi op wi lo used i' nx' tp' (hw_up S tp' z) := by
  subst hn hi' ht
  rw [show tp - 1 + 1 = tp by omega] at hj
  rw [h0, cr_u hi, if_neg hb, if_neg ho.1, if_neg ho.2.1, if_neg ho.2.2.1, if_neg ho.2.2.2.1, if_neg ho.2.2.2.2.1, if_neg ho.2.2.2.2.2.1, if_neg ho.2.2.2.2.2.2, hj]
theorem cr_binn {tp' : Int} (h0 : V = cRi op wi lo used i nx tp S) (hi : i < 1501) (hb : ¬ (nx < 0 ∨ used ≤ nx ∨ tp < 1 ∨ 248 ≤ tp + 1)) (hj : yjoin (op nx) (S tp') (S (tp' + 1)) = none) (ht : tp' = tp - 1) (ho : ¬ op nx = 44 ∧ ¬ op nx = 3 ∧ ¬ op nx = 2 ∧ ¬ op nx = 31 ∧ ¬ op nx = 43 ∧ ¬ op nx = 35 ∧ ¬ (op nx = 32 ∨ op nx = 33 ∨ op nx = 20 ∨ op nx = 34)) : V = none := by
  subst ht
  rw [show tp - 1 + 1 = tp by omega] at hj
  rw [h0, cr_u hi, if_neg hb, if_neg ho.1, if_neg ho.2.1, if_neg ho.2.2.1, if_neg ho.2.2.2.1, if_neg ho.2.2.2.2.1, if_neg ho.2.2.2.2.2.1, if_neg ho.2.2.2.2.2.2, hj]
end CR
