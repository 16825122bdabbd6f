/-! every script of at most six ints -/
theorem fl_sw (x : Int32) : ∃ q, q < 16 ∧ x &&& (Int8.ofInt 15).toInt32 = Int32.ofNat q := by
  refine ⟨(x &&& (Int8.ofInt 15).toInt32).toBitVec.toNat, ?_, ?_⟩
  · rw [Int32.toBitVec_and, BitVec.toNat_and]
    have e : (Int8.ofInt 15).toInt32.toBitVec.toNat = 15 := by decide +kernel
    rw [e]
    have := Nat.and_le_right (n := x.toBitVec.toNat) (m := 15)
    omega
  · apply Int32.toBitVec.inj
    simp
theorem fl_gl (x y : Int32) {b : Bool} (h : mm_icmp .le x y = b) : mm_icmp .gt x y = !b := by
  subst h
  show decide (y < x) = !decide (x ≤ y)
  by_cases h : x ≤ y
  · rw [decide_eq_true h, decide_eq_false (Int32.not_lt.mpr h)]
    rfl
  · rw [decide_eq_false h, decide_eq_true (Int32.not_le.mp h)]
    rfl
theorem fl_gel (x y : Int32) {b : Bool} (h : mm_icmp .ge x y = b) : mm_icmp .lt x y = !b := by
  subst h
  show decide (x < y) = !decide (y ≤ x)
  by_cases h : y ≤ x
  · rw [decide_eq_true h, decide_eq_false (Int32.not_lt.mpr h)]
    rfl
  · rw [decide_eq_false h, decide_eq_true (Int32.not_le.mp h)]
    rfl
theorem fl_six (xs : Nat → Int32) : fl_Goal 6 xs := by
  obtain ⟨q, hq, H0⟩ := fl_sw (xs 0)
  match q, hq, H0 with
  | 0, _, H0 => exact fl_feed xs H0
  | 1, _, H0 =>
    cases h1 : mm_icmp .lt (xs 1) 0 with
    | true => exact fl_end_a xs H0 h1
    | false =>
      cases h2 : mm_icmp .gt (xs 1) (Int16.ofInt 8192).toInt32 with
      | true => exact fl_end_b xs H0 h2 h1
      | false =>
        cases h3 : mm_icmp .le (xs 1) 0 with
        | false => exact fl_end_c xs H0 h3 h2 h1
        | true => exact fl_end_d xs H0 (Int32.le_antisymm (of_decide_eq_true h3) (Int32.not_lt.mp (of_decide_eq_false h1)))
  | 2, _, H0 => exact fl_wrong xs H0
  | 3, _, H0 => exact fl_explore xs H0
  | 4, _, H0 =>
    cases h1 : mm_icmp .lt (xs 2) 0 with
    | true => exact fl_state_a xs H0 h1
    | false =>
      cases h2 : mm_icmp .le (xs 2) (Int32.ofInt 5) with
      | false => exact fl_state_b xs H0 (fl_gl _ _ h2) h1 h2
      | true => exact fl_state_c xs H0 (fl_gl _ _ h2) h1 h2
  | 5, _, H0 => exact fl_outcome xs H0
  | 6, _, H0 =>
    cases h : mm_icmp .eq (xs 1) 0 with
    | false => exact fl_solve_0 xs H0 h
    | true => exact fl_solve_1 xs H0 h
  | 7, _, H0 =>
    cases h : mm_icmp .eq (xs 1) 0 with
    | false => exact fl_value_0 xs H0 h
    | true => exact fl_value_1 xs H0 h
  | 8, _, H0 =>
    cases h1 : mm_icmp .lt (xs 3) 0 with
    | true =>
      cases h : mm_icmp .eq (xs 1) 0 with
      | false => exact fl_within_0a xs H0 h1 h
      | true => exact fl_within_1a xs H0 h1 h
    | false =>
      cases h2 : mm_icmp .le (xs 3) (Int8.ofInt 12).toInt32 with
      | false =>
        cases h : mm_icmp .eq (xs 1) 0 with
        | false => exact fl_within_0b xs H0 (fl_gl _ _ h2) h1 h h2
        | true => exact fl_within_1b xs H0 (fl_gl _ _ h2) h1 h h2
      | true =>
        cases h : mm_icmp .eq (xs 1) 0 with
        | false => exact fl_within_0c xs H0 (fl_gl _ _ h2) h1 h h2
        | true => exact fl_within_1c xs H0 (fl_gl _ _ h2) h1 h h2
  | 9, _, H0 =>
    cases h1 : mm_icmp .le (lg_cmp ((xs 4).toInt64 <<< ((Int8.ofInt 32).toInt32.toInt64 &&& 63) ||| (xs 5).toInt64 &&& 4294967295) (Int64.ofNat 0)) 0 with
    | true => exact fl_claim_a xs H0 h1
    | false =>
      cases h2 : mm_icmp .ge (lg_cmp ((xs 2).toInt64 <<< ((Int8.ofInt 32).toInt32.toInt64 &&& 63) ||| (xs 3).toInt64 &&& 4294967295) (Int64.ofNat 0)) 0 with
      | false => exact fl_claim_b xs H0 h2 h1
      | true => exact fl_claim_c xs H0 h2 h1
  | 10, _, H0 => exact fl_claimResult xs H0
  | 11, _, H0 =>
    cases h : mm_icmp .eq (xs 1) 0 with
    | false => exact fl_check_0 xs H0 h
    | true => exact fl_check_1 xs H0 h
  | 12, _, H0 =>
    cases h : mm_icmp .eq (xs 1) 0 with
    | false => exact fl_bits_0 xs H0 h
    | true => exact fl_bits_1 xs H0 h
  | 13, _, H0 =>
    cases h1 : mm_icmp .ge (xs 2) 0 with
    | false =>
      cases h : mm_icmp .eq (xs 1) 0 with
      | false => exact fl_part_0a xs H0 h1 h
      | true => exact fl_part_1a xs H0 h1 h
    | true =>
      by_cases hz : xs 2 = 0
      · cases h : mm_icmp .eq (xs 1) 0 with
        | false => exact fl_part_0b xs H0 hz h
        | true => exact fl_part_1b xs H0 hz h
      · have hk : 1 ≤ (xs 2).toInt := by
          have h2 : (0 : Int32).toInt ≤ (xs 2).toInt := Int32.le_iff_toInt_le.mp (of_decide_eq_true h1)
          have h3 : (0 : Int32).toInt = 0 := by decide +kernel
          have h4 : (xs 2).toInt ≠ 0 := fun e => hz (Int32.toInt.inj (by rw [e, h3]))
          omega
        have h5 : mm_icmp .ge (xs 2) 1 = true := by
          refine decide_eq_true (Int32.le_iff_toInt_le.mpr ?_)
          have h3 : (1 : Int32).toInt = 1 := by decide +kernel
          rw [h3]
          exact hk
        cases h : mm_icmp .eq (xs 1) 0 with
        | false => exact fl_part_0c xs H0 hk h1 h h5 (fl_gel _ _ h1)
        | true => exact fl_part_1c xs H0 hk h1 h (fl_gel _ _ h1)
  | 14, _, H0 =>
    cases h1 : mm_icmp .lt (xs 1) 0 with
    | true => exact fl_count_a xs H0 h1
    | false =>
      cases h2 : mm_icmp .le (xs 1) (Int8.ofInt 7).toInt32 with
      | false => exact fl_count_b xs H0 (fl_gl _ _ h2) h1 h2
      | true =>
        cases h3 : mm_icmp .ge (xs 1) (Int32.ofInt 4) with
        | false => exact fl_count_c xs H0 h3 (fl_gl _ _ h2) h1 h2
        | true => exact fl_count_d xs H0 h3 (fl_gl _ _ h2) h1 h2
  | 15, _, H0 => exact fl_none xs H0
  | n + 16, hq, _ => exact absurd hq (by omega)
theorem pg_runs : pg_Runs := by
  intro L xs hL
  replace hL : L ≤ 6 := hL
  match L, hL with
  | 0, _ => exact fl_short0 xs
  | 1, _ => exact fl_short1 xs
  | 2, _ => exact fl_short2 xs
  | 3, _ => exact fl_short3 xs
  | 4, _ => exact fl_short4 xs
  | 5, _ => exact fl_short5 xs
  | 6, _ => exact fl_six xs
  | n + 7, hL => exact absurd hL (by omega)
