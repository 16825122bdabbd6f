/-! one call of each kind on the fresh pair -/
theorem fx_yt {b : Bool} (h : b = true) : (b == true) = true := by rw [h]; rfl
theorem fx_yf {b : Bool} (h : b = false) : (b == false) = true := by rw [h]; rfl
theorem fx_bit {k : Int32} (hk : 1 ≤ k.toInt) (j : Nat) (hj : j < 31) {y : Int64} (hy : y.toInt ≤ 16) : mm_icmp .lt (lg_cmp (31 * k.toInt64 + (Int32.ofNat j).toInt64) y) 0 = false := by
  have h1 : (Int32.ofNat j).toInt64.toInt = (j : Int) := by
    have h2 : ∀ q : Fin 31, (Int32.ofNat q.1).toInt64.toInt = (q.1 : Int) := by decide +kernel
    exact h2 ⟨j, hj⟩
  have hk2 : k.toInt < 2147483648 := Int32.toInt_lt k
  have h3 : (31 * k.toInt64 + (Int32.ofNat j).toInt64).toInt = 31 * k.toInt + (j : Int) := by
    rw [Int64.toInt_add, Int64.toInt_mul, h1, Int32.toInt_toInt64]
    have e1 : (31 : Int64).toInt = 31 := by decide +kernel
    rw [e1]
    have e2 : (31 * k.toInt).bmod (2 ^ 64) = 31 * k.toInt := Int.bmod_eq_of_le (by omega) (by omega)
    rw [e2]
    exact Int.bmod_eq_of_le (by omega) (by omega)
  have h4 : y < 31 * k.toInt64 + (Int32.ofNat j).toInt64 := by
    rw [Int64.lt_iff_toInt_lt, h3]
    omega
  have h5 : lg_cmp (31 * k.toInt64 + (Int32.ofNat j).toInt64) y = 1 := by
    unfold lg_cmp
    exact if_pos h4
  rw [h5]
  rfl
def fl_Goal (L : Nat) (xs : Nat → Int32) : Prop := mm_ex pg_G pg_TT (L, xs) 1001 97 [.ref mm_big] pg_S0 (fun o S => o = .inl (some (.int 1)) ∧ S.1 ≤ 600002 ∧ S.2.1 ≤ 7302232)
set_option maxHeartbeats 8000000 in
set_option maxRecDepth 100000 in
theorem fl_feed (xs : Nat → Int32) (H0 : xs 0 &&& (Int8.ofInt 15).toInt32 = Int32.ofNat 0)   : fl_Goal 6 xs := by
  refine fl_fin (os := [(97, 40, 0)]) (n := 300) (fl_scr rfl rfl rfl rfl rfl rfl) rfl (Nat.le_of_ble_eq_true rfl) (Nat.le_of_ble_eq_true rfl) ?_
  exact ⟨decide_eq_true H0, trivial⟩
set_option maxHeartbeats 8000000 in
set_option maxRecDepth 100000 in
theorem fl_end_a (xs : Nat → Int32) (H0 : xs 0 &&& (Int8.ofInt 15).toInt32 = Int32.ofNat 1)  (h1 : mm_icmp .lt (xs 1) 0 = true) : fl_Goal 6 xs := by
  refine fl_fin (os := [(97, 40, 1), (24, 1, 1), (73, 7, 1)]) (n := 300) (fl_scr rfl rfl rfl rfl rfl rfl) rfl (Nat.le_of_ble_eq_true rfl) (Nat.le_of_ble_eq_true rfl) ?_
  exact ⟨fx_yt h1, fx_yt h1, decide_eq_true H0, trivial⟩
set_option maxHeartbeats 8000000 in
set_option maxRecDepth 100000 in
theorem fl_end_b (xs : Nat → Int32) (H0 : xs 0 &&& (Int8.ofInt 15).toInt32 = Int32.ofNat 1)  (h1 : mm_icmp .gt (xs 1) (Int16.ofInt 8192).toInt32 = true) (h2 : mm_icmp .lt (xs 1) 0 = false) : fl_Goal 6 xs := by
  refine fl_fin (os := [(97, 40, 1), (24, 1, 0), (24, 8, 1), (73, 7, 0), (73, 14, 1)]) (n := 300) (fl_scr rfl rfl rfl rfl rfl rfl) rfl (Nat.le_of_ble_eq_true rfl) (Nat.le_of_ble_eq_true rfl) ?_
  exact ⟨fx_yt h1, fx_yf h2, fx_yt h1, fx_yf h2, decide_eq_true H0, trivial⟩
set_option maxHeartbeats 8000000 in
set_option maxRecDepth 100000 in
theorem fl_end_c (xs : Nat → Int32) (H0 : xs 0 &&& (Int8.ofInt 15).toInt32 = Int32.ofNat 1)  (h1 : mm_icmp .le (xs 1) 0 = false) (h2 : mm_icmp .gt (xs 1) (Int16.ofInt 8192).toInt32 = false) (h3 : mm_icmp .lt (xs 1) 0 = false) : fl_Goal 6 xs := by
  refine fl_fin (os := [(97, 40, 1), (24, 1, 0), (24, 8, 0), (24, 19, 0), (73, 7, 0), (73, 14, 0), (73, 22, 0)]) (n := 300) (fl_scr rfl rfl rfl rfl rfl rfl) rfl (Nat.le_of_ble_eq_true rfl) (Nat.le_of_ble_eq_true rfl) ?_
  exact ⟨fx_yf h1, fx_yf h2, fx_yf h3, fx_yf h1, fx_yf h2, fx_yf h3, decide_eq_true H0, trivial⟩
set_option maxHeartbeats 8000000 in
set_option maxRecDepth 100000 in
theorem fl_end_d (xs : Nat → Int32) (H0 : xs 0 &&& (Int8.ofInt 15).toInt32 = Int32.ofNat 1) (e1 : xs 1 = 0)  : fl_Goal 6 xs := by
  refine fl_fin (os := [(97, 40, 1)]) (n := 300) (fl_scr rfl e1 rfl rfl rfl rfl) rfl (Nat.le_of_ble_eq_true rfl) (Nat.le_of_ble_eq_true rfl) ?_
  exact ⟨decide_eq_true H0, trivial⟩
set_option maxHeartbeats 8000000 in
set_option maxRecDepth 100000 in
theorem fl_wrong (xs : Nat → Int32) (H0 : xs 0 &&& (Int8.ofInt 15).toInt32 = Int32.ofNat 2)   : fl_Goal 6 xs := by
  refine fl_fin (os := [(97, 40, 2)]) (n := 300) (fl_scr rfl rfl rfl rfl rfl rfl) rfl (Nat.le_of_ble_eq_true rfl) (Nat.le_of_ble_eq_true rfl) ?_
  exact ⟨decide_eq_true H0, trivial⟩
set_option maxHeartbeats 8000000 in
set_option maxRecDepth 100000 in
theorem fl_explore (xs : Nat → Int32) (H0 : xs 0 &&& (Int8.ofInt 15).toInt32 = Int32.ofNat 3)   : fl_Goal 6 xs := by
  refine fl_fin (os := [(97, 40, 3)]) (n := 300) (fl_scr rfl rfl rfl rfl rfl rfl) rfl (Nat.le_of_ble_eq_true rfl) (Nat.le_of_ble_eq_true rfl) ?_
  exact ⟨decide_eq_true H0, trivial⟩
set_option maxHeartbeats 8000000 in
set_option maxRecDepth 100000 in
theorem fl_state_a (xs : Nat → Int32) (H0 : xs 0 &&& (Int8.ofInt 15).toInt32 = Int32.ofNat 4)  (h1 : mm_icmp .lt (xs 2) 0 = true) : fl_Goal 6 xs := by
  refine fl_fin (os := [(97, 40, 4), (43, 1, 1), (74, 2, 1)]) (n := 300) (fl_scr rfl rfl rfl rfl rfl rfl) rfl (Nat.le_of_ble_eq_true rfl) (Nat.le_of_ble_eq_true rfl) ?_
  exact ⟨fx_yt h1, fx_yt h1, decide_eq_true H0, trivial⟩
set_option maxHeartbeats 8000000 in
set_option maxRecDepth 100000 in
theorem fl_state_b (xs : Nat → Int32) (H0 : xs 0 &&& (Int8.ofInt 15).toInt32 = Int32.ofNat 4)  (h1 : mm_icmp .gt (xs 2) (Int32.ofInt 5) = true) (h2 : mm_icmp .lt (xs 2) 0 = false) (h3 : mm_icmp .le (xs 2) (Int32.ofInt 5) = false) : fl_Goal 6 xs := by
  refine fl_fin (os := [(97, 40, 4), (43, 1, 0), (43, 6, 0), (74, 2, 0), (74, 7, 1)]) (n := 300) (fl_scr rfl rfl rfl rfl rfl rfl) rfl (Nat.le_of_ble_eq_true rfl) (Nat.le_of_ble_eq_true rfl) ?_
  exact ⟨fx_yt h1, fx_yf h2, fx_yf h3, fx_yf h2, decide_eq_true H0, trivial⟩
set_option maxHeartbeats 8000000 in
set_option maxRecDepth 100000 in
theorem fl_state_c (xs : Nat → Int32) (H0 : xs 0 &&& (Int8.ofInt 15).toInt32 = Int32.ofNat 4)  (h1 : mm_icmp .gt (xs 2) (Int32.ofInt 5) = false) (h2 : mm_icmp .lt (xs 2) 0 = false) (h3 : mm_icmp .le (xs 2) (Int32.ofInt 5) = true) : fl_Goal 6 xs := by
  refine fl_fin (os := [(97, 40, 4), (43, 1, 0), (43, 6, 1), (74, 2, 0), (74, 7, 0)]) (n := 300) (fl_scr rfl rfl rfl rfl rfl rfl) rfl (Nat.le_of_ble_eq_true rfl) (Nat.le_of_ble_eq_true rfl) ?_
  exact ⟨fx_yf h1, fx_yf h2, fx_yt h3, fx_yf h2, decide_eq_true H0, trivial⟩
set_option maxHeartbeats 8000000 in
set_option maxRecDepth 100000 in
theorem fl_outcome (xs : Nat → Int32) (H0 : xs 0 &&& (Int8.ofInt 15).toInt32 = Int32.ofNat 5)   : fl_Goal 6 xs := by
  refine fl_fin (os := [(97, 40, 5)]) (n := 300) (fl_scr rfl rfl rfl rfl rfl rfl) rfl (Nat.le_of_ble_eq_true rfl) (Nat.le_of_ble_eq_true rfl) ?_
  exact ⟨decide_eq_true H0, trivial⟩
set_option maxHeartbeats 8000000 in
set_option maxRecDepth 100000 in
theorem fl_solve_0 (xs : Nat → Int32) (H0 : xs 0 &&& (Int8.ofInt 15).toInt32 = Int32.ofNat 6)  (h1 : mm_icmp .eq (xs 1) 0 = false) : fl_Goal 6 xs := by
  refine fl_fin (os := [(97, 40, 6), (97, 500, 0), (97, 521, 0)]) (n := 300) (fl_scr rfl rfl rfl rfl rfl rfl) rfl (Nat.le_of_ble_eq_true rfl) (Nat.le_of_ble_eq_true rfl) ?_
  exact ⟨fx_yf h1, fx_yf h1, decide_eq_true H0, trivial⟩
set_option maxHeartbeats 8000000 in
set_option maxRecDepth 100000 in
theorem fl_solve_1 (xs : Nat → Int32) (H0 : xs 0 &&& (Int8.ofInt 15).toInt32 = Int32.ofNat 6)  (h1 : mm_icmp .eq (xs 1) 0 = true) : fl_Goal 6 xs := by
  refine fl_fin (os := [(97, 40, 6), (97, 500, 1), (97, 521, 1)]) (n := 300) (fl_scr rfl rfl rfl rfl rfl rfl) rfl (Nat.le_of_ble_eq_true rfl) (Nat.le_of_ble_eq_true rfl) ?_
  exact ⟨fx_yt h1, fx_yt h1, decide_eq_true H0, trivial⟩
set_option maxHeartbeats 8000000 in
set_option maxRecDepth 100000 in
theorem fl_value_0 (xs : Nat → Int32) (H0 : xs 0 &&& (Int8.ofInt 15).toInt32 = Int32.ofNat 7)  (h1 : mm_icmp .eq (xs 1) 0 = false) : fl_Goal 6 xs := by
  refine fl_fin (os := [(97, 40, 7), (97, 572, 0), (97, 599, 0)]) (n := 300) (fl_scr rfl rfl rfl rfl rfl rfl) rfl (Nat.le_of_ble_eq_true rfl) (Nat.le_of_ble_eq_true rfl) ?_
  exact ⟨fx_yf h1, fx_yf h1, decide_eq_true H0, trivial⟩
set_option maxHeartbeats 8000000 in
set_option maxRecDepth 100000 in
theorem fl_value_1 (xs : Nat → Int32) (H0 : xs 0 &&& (Int8.ofInt 15).toInt32 = Int32.ofNat 7)  (h1 : mm_icmp .eq (xs 1) 0 = true) : fl_Goal 6 xs := by
  refine fl_fin (os := [(97, 40, 7), (97, 572, 1), (97, 599, 1)]) (n := 300) (fl_scr rfl rfl rfl rfl rfl rfl) rfl (Nat.le_of_ble_eq_true rfl) (Nat.le_of_ble_eq_true rfl) ?_
  exact ⟨fx_yt h1, fx_yt h1, decide_eq_true H0, trivial⟩
set_option maxHeartbeats 8000000 in
set_option maxRecDepth 100000 in
theorem fl_within_0a (xs : Nat → Int32) (H0 : xs 0 &&& (Int8.ofInt 15).toInt32 = Int32.ofNat 8)  (h1 : mm_icmp .lt (xs 3) 0 = true) (h2 : mm_icmp .eq (xs 1) 0 = false) : fl_Goal 6 xs := by
  refine fl_fin (os := [(97, 40, 8), (97, 663, 0), (97, 696, 0), (53, 1, 1), (74, 2, 1)]) (n := 300) (fl_scr rfl rfl rfl rfl rfl rfl) rfl (Nat.le_of_ble_eq_true rfl) (Nat.le_of_ble_eq_true rfl) ?_
  exact ⟨fx_yt h1, fx_yf h2, fx_yt h1, fx_yf h2, decide_eq_true H0, trivial⟩
set_option maxHeartbeats 8000000 in
set_option maxRecDepth 100000 in
theorem fl_within_0b (xs : Nat → Int32) (H0 : xs 0 &&& (Int8.ofInt 15).toInt32 = Int32.ofNat 8)  (h1 : mm_icmp .gt (xs 3) (Int8.ofInt 12).toInt32 = true) (h2 : mm_icmp .lt (xs 3) 0 = false) (h3 : mm_icmp .eq (xs 1) 0 = false) (h4 : mm_icmp .le (xs 3) (Int8.ofInt 12).toInt32 = false) : fl_Goal 6 xs := by
  refine fl_fin (os := [(97, 40, 8), (97, 663, 0), (97, 696, 0), (53, 1, 0), (53, 7, 0), (74, 2, 0), (74, 7, 1)]) (n := 300) (fl_scr rfl rfl rfl rfl rfl rfl) rfl (Nat.le_of_ble_eq_true rfl) (Nat.le_of_ble_eq_true rfl) ?_
  exact ⟨fx_yt h1, fx_yf h2, fx_yf h3, fx_yf h4, fx_yf h2, fx_yf h3, decide_eq_true H0, trivial⟩
set_option maxHeartbeats 8000000 in
set_option maxRecDepth 100000 in
theorem fl_within_0c (xs : Nat → Int32) (H0 : xs 0 &&& (Int8.ofInt 15).toInt32 = Int32.ofNat 8)  (h1 : mm_icmp .gt (xs 3) (Int8.ofInt 12).toInt32 = false) (h2 : mm_icmp .lt (xs 3) 0 = false) (h3 : mm_icmp .eq (xs 1) 0 = false) (h4 : mm_icmp .le (xs 3) (Int8.ofInt 12).toInt32 = true) : fl_Goal 6 xs := by
  refine fl_fin (os := [(97, 40, 8), (97, 663, 0), (97, 696, 0), (53, 1, 0), (53, 7, 1), (74, 2, 0), (74, 7, 0)]) (n := 300) (fl_scr rfl rfl rfl rfl rfl rfl) rfl (Nat.le_of_ble_eq_true rfl) (Nat.le_of_ble_eq_true rfl) ?_
  exact ⟨fx_yf h1, fx_yf h2, fx_yf h3, fx_yt h4, fx_yf h2, fx_yf h3, decide_eq_true H0, trivial⟩
set_option maxHeartbeats 8000000 in
set_option maxRecDepth 100000 in
theorem fl_within_1a (xs : Nat → Int32) (H0 : xs 0 &&& (Int8.ofInt 15).toInt32 = Int32.ofNat 8)  (h1 : mm_icmp .lt (xs 3) 0 = true) (h2 : mm_icmp .eq (xs 1) 0 = true) : fl_Goal 6 xs := by
  refine fl_fin (os := [(97, 40, 8), (97, 663, 1), (97, 696, 1), (53, 1, 1), (74, 2, 1)]) (n := 300) (fl_scr rfl rfl rfl rfl rfl rfl) rfl (Nat.le_of_ble_eq_true rfl) (Nat.le_of_ble_eq_true rfl) ?_
  exact ⟨fx_yt h1, fx_yt h2, fx_yt h1, fx_yt h2, decide_eq_true H0, trivial⟩
set_option maxHeartbeats 8000000 in
set_option maxRecDepth 100000 in
theorem fl_within_1b (xs : Nat → Int32) (H0 : xs 0 &&& (Int8.ofInt 15).toInt32 = Int32.ofNat 8)  (h1 : mm_icmp .gt (xs 3) (Int8.ofInt 12).toInt32 = true) (h2 : mm_icmp .lt (xs 3) 0 = false) (h3 : mm_icmp .eq (xs 1) 0 = true) (h4 : mm_icmp .le (xs 3) (Int8.ofInt 12).toInt32 = false) : fl_Goal 6 xs := by
  refine fl_fin (os := [(97, 40, 8), (97, 663, 1), (97, 696, 1), (53, 1, 0), (53, 7, 0), (74, 2, 0), (74, 7, 1)]) (n := 300) (fl_scr rfl rfl rfl rfl rfl rfl) rfl (Nat.le_of_ble_eq_true rfl) (Nat.le_of_ble_eq_true rfl) ?_
  exact ⟨fx_yt h1, fx_yf h2, fx_yt h3, fx_yf h4, fx_yf h2, fx_yt h3, decide_eq_true H0, trivial⟩
set_option maxHeartbeats 8000000 in
set_option maxRecDepth 100000 in
theorem fl_within_1c (xs : Nat → Int32) (H0 : xs 0 &&& (Int8.ofInt 15).toInt32 = Int32.ofNat 8)  (h1 : mm_icmp .gt (xs 3) (Int8.ofInt 12).toInt32 = false) (h2 : mm_icmp .lt (xs 3) 0 = false) (h3 : mm_icmp .eq (xs 1) 0 = true) (h4 : mm_icmp .le (xs 3) (Int8.ofInt 12).toInt32 = true) : fl_Goal 6 xs := by
  refine fl_fin (os := [(97, 40, 8), (97, 663, 1), (97, 696, 1), (53, 1, 0), (53, 7, 1), (74, 2, 0), (74, 7, 0)]) (n := 300) (fl_scr rfl rfl rfl rfl rfl rfl) rfl (Nat.le_of_ble_eq_true rfl) (Nat.le_of_ble_eq_true rfl) ?_
  exact ⟨fx_yf h1, fx_yf h2, fx_yt h3, fx_yt h4, fx_yf h2, fx_yt h3, decide_eq_true H0, trivial⟩
set_option maxHeartbeats 8000000 in
set_option maxRecDepth 100000 in
theorem fl_claim_a (xs : Nat → Int32) (H0 : xs 0 &&& (Int8.ofInt 15).toInt32 = Int32.ofNat 9)  (h1 : mm_icmp .le (lg_cmp ((xs 4).toInt64 <<< ((Int8.ofInt 32).toInt32.toInt64 &&& 63) ||| (xs 5).toInt64 &&& 4294967295) (Int64.ofNat 0)) 0 = true) : fl_Goal 6 xs := by
  refine fl_fin (os := [(97, 40, 9), (55, 4, 1), (87, 10, 1)]) (n := 300) (fl_scr rfl rfl rfl rfl rfl rfl) rfl (Nat.le_of_ble_eq_true rfl) (Nat.le_of_ble_eq_true rfl) ?_
  exact ⟨fx_yt h1, fx_yt h1, decide_eq_true H0, trivial⟩
set_option maxHeartbeats 8000000 in
set_option maxRecDepth 100000 in
theorem fl_claim_b (xs : Nat → Int32) (H0 : xs 0 &&& (Int8.ofInt 15).toInt32 = Int32.ofNat 9)  (h1 : mm_icmp .ge (lg_cmp ((xs 2).toInt64 <<< ((Int8.ofInt 32).toInt32.toInt64 &&& 63) ||| (xs 3).toInt64 &&& 4294967295) (Int64.ofNat 0)) 0 = false) (h2 : mm_icmp .le (lg_cmp ((xs 4).toInt64 <<< ((Int8.ofInt 32).toInt32.toInt64 &&& 63) ||| (xs 5).toInt64 &&& 4294967295) (Int64.ofNat 0)) 0 = false) : fl_Goal 6 xs := by
  refine fl_fin (os := [(97, 40, 9), (55, 4, 0), (55, 10, 0), (87, 10, 0), (87, 16, 0)]) (n := 300) (fl_scr rfl rfl rfl rfl rfl rfl) rfl (Nat.le_of_ble_eq_true rfl) (Nat.le_of_ble_eq_true rfl) ?_
  exact ⟨fx_yf h1, fx_yf h2, fx_yf h1, fx_yf h2, decide_eq_true H0, trivial⟩
set_option maxHeartbeats 8000000 in
set_option maxRecDepth 100000 in
theorem fl_claim_c (xs : Nat → Int32) (H0 : xs 0 &&& (Int8.ofInt 15).toInt32 = Int32.ofNat 9)  (h1 : mm_icmp .ge (lg_cmp ((xs 2).toInt64 <<< ((Int8.ofInt 32).toInt32.toInt64 &&& 63) ||| (xs 3).toInt64 &&& 4294967295) (Int64.ofNat 0)) 0 = true) (h2 : mm_icmp .le (lg_cmp ((xs 4).toInt64 <<< ((Int8.ofInt 32).toInt32.toInt64 &&& 63) ||| (xs 5).toInt64 &&& 4294967295) (Int64.ofNat 0)) 0 = false) : fl_Goal 6 xs := by
  refine fl_fin (os := [(97, 40, 9), (55, 4, 0), (55, 10, 1), (87, 10, 0), (87, 16, 1)]) (n := 300) (fl_scr rfl rfl rfl rfl rfl rfl) rfl (Nat.le_of_ble_eq_true rfl) (Nat.le_of_ble_eq_true rfl) ?_
  exact ⟨fx_yt h1, fx_yf h2, fx_yt h1, fx_yf h2, decide_eq_true H0, trivial⟩
set_option maxHeartbeats 8000000 in
set_option maxRecDepth 100000 in
theorem fl_claimResult (xs : Nat → Int32) (H0 : xs 0 &&& (Int8.ofInt 15).toInt32 = Int32.ofNat 10)   : fl_Goal 6 xs := by
  refine fl_fin (os := [(97, 40, 10)]) (n := 300) (fl_scr rfl rfl rfl rfl rfl rfl) rfl (Nat.le_of_ble_eq_true rfl) (Nat.le_of_ble_eq_true rfl) ?_
  exact ⟨decide_eq_true H0, trivial⟩
set_option maxHeartbeats 8000000 in
set_option maxRecDepth 100000 in
theorem fl_check_0 (xs : Nat → Int32) (H0 : xs 0 &&& (Int8.ofInt 15).toInt32 = Int32.ofNat 11)  (h1 : mm_icmp .eq (xs 1) 0 = false) : fl_Goal 6 xs := by
  refine fl_fin (os := [(97, 40, 11), (97, 926, 0), (97, 947, 0)]) (n := 300) (fl_scr rfl rfl rfl rfl rfl rfl) rfl (Nat.le_of_ble_eq_true rfl) (Nat.le_of_ble_eq_true rfl) ?_
  exact ⟨fx_yf h1, fx_yf h1, decide_eq_true H0, trivial⟩
set_option maxHeartbeats 8000000 in
set_option maxRecDepth 100000 in
theorem fl_check_1 (xs : Nat → Int32) (H0 : xs 0 &&& (Int8.ofInt 15).toInt32 = Int32.ofNat 11)  (h1 : mm_icmp .eq (xs 1) 0 = true) : fl_Goal 6 xs := by
  refine fl_fin (os := [(97, 40, 11), (97, 926, 1), (97, 947, 1)]) (n := 300) (fl_scr rfl rfl rfl rfl rfl rfl) rfl (Nat.le_of_ble_eq_true rfl) (Nat.le_of_ble_eq_true rfl) ?_
  exact ⟨fx_yt h1, fx_yt h1, decide_eq_true H0, trivial⟩
set_option maxHeartbeats 8000000 in
set_option maxRecDepth 100000 in
theorem fl_bits_0 (xs : Nat → Int32) (H0 : xs 0 &&& (Int8.ofInt 15).toInt32 = Int32.ofNat 12)  (h1 : mm_icmp .eq (xs 1) 0 = false) : fl_Goal 6 xs := by
  refine fl_fin (os := [(97, 40, 12), (97, 1005, 0), (97, 1023, 0)]) (n := 300) (fl_scr rfl rfl rfl rfl rfl rfl) rfl (Nat.le_of_ble_eq_true rfl) (Nat.le_of_ble_eq_true rfl) ?_
  exact ⟨fx_yf h1, fx_yf h1, decide_eq_true H0, trivial⟩
set_option maxHeartbeats 8000000 in
set_option maxRecDepth 100000 in
theorem fl_bits_1 (xs : Nat → Int32) (H0 : xs 0 &&& (Int8.ofInt 15).toInt32 = Int32.ofNat 12)  (h1 : mm_icmp .eq (xs 1) 0 = true) : fl_Goal 6 xs := by
  refine fl_fin (os := [(97, 40, 12), (97, 1005, 1), (97, 1023, 1)]) (n := 300) (fl_scr rfl rfl rfl rfl rfl rfl) rfl (Nat.le_of_ble_eq_true rfl) (Nat.le_of_ble_eq_true rfl) ?_
  exact ⟨fx_yt h1, fx_yt h1, decide_eq_true H0, trivial⟩
set_option maxHeartbeats 8000000 in
set_option maxRecDepth 100000 in
theorem fl_part_0a (xs : Nat → Int32) (H0 : xs 0 &&& (Int8.ofInt 15).toInt32 = Int32.ofNat 13)  (h1 : mm_icmp .ge (xs 2) 0 = false) (h2 : mm_icmp .eq (xs 1) 0 = false) : fl_Goal 6 xs := by
  refine fl_fin (os := [(97, 40, 13), (97, 1046, 0), (97, 1073, 0), (61, 1, 0), (94, 7, 0)]) (n := 300) (fl_scr rfl rfl rfl rfl rfl rfl) rfl (Nat.le_of_ble_eq_true rfl) (Nat.le_of_ble_eq_true rfl) ?_
  exact ⟨fx_yf h1, fx_yf h2, fx_yf h1, fx_yf h2, decide_eq_true H0, trivial⟩
set_option maxHeartbeats 8000000 in
set_option maxRecDepth 100000 in
theorem fl_part_0b (xs : Nat → Int32) (H0 : xs 0 &&& (Int8.ofInt 15).toInt32 = Int32.ofNat 13) (e2 : xs 2 = 0) (h1 : mm_icmp .eq (xs 1) 0 = false) : fl_Goal 6 xs := by
  refine fl_fin (os := [(97, 40, 13), (97, 1046, 0), (97, 1073, 0)]) (n := 300) (fl_scr rfl rfl e2 rfl rfl rfl) rfl (Nat.le_of_ble_eq_true rfl) (Nat.le_of_ble_eq_true rfl) ?_
  exact ⟨fx_yf h1, fx_yf h1, decide_eq_true H0, trivial⟩
set_option maxHeartbeats 8000000 in
set_option maxRecDepth 100000 in
theorem fl_part_0c (xs : Nat → Int32) (H0 : xs 0 &&& (Int8.ofInt 15).toInt32 = Int32.ofNat 13)  (hk : 1 ≤ (xs 2).toInt) (h1 : mm_icmp .ge (xs 2) 0 = true) (h2 : mm_icmp .eq (xs 1) 0 = false) (h3 : mm_icmp .ge (xs 2) 1 = true) (h4 : mm_icmp .lt (xs 2) 0 = false) : fl_Goal 6 xs := by
  refine fl_fin (os := [(97, 40, 13), (97, 1046, 0), (97, 1073, 0), (61, 1, 1), (18, 1, 0), (18, 9, 1), (94, 7, 1), (95, 11, 0)]) (n := 300) (fl_scr rfl rfl rfl rfl rfl rfl) rfl (Nat.le_of_ble_eq_true rfl) (Nat.le_of_ble_eq_true rfl) ?_
  exact ⟨fx_yf (fx_bit hk 0 (by decide) (by decide +kernel)), fx_yf (fx_bit hk 1 (by decide) (by decide +kernel)), fx_yf (fx_bit hk 2 (by decide) (by decide +kernel)), fx_yf (fx_bit hk 3 (by decide) (by decide +kernel)), fx_yf (fx_bit hk 4 (by decide) (by decide +kernel)), fx_yf (fx_bit hk 5 (by decide) (by decide +kernel)), fx_yf (fx_bit hk 6 (by decide) (by decide +kernel)), fx_yf (fx_bit hk 7 (by decide) (by decide +kernel)), fx_yf (fx_bit hk 8 (by decide) (by decide +kernel)), fx_yf (fx_bit hk 9 (by decide) (by decide +kernel)), fx_yf (fx_bit hk 10 (by decide) (by decide +kernel)), fx_yf (fx_bit hk 11 (by decide) (by decide +kernel)), fx_yf (fx_bit hk 12 (by decide) (by decide +kernel)), fx_yf (fx_bit hk 13 (by decide) (by decide +kernel)), fx_yf (fx_bit hk 14 (by decide) (by decide +kernel)), fx_yf (fx_bit hk 15 (by decide) (by decide +kernel)), fx_yf (fx_bit hk 16 (by decide) (by decide +kernel)), fx_yf (fx_bit hk 17 (by decide) (by decide +kernel)), fx_yf (fx_bit hk 18 (by decide) (by decide +kernel)), fx_yf (fx_bit hk 19 (by decide) (by decide +kernel)), fx_yf (fx_bit hk 20 (by decide) (by decide +kernel)), fx_yf (fx_bit hk 21 (by decide) (by decide +kernel)), fx_yf (fx_bit hk 22 (by decide) (by decide +kernel)), fx_yf (fx_bit hk 23 (by decide) (by decide +kernel)), fx_yf (fx_bit hk 24 (by decide) (by decide +kernel)), fx_yf (fx_bit hk 25 (by decide) (by decide +kernel)), fx_yf (fx_bit hk 26 (by decide) (by decide +kernel)), fx_yf (fx_bit hk 27 (by decide) (by decide +kernel)), fx_yf (fx_bit hk 28 (by decide) (by decide +kernel)), fx_yf (fx_bit hk 29 (by decide) (by decide +kernel)), fx_yf (fx_bit hk 30 (by decide) (by decide +kernel)), fx_yt h1, fx_yf h2, fx_yt h3, fx_yf h4, fx_yt h1, fx_yf h2, decide_eq_true H0, trivial⟩
set_option maxHeartbeats 8000000 in
set_option maxRecDepth 100000 in
theorem fl_part_1a (xs : Nat → Int32) (H0 : xs 0 &&& (Int8.ofInt 15).toInt32 = Int32.ofNat 13)  (h1 : mm_icmp .ge (xs 2) 0 = false) (h2 : mm_icmp .eq (xs 1) 0 = true) : fl_Goal 6 xs := by
  refine fl_fin (os := [(97, 40, 13), (97, 1046, 1), (97, 1073, 1), (61, 1, 0), (94, 7, 0)]) (n := 300) (fl_scr rfl rfl rfl rfl rfl rfl) rfl (Nat.le_of_ble_eq_true rfl) (Nat.le_of_ble_eq_true rfl) ?_
  exact ⟨fx_yf h1, fx_yt h2, fx_yf h1, fx_yt h2, decide_eq_true H0, trivial⟩
set_option maxHeartbeats 8000000 in
set_option maxRecDepth 100000 in
theorem fl_part_1b (xs : Nat → Int32) (H0 : xs 0 &&& (Int8.ofInt 15).toInt32 = Int32.ofNat 13) (e2 : xs 2 = 0) (h1 : mm_icmp .eq (xs 1) 0 = true) : fl_Goal 6 xs := by
  refine fl_fin (os := [(97, 40, 13), (97, 1046, 1), (97, 1073, 1)]) (n := 300) (fl_scr rfl rfl e2 rfl rfl rfl) rfl (Nat.le_of_ble_eq_true rfl) (Nat.le_of_ble_eq_true rfl) ?_
  exact ⟨fx_yt h1, fx_yt h1, decide_eq_true H0, trivial⟩
set_option maxHeartbeats 8000000 in
set_option maxRecDepth 100000 in
theorem fl_part_1c (xs : Nat → Int32) (H0 : xs 0 &&& (Int8.ofInt 15).toInt32 = Int32.ofNat 13)  (hk : 1 ≤ (xs 2).toInt) (h1 : mm_icmp .ge (xs 2) 0 = true) (h2 : mm_icmp .eq (xs 1) 0 = true) (h3 : mm_icmp .lt (xs 2) 0 = false) : fl_Goal 6 xs := by
  refine fl_fin (os := [(97, 40, 13), (97, 1046, 1), (97, 1073, 1), (61, 1, 1), (18, 1, 0), (18, 9, 1), (94, 7, 1), (95, 11, 0)]) (n := 300) (fl_scr rfl rfl rfl rfl rfl rfl) rfl (Nat.le_of_ble_eq_true rfl) (Nat.le_of_ble_eq_true rfl) ?_
  exact ⟨fx_yf (fx_bit hk 0 (by decide) (by decide +kernel)), fx_yf (fx_bit hk 1 (by decide) (by decide +kernel)), fx_yf (fx_bit hk 2 (by decide) (by decide +kernel)), fx_yf (fx_bit hk 3 (by decide) (by decide +kernel)), fx_yf (fx_bit hk 4 (by decide) (by decide +kernel)), fx_yf (fx_bit hk 5 (by decide) (by decide +kernel)), fx_yf (fx_bit hk 6 (by decide) (by decide +kernel)), fx_yf (fx_bit hk 7 (by decide) (by decide +kernel)), fx_yf (fx_bit hk 8 (by decide) (by decide +kernel)), fx_yf (fx_bit hk 9 (by decide) (by decide +kernel)), fx_yf (fx_bit hk 10 (by decide) (by decide +kernel)), fx_yf (fx_bit hk 11 (by decide) (by decide +kernel)), fx_yf (fx_bit hk 12 (by decide) (by decide +kernel)), fx_yf (fx_bit hk 13 (by decide) (by decide +kernel)), fx_yf (fx_bit hk 14 (by decide) (by decide +kernel)), fx_yf (fx_bit hk 15 (by decide) (by decide +kernel)), fx_yf (fx_bit hk 16 (by decide) (by decide +kernel)), fx_yf (fx_bit hk 17 (by decide) (by decide +kernel)), fx_yf (fx_bit hk 18 (by decide) (by decide +kernel)), fx_yf (fx_bit hk 19 (by decide) (by decide +kernel)), fx_yf (fx_bit hk 20 (by decide) (by decide +kernel)), fx_yf (fx_bit hk 21 (by decide) (by decide +kernel)), fx_yf (fx_bit hk 22 (by decide) (by decide +kernel)), fx_yf (fx_bit hk 23 (by decide) (by decide +kernel)), fx_yf (fx_bit hk 24 (by decide) (by decide +kernel)), fx_yf (fx_bit hk 25 (by decide) (by decide +kernel)), fx_yf (fx_bit hk 26 (by decide) (by decide +kernel)), fx_yf (fx_bit hk 27 (by decide) (by decide +kernel)), fx_yf (fx_bit hk 28 (by decide) (by decide +kernel)), fx_yf (fx_bit hk 29 (by decide) (by decide +kernel)), fx_yf (fx_bit hk 30 (by decide) (by decide +kernel)), fx_yt h1, fx_yt h2, fx_yt h1, fx_yf h3, fx_yt h1, fx_yt h2, decide_eq_true H0, trivial⟩
set_option maxHeartbeats 8000000 in
set_option maxRecDepth 100000 in
theorem fl_count_a (xs : Nat → Int32) (H0 : xs 0 &&& (Int8.ofInt 15).toInt32 = Int32.ofNat 14)  (h1 : mm_icmp .lt (xs 1) 0 = true) : fl_Goal 6 xs := by
  refine fl_fin (os := [(97, 40, 14), (63, 1, 1), (74, 2, 1)]) (n := 300) (fl_scr rfl rfl rfl rfl rfl rfl) rfl (Nat.le_of_ble_eq_true rfl) (Nat.le_of_ble_eq_true rfl) ?_
  exact ⟨fx_yt h1, fx_yt h1, decide_eq_true H0, trivial⟩
set_option maxHeartbeats 8000000 in
set_option maxRecDepth 100000 in
theorem fl_count_b (xs : Nat → Int32) (H0 : xs 0 &&& (Int8.ofInt 15).toInt32 = Int32.ofNat 14)  (h1 : mm_icmp .gt (xs 1) (Int8.ofInt 7).toInt32 = true) (h2 : mm_icmp .lt (xs 1) 0 = false) (h3 : mm_icmp .le (xs 1) (Int8.ofInt 7).toInt32 = false) : fl_Goal 6 xs := by
  refine fl_fin (os := [(97, 40, 14), (63, 1, 0), (63, 7, 0), (74, 2, 0), (74, 7, 1)]) (n := 300) (fl_scr rfl rfl rfl rfl rfl rfl) rfl (Nat.le_of_ble_eq_true rfl) (Nat.le_of_ble_eq_true rfl) ?_
  exact ⟨fx_yt h1, fx_yf h2, fx_yf h3, fx_yf h2, decide_eq_true H0, trivial⟩
set_option maxHeartbeats 8000000 in
set_option maxRecDepth 100000 in
theorem fl_count_c (xs : Nat → Int32) (H0 : xs 0 &&& (Int8.ofInt 15).toInt32 = Int32.ofNat 14)  (h1 : mm_icmp .ge (xs 1) (Int32.ofInt 4) = false) (h2 : mm_icmp .gt (xs 1) (Int8.ofInt 7).toInt32 = false) (h3 : mm_icmp .lt (xs 1) 0 = false) (h4 : mm_icmp .le (xs 1) (Int8.ofInt 7).toInt32 = true) : fl_Goal 6 xs := by
  refine fl_fin (os := [(97, 40, 14), (63, 1, 0), (63, 7, 1), (63, 20, 0), (74, 2, 0), (74, 7, 0), (96, 32, 0)]) (n := 300) (fl_scr rfl rfl rfl rfl rfl rfl) rfl (Nat.le_of_ble_eq_true rfl) (Nat.le_of_ble_eq_true rfl) ?_
  exact ⟨fx_yf h1, fx_yf h2, fx_yf h3, fx_yf h1, fx_yt h4, fx_yf h3, decide_eq_true H0, trivial⟩
set_option maxHeartbeats 8000000 in
set_option maxRecDepth 100000 in
theorem fl_count_d (xs : Nat → Int32) (H0 : xs 0 &&& (Int8.ofInt 15).toInt32 = Int32.ofNat 14)  (h1 : mm_icmp .ge (xs 1) (Int32.ofInt 4) = true) (h2 : mm_icmp .gt (xs 1) (Int8.ofInt 7).toInt32 = false) (h3 : mm_icmp .lt (xs 1) 0 = false) (h4 : mm_icmp .le (xs 1) (Int8.ofInt 7).toInt32 = true) : fl_Goal 6 xs := by
  refine fl_fin (os := [(97, 40, 14), (63, 1, 0), (63, 7, 1), (63, 20, 1), (74, 2, 0), (74, 7, 0), (96, 32, 1)]) (n := 300) (fl_scr rfl rfl rfl rfl rfl rfl) rfl (Nat.le_of_ble_eq_true rfl) (Nat.le_of_ble_eq_true rfl) ?_
  exact ⟨fx_yt h1, fx_yf h2, fx_yf h3, fx_yt h1, fx_yt h4, fx_yf h3, decide_eq_true H0, trivial⟩
set_option maxHeartbeats 8000000 in
set_option maxRecDepth 100000 in
theorem fl_none (xs : Nat → Int32) (H0 : xs 0 &&& (Int8.ofInt 15).toInt32 = Int32.ofNat 15)   : fl_Goal 6 xs := by
  refine fl_fin (os := [(97, 40, 15)]) (n := 300) (fl_scr rfl rfl rfl rfl rfl rfl) rfl (Nat.le_of_ble_eq_true rfl) (Nat.le_of_ble_eq_true rfl) ?_
  exact ⟨decide_eq_true H0, trivial⟩
set_option maxHeartbeats 8000000 in
set_option maxRecDepth 100000 in
theorem fl_short0 (xs : Nat → Int32) : fl_Goal 0 xs := by
  refine fl_fin (sc := (some 0, [])) (os := []) (n := 300) ⟨fun q h => (by cases h; rfl), fun j v h => (by cases h)⟩ rfl (Nat.le_of_ble_eq_true rfl) (Nat.le_of_ble_eq_true rfl) ?_
  exact trivial
set_option maxHeartbeats 8000000 in
set_option maxRecDepth 100000 in
theorem fl_short1 (xs : Nat → Int32) : fl_Goal 1 xs := by
  refine fl_fin (sc := (some 1, [])) (os := []) (n := 300) ⟨fun q h => (by cases h; rfl), fun j v h => (by cases h)⟩ rfl (Nat.le_of_ble_eq_true rfl) (Nat.le_of_ble_eq_true rfl) ?_
  exact trivial
set_option maxHeartbeats 8000000 in
set_option maxRecDepth 100000 in
theorem fl_short2 (xs : Nat → Int32) : fl_Goal 2 xs := by
  refine fl_fin (sc := (some 2, [])) (os := []) (n := 300) ⟨fun q h => (by cases h; rfl), fun j v h => (by cases h)⟩ rfl (Nat.le_of_ble_eq_true rfl) (Nat.le_of_ble_eq_true rfl) ?_
  exact trivial
set_option maxHeartbeats 8000000 in
set_option maxRecDepth 100000 in
theorem fl_short3 (xs : Nat → Int32) : fl_Goal 3 xs := by
  refine fl_fin (sc := (some 3, [])) (os := []) (n := 300) ⟨fun q h => (by cases h; rfl), fun j v h => (by cases h)⟩ rfl (Nat.le_of_ble_eq_true rfl) (Nat.le_of_ble_eq_true rfl) ?_
  exact trivial
set_option maxHeartbeats 8000000 in
set_option maxRecDepth 100000 in
theorem fl_short4 (xs : Nat → Int32) : fl_Goal 4 xs := by
  refine fl_fin (sc := (some 4, [])) (os := []) (n := 300) ⟨fun q h => (by cases h; rfl), fun j v h => (by cases h)⟩ rfl (Nat.le_of_ble_eq_true rfl) (Nat.le_of_ble_eq_true rfl) ?_
  exact trivial
set_option maxHeartbeats 8000000 in
set_option maxRecDepth 100000 in
theorem fl_short5 (xs : Nat → Int32) : fl_Goal 5 xs := by
  refine fl_fin (sc := (some 5, [])) (os := []) (n := 300) ⟨fun q h => (by cases h; rfl), fun j v h => (by cases h)⟩ rfl (Nat.le_of_ble_eq_true rfl) (Nat.le_of_ble_eq_true rfl) ?_
  exact trivial
