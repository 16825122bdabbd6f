/-! the model's numbers: what digits mean -/
section C51
variable {f g : Int → Int} {n m : Nat}
/-- the number that n digits stand for -/
def wv (f : Int → Int) : Nat → Int
  | 0 => 0
  | n + 1 => wv f n + f n * 65536 ^ n
theorem wv_s : wv f (n + 1) = wv f n + f n * 65536 ^ n := rfl
theorem wp_pos (n : Nat) : (0 : Int) < 65536 ^ n := Int.pow_pos (by omega)
theorem wp_s (n : Nat) : (65536 : Int) ^ (n + 1) = 65536 ^ n * 65536 := Int.pow_succ 65536 n
theorem wp_le {n m : Nat} (h : n ≤ m) : (65536 : Int) ^ n ≤ 65536 ^ m := by
  induction h with
  | refl => exact Int.le_refl _
  | step h ih =>
    have h1 := wp_pos n
    rw [Nat.succ_eq_add_one, wp_s]
    omega
/-- digits are digits -/
def wd (f : Int → Int) (n : Nat) : Prop := ∀ i : Nat, i < n → 0 ≤ f i ∧ f i ≤ 65535
theorem wd_le (h : wd f n) (h1 : m ≤ n) : wd f m := fun i hi => h i (Nat.lt_of_lt_of_le hi h1)
theorem wv_b (h : wd f n) : 0 ≤ wv f n ∧ wv f n < 65536 ^ n := by
  induction n with
  | zero => exact ⟨Int.le_refl _, (show (0 : Int) < 65536 ^ 0 by decide)⟩
  | succ n ih =>
    have h1 := ih (wd_le h (Nat.le_succ n))
    have h2 := h n (Nat.lt_succ_self n)
    have h3 := wp_pos n
    have h4 : 0 ≤ f n * 65536 ^ n := Int.mul_nonneg h2.1 (Int.le_of_lt h3)
    have h5 : f n * 65536 ^ n ≤ 65535 * 65536 ^ n := Int.mul_le_mul_of_nonneg_right h2.2 (Int.le_of_lt h3)
    rw [wv_s, wp_s]
    omega
theorem wv_eq (h : ∀ i : Nat, i < n → f i = g i) : wv f n = wv g n := by
  induction n with
  | zero => rfl
  | succ n ih => rw [wv_s, wv_s, ih (fun i hi => h i (Nat.lt_succ_of_lt hi)), h n (Nat.lt_succ_self n)]
theorem wv_up {i : Nat} {x : Int} (h : i < n) : wv (hw_up f i x) n = wv f n + (x - f i) * 65536 ^ i := by
  induction n with
  | zero => exact absurd h (Nat.not_lt_zero i)
  | succ n ih =>
    rw [wv_s, wv_s]
    by_cases e : i = n
    · subst e
      rw [hw_up_s, wv_eq (f := hw_up f i x) (g := f) (fun j hj => hw_up_n (by omega)), Int.sub_mul]
      omega
    · rw [ih (by omega), hw_up_n (by omega : ¬ (n : Int) = i)]
      omega
theorem wv_z (h : ∀ i : Nat, m ≤ i → i < n → f i = 0) (h1 : m ≤ n) : wv f n = wv f m := by
  induction n with
  | zero => rw [Nat.le_zero.mp h1]
  | succ n ih =>
    by_cases e : m = n + 1
    · rw [e]
    · rw [wv_s, h n (by omega) (Nat.lt_succ_self n), Int.zero_mul, Int.add_zero]
      exact ih (fun i h2 h3 => h i h2 (Nat.lt_succ_of_lt h3)) (by omega)
/-- a number of the model: its digits, none of them idle, and what it is -/
def wh_is (n : Int) (f : Int → Int) (v : Int) : Prop := ∃ k : Nat, n = k ∧ wd f k ∧ (∀ j : Nat, k = j + 1 → 1 ≤ f j) ∧ wv f k = v
theorem wh_0 : wh_is 0 f 0 := ⟨0, rfl, fun i h => absurd h (Nat.not_lt_zero i), fun j h => absurd h (by omega), rfl⟩
theorem wh_pos {k n : Int} {f : Int → Int} {v : Int} (h : wh_is n f v) : 0 ≤ v := by
  obtain ⟨k, _, h2, _, h4⟩ := h
  rw [← h4]
  exact (wv_b h2).1
/-- a number below a power has no more digits than it -/
theorem wh_len {n : Int} {v : Int} {m : Nat} (h : wh_is n f v) (hv : v < 65536 ^ m) : n ≤ m := by
  obtain ⟨k, h1, h2, h3, h4⟩ := h
  by_cases e : k ≤ m
  · omega
  · exfalso
    obtain ⟨j, rfl⟩ : ∃ j, k = j + 1 := ⟨k - 1, by omega⟩
    have h5 := h3 j rfl
    have h6 := (wv_b (wd_le h2 (Nat.le_succ j))).1
    have h7 : (65536 : Int) ^ m ≤ 65536 ^ j := wp_le (by omega)
    have h8 := wp_pos j
    have h9 : 1 * (65536 : Int) ^ j ≤ f j * 65536 ^ j := Int.mul_le_mul_of_nonneg_right h5 (Int.le_of_lt h8)
    rw [wv_s] at h4
    omega
theorem wh_lt {k : Nat} {v : Int} (h : wh_is k f v) : v < 65536 ^ k := by
  obtain ⟨j, h1, h2, _, h4⟩ := h
  obtain rfl : k = j := by omega
  rw [← h4]
  exact (wv_b h2).2
end C51
