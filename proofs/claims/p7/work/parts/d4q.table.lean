/-! an elimination without fractions over rows that lose: signs, pivots, sizes -/
section C4q
theorem in_le {p R : Int} (hp : 0 < p) (h : p * R ≤ 0) : R ≤ 0 := by
  rcases Int.lt_or_le 0 R with q | q
  · have := Int.mul_pos hp q
    omega
  · exact q
theorem in_lt {p R : Int} (hp : 0 < p) (h : p * R < 0) : R < 0 := by
  rcases Int.lt_or_le R 0 with q | q
  · exact q
  · have := Int.mul_nonneg (Int.le_of_lt hp) q
    omega
theorem in_ge {p R : Int} (hp : 0 < p) (h : 0 ≤ p * R) : 0 ≤ R := by
  rcases Int.lt_or_le R 0 with q | q
  · have h1 : p * R ≤ p * (-1) := Int.mul_le_mul_of_nonneg_left (by omega) (Int.le_of_lt hp)
    omega
  · exact q
theorem in_cl {p R S : Int} (hp : 0 < p) (h : p * R ≤ p * S) : R ≤ S := by
  have h1 : 0 ≤ p * (S - R) := by rw [Int.mul_sub]; omega
  have := in_ge hp h1
  omega
theorem in_nn {x y : Int} (hx : x ≤ 0) (hy : y ≤ 0) : 0 ≤ x * y := by
  have h := Int.mul_nonneg (a := -x) (b := -y) (by omega) (by omega)
  rw [Int.neg_mul_neg] at h
  exact h
theorem in_pn {x y : Int} (hx : 0 ≤ x) (hy : y ≤ 0) : x * y ≤ 0 := by
  have h := Int.mul_nonneg (a := x) (b := -y) hx (by omega)
  rw [Int.mul_neg] at h
  omega
theorem in_np {x y : Int} (hx : x < 0) (hy : y < 0) : 0 < x * y := by
  have h := Int.mul_pos (a := -x) (b := -y) (by omega) (by omega)
  rw [Int.neg_mul_neg] at h
  exact h
theorem in_pm {x y : Int} (hx : 0 < x) (hy : y < 0) : x * y < 0 := by
  have h := Int.mul_pos (a := x) (b := -y) hx (by omega)
  rw [Int.mul_neg] at h
  omega
theorem sm_f {k : Nat} {f : Nat → Int} : sm (k + 1) f = f 0 + sm k (fun i => f (i + 1)) := by
  induction k with
  | zero => show (0 : Int) + f 0 = f 0 + 0; omega
  | succ k ih => rw [sm_s, ih, sm_s]; omega
theorem sm_2 {n : Nat} {p q : Int} {f g : Nat → Int} : sm n (fun c => p * f c - q * g c) = p * sm n f - q * sm n g := by
  induction n with
  | zero => show (0 : Int) = p * 0 - q * 0; omega
  | succ n ih =>
    rw [sm_s, sm_s, sm_s, ih]
    grind
theorem sm_np {n : Nat} {f : Nat → Int} (h : ∀ c, c < n → f c ≤ 0) : sm n f ≤ 0 := by
  induction n with
  | zero => exact Int.le_refl _
  | succ n ih =>
    have h1 := ih (fun c hc => h c (by omega))
    have h2 := h n (Nat.lt_succ_self n)
    rw [sm_s]
    omega
theorem sm_le {n i : Nat} {f : Nat → Int} (hi : i < n) (h : ∀ c, c < n → f c ≤ 0) : sm n f ≤ f i := by
  induction n with
  | zero => exact absurd hi (Nat.not_lt_zero i)
  | succ n ih =>
    rw [sm_s]
    by_cases e : i = n
    · subst e
      have := sm_np (n := i) (f := f) (fun c hc => h c (by omega))
      omega
    · have h1 := ih (by omega) (fun c hc => h c (by omega))
      have h2 := h n (Nat.lt_succ_self n)
      omega
theorem Dl_00 {a : Nat → Nat → Int} {r : Nat → Int} {j : Nat} : Dl a 0 r j = r j := by
  show r j * 1 - 0 = r j
  omega
/-- rows keep their sums, but for the leading determinant -/
theorem tb_sum {a : Nat → Nat → Int} {N e : Nat} : (∀ k, k ≤ e → 0 < dl a k) → (∀ i, i < e → sm N (a i) = 0) → ∀ (r : Nat → Int) (k : Nat), e + k = N → sm k (fun i => Dl a e r (e + i)) = dl a e * sm N r := by
  induction e with
  | zero =>
    intro _ _ r k hk
    obtain rfl : k = N := by omega
    rw [dl_0, Int.one_mul]
    exact sm_eq (fun i hi => by rw [Dl_00, Nat.zero_add])
  | succ e ih =>
    intro hd ha r k hk
    have h1 := ih (fun k hk => hd k (by omega)) (fun i hi => ha i (by omega)) r (k + 1) (by omega)
    have h2 := ih (fun k hk => hd k (by omega)) (fun i hi => ha i (by omega)) (a e) (k + 1) (by omega)
    rw [ha e (by omega), Int.mul_zero] at h2
    rw [sm_f] at h1 h2
    have h3 : dl a e * sm k (fun i => Dl a (e + 1) r (e + 1 + i)) = dl a (e + 1) * sm k (fun i => Dl a e r (e + (i + 1))) - Dl a e r e * sm k (fun i => Dl a e (a e) (e + (i + 1))) := by
      rw [← sm_m, ← sm_2]
      refine sm_eq (fun i hi => ?_)
      rw [show e + 1 + i = e + (i + 1) by omega]
      exact dl_jac (fun k hk => by have := hd k hk; omega)
    have h4 : Dl a e (a e) (e + 0) = dl a (e + 1) := rfl
    have h5 : Dl a e r (e + 0) = Dl a e r e := rfl
    rw [h4] at h2
    rw [h5] at h1
    have h6 := hd e (by omega)
    have h7 : dl a e * sm k (fun i => Dl a (e + 1) r (e + 1 + i)) = dl a e * (dl a (e + 1) * sm N r) := by
      rw [h3]
      generalize sm k (fun i => Dl a e r (e + (i + 1))) = A at *
      generalize sm k (fun i => Dl a e (a e) (e + (i + 1))) = B at *
      grind
    exact Int.eq_of_mul_eq_mul_left (by omega) h7
/-- the table after e steps: pivots above 0, what is beside them not above it, no set of rows closed -/
def tb_ok (a : Nat → Nat → Int) (m N e : Nat) : Prop :=
  (∀ k, k ≤ e → 0 < dl a k) ∧
  (∀ i j, e ≤ i → i < m → e ≤ j → j < N → ¬ j = i → Dl a e (a i) j ≤ 0) ∧
  (∀ i j, i < e → e ≤ j → j < N → 0 ≤ Dl a e (un i) j) ∧
  (∀ S : Nat → Prop, (∀ i, S i → e ≤ i ∧ i < m) → (∃ i, S i) → ∃ i j, S i ∧ ¬ S j ∧ e ≤ j ∧ j < N ∧ Dl a e (a i) j < 0)
theorem tb_0 {a : Nat → Nat → Int} {m N : Nat} (h1 : ∀ i j, i < m → j < N → ¬ j = i → a i j ≤ 0) (h2 : ∀ S : Nat → Prop, (∀ i, S i → i < m) → (∃ i, S i) → ∃ i j, S i ∧ ¬ S j ∧ j < N ∧ a i j < 0) : tb_ok a m N 0 := by
  refine ⟨fun k hk => ?_, fun i j _ hi _ hj hn => ?_, fun i j hi => absurd hi (Nat.not_lt_zero i), fun S hS hne => ?_⟩
  · obtain rfl : k = 0 := by omega
    rw [dl_0]; omega
  · rw [Dl_00]; exact h1 i j hi hj hn
  · obtain ⟨i, j, q1, q2, q3, q4⟩ := h2 S (fun i hi => (hS i hi).2) hne
    exact ⟨i, j, q1, q2, Nat.zero_le j, q3, by rw [Dl_00]; exact q4⟩
theorem tb_piv {a : Nat → Nat → Int} {m N e : Nat} (h : tb_ok a m N e) (he : e < m) (hN : m ≤ N) (ha : ∀ i, i < m → sm N (a i) = 0) : 0 < dl a (e + 1) := by
  obtain ⟨hd, hw, hu, hS⟩ := h
  obtain ⟨i, j, q1, q2, q3, q4, q5⟩ := hS (fun i => i = e) (fun i hi => by omega) ⟨e, rfl⟩
  subst q1
  have h1 := tb_sum hd (fun k hk => ha k (by omega)) (a i) (N - i) (by omega)
  rw [ha i he, Int.mul_zero] at h1
  obtain ⟨k, hk⟩ : ∃ k, N - i = k + 1 := ⟨N - i - 1, by omega⟩
  rw [hk, sm_f] at h1
  have h2 := (sm_le (n := k) (i := j - i - 1) (f := fun c => Dl a i (a i) (i + (c + 1))) (by omega) (fun c hc => hw i (i + (c + 1)) (Nat.le_refl _) he (by omega) (by omega) (by omega)))
  rw [show i + (j - i - 1 + 1) = j by omega] at h2
  rw [dl_s]
  have h3 : Dl a i (a i) (i + 0) = Dl a i (a i) i := rfl
  omega
theorem tb_s {a : Nat → Nat → Int} {m N e : Nat} (h : tb_ok a m N e) (he : e < m) (hN : m ≤ N) (ha : ∀ i, i < m → sm N (a i) = 0) : tb_ok a m N (e + 1) := by
  have hp := tb_piv h he hN ha
  obtain ⟨hd, hw, hu, hS⟩ := h
  have hd1 : ∀ k, k ≤ e + 1 → 0 < dl a k := fun k hk => by
    by_cases q : k = e + 1
    · rw [q]; exact hp
    · exact hd k (by omega)
  have hj : ∀ (r : Nat → Int) (j : Nat), dl a e * Dl a (e + 1) r j = dl a (e + 1) * Dl a e r j - Dl a e r e * Dl a e (a e) j := fun r j => dl_jac (fun k hk => by have := hd1 k hk; omega)
  have he0 := hd e (Nat.le_refl e)
  refine ⟨hd1, fun i j h1 h2 h3 h4 h5 => ?_, fun i j h1 h3 h4 => ?_, fun S h1 h2 => ?_⟩
  · have e1 := hj (a i) j
    have e2 := in_pn (Int.le_of_lt hp) (hw i j (by omega) h2 (by omega) h4 h5)
    have e3 := in_nn (hw i e (by omega) h2 (Nat.le_refl e) (by omega) (by omega)) (hw e j (Nat.le_refl e) he (by omega) h4 (by omega))
    exact in_le he0 (by omega)
  · have e1 := hj (un i) j
    have e3 := hw e j (Nat.le_refl e) he (by omega) h4 (by omega)
    by_cases q : i = e
    · subst q
      rw [Dl_un (Nat.le_refl i), Dl_un (Nat.le_refl i), un_s, un_n (by omega), Int.mul_zero, Int.mul_zero, Int.mul_one] at e1
      have e4 := in_pn (Int.le_of_lt he0) e3
      exact in_ge he0 (by omega)
    · have e2 := Int.mul_nonneg (Int.le_of_lt hp) (hu i j (by omega) (by omega) h4)
      have e4 := in_pn (hu i e (by omega) (Nat.le_refl e) (by omega)) e3
      exact in_ge he0 (by omega)
  · obtain ⟨i, j, q1, q2, q3, q4, q5⟩ := hS S (fun i hi => by have := h1 i hi; omega) h2
    have hSe : ¬ S e := fun q => by have := h1 e q; omega
    have direct : ∀ i j, S i → ¬ S j → ¬ j = e → e ≤ j → j < N → Dl a e (a i) j < 0 → Dl a (e + 1) (a i) j < 0 := by
      intro i j q1 q2 q3 q6 q4 q5
      have b := h1 i q1
      have e1 := hj (a i) j
      have e2 := in_pm hp q5
      have e3 := in_nn (hw i e (by omega) b.2 (Nat.le_refl e) (by omega) (by omega)) (hw e j (Nat.le_refl e) he (by omega) q4 q3)
      exact in_lt he0 (by omega)
    by_cases q : j = e
    · subst q
      obtain ⟨i2, j2, p1, p2, p3, p4, p5⟩ := hS (fun i => S i ∨ i = j) (fun i hi => by
        rcases hi with hi | hi
        · have := h1 i hi; omega
        · omega) ⟨j, Or.inr rfl⟩
      have p6 : ¬ S j2 := fun q => p2 (Or.inl q)
      have p7 : ¬ j2 = j := fun q => p2 (Or.inr q)
      rcases p1 with p1 | p1
      · exact ⟨i2, j2, p1, p6, by omega, p4, direct i2 j2 p1 p6 p7 p3 p4 p5⟩
      · subst p1
        refine ⟨i, j2, q1, p6, by omega, p4, ?_⟩
        have b := h1 i q1
        have e1 := hj (a i) j2
        have e2 := in_pn (Int.le_of_lt hp) (hw i j2 (by omega) b.2 p3 p4 (fun q => p6 (q ▸ q1)))
        have e3 := in_np q5 p5
        exact in_lt he0 (by omega)
    · exact ⟨i, j, q1, q2, by omega, q4, direct i j q1 q2 q q3 q4 q5⟩
theorem tb_all {a : Nat → Nat → Int} {m N e : Nat} (h : tb_ok a m N 0) (he : e ≤ m) (hN : m ≤ N) (ha : ∀ i, i < m → sm N (a i) = 0) : tb_ok a m N e := by
  induction e with
  | zero => exact h
  | succ e ih => exact tb_s (ih (by omega)) (by omega) hN ha
/-- sizes -/
theorem tb_d {a : Nat → Nat → Int} {m N e i : Nat} (h : tb_ok a m N 0) (he : e ≤ i) (hi : i < m) (hN : m ≤ N) (ha : ∀ i, i < m → sm N (a i) = 0) : Dl a e (a i) i ≤ dl a e * a i i := by
  induction e with
  | zero => rw [Dl_00, dl_0]; omega
  | succ e ih =>
    have h1 := ih (by omega)
    obtain ⟨hd, hw, _, _⟩ := tb_all h (e := e) (by omega) hN ha
    have h2 := (tb_all h (e := e + 1) (by omega) hN ha).1
    have e1 := dl_jac (a := a) (e := e) (j := i) (r := a i) (fun k hk => by have := h2 k hk; omega)
    have e3 := in_nn (hw i e (by omega) hi (Nat.le_refl e) (by omega) (by omega)) (hw e i (Nat.le_refl e) (by omega) (by omega) (by omega) (by omega))
    have e4 := Int.mul_le_mul_of_nonneg_left h1 (Int.le_of_lt (h2 (e + 1) (Nat.le_refl _)))
    refine in_cl (hd e (Nat.le_refl e)) ?_
    have e5 : dl a e * (dl a (e + 1) * a i i) = dl a (e + 1) * (dl a e * a i i) := by grind
    omega
theorem tb_l {a : Nat → Nat → Int} {m N e : Nat} {B : Int} (h : tb_ok a m N 0) (he : e ≤ m) (hN : m ≤ N) (ha : ∀ i, i < m → sm N (a i) = 0) (hB : ∀ i, i < m → a i i ≤ B) : dl a e ≤ B ^ e := by
  induction e with
  | zero => rw [dl_0, Int.pow_zero]; exact Int.le_refl _
  | succ e ih =>
    have h1 := ih (by omega)
    have h2 := tb_d h (Nat.le_refl e) (by omega) hN ha
    have h3 := (tb_all h (e := e) (by omega) hN ha).1 e (Nat.le_refl e)
    have h4 := (tb_all h (e := e + 1) he hN ha).1 (e + 1) (Nat.le_refl _)
    rw [dl_s] at h4 ⊢
    have h5 : 0 ≤ B := by
      have h6 := Int.mul_le_mul_of_nonneg_left (hB e (by omega)) (Int.le_of_lt h3)
      exact in_ge h3 (by omega)
    have h7 := Int.mul_le_mul_of_nonneg_left (hB e (by omega)) (Int.le_of_lt h3)
    have h8 := Int.mul_le_mul_of_nonneg_right h1 h5
    rw [Int.pow_succ]
    omega
end C4q
