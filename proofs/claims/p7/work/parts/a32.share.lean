/-! greatest common divisors; shares of one -/
def fF : Nat → Int
  | 0 => 0
  | 1 => 1
  | n + 2 => fF (n + 1) + fF n
theorem fF_0 : ∀ n, 0 ≤ fF n ∧ 0 ≤ fF (n + 1) := by
  intro n
  induction n with
  | zero => exact ⟨by decide, by decide⟩
  | succ n ih => exact ⟨ih.2, by show 0 ≤ fF (n + 1) + fF n; omega⟩
theorem gcd_st {x y z : Int} (hx : 0 ≤ x) (hy : 0 ≤ y) (hz : z = x % y) : Int.gcd y z = Int.gcd x y := by
  obtain ⟨p, rfl⟩ := Int.eq_ofNat_of_zero_le hx
  obtain ⟨q, rfl⟩ := Int.eq_ofNat_of_zero_le hy
  have e : z = ((p % q : Nat) : Int) := by rw [hz]; exact (Int.natCast_emod p q).symm
  rw [e]
  show Nat.gcd q (p % q) = Nat.gcd p q
  rw [Nat.gcd_comm p q, Nat.gcd_rec q p, Nat.gcd_comm]
def eu_ok (a b x y i : Int) : Prop := ∃ _ : Unit, 0 ≤ y ∧ 0 ≤ x ∧ Int.gcd x y = Int.gcd a b ∧ (i = 0 ∧ x = a ∧ y = b ∨ 1 ≤ i ∧ y < x ∧ fF i.toNat * x + fF (i - 1).toNat * y ≤ 1000)
theorem eu_0 {a b : Int} (ha : 0 ≤ a) (hb : 0 ≤ b) : eu_ok a b a b 0 := ⟨(), hb, ha, rfl, Or.inl ⟨rfl, rfl, rfl⟩⟩
theorem eu_b {a b x y i : Int} (h : eu_ok a b x y i) : 0 ≤ x ∧ 0 ≤ y := h.elim fun _ h => ⟨h.2.1, h.1⟩
theorem eu_s {a b x y z i i' : Int} (h : eu_ok a b x y i) (hb : b ≤ 1000) (hi : 0 ≤ i) (hy : ¬ y = 0) (hz : z = x % y) (hi' : i' = i + 1) : eu_ok a b y z i' := by
  obtain ⟨_, h1, h2, h3, h4⟩ := h
  have z0 : 0 ≤ z := by rw [hz]; exact Int.emod_nonneg x hy
  have z1 : z < y := by rw [hz]; exact Int.emod_lt_of_pos x (by omega)
  subst hi'
  refine ⟨(), z0, h1, (gcd_st h2 h1 hz).trans h3, Or.inr ⟨by omega, z1, ?_⟩⟩
  rw [show i + 1 - 1 = i by omega]
  rcases h4 with ⟨c1, c2, c3⟩ | ⟨c1, c2, c3⟩
  · subst c1 c2 c3
    show 1 * y + 0 * z ≤ 1000
    omega
  · have q : y + z ≤ x := by
      have e := Int.mul_ediv_add_emod x y
      rw [← hz] at e
      have q1 : 1 ≤ x / y := by
        rw [Int.le_ediv_iff_mul_le (by omega)]
        omega
      have q2 : y * 1 ≤ y * (x / y) := Int.mul_le_mul_of_nonneg_left q1 h1
      omega
    have f0 := fF_0 (i - 1).toNat
    have e1 : (i - 1).toNat + 1 = i.toNat := by omega
    rw [e1] at f0
    have e2 : fF (i + 1).toNat = fF i.toNat + fF (i - 1).toNat := by
      rw [show (i + 1).toNat = (i - 1).toNat + 2 by omega, ← e1]
      rfl
    have m := Int.mul_le_mul_of_nonneg_left q f0.2
    rw [Int.mul_add] at m
    rw [e2, Int.add_mul]
    omega
theorem eu_le {a b x y i : Int} (h : eu_ok a b x y i) (hi : i ≤ 16) (hy : ¬ y = 0) : i ≤ 15 := by
  obtain ⟨_, h1, h2, h3, h4⟩ := h
  rcases Int.lt_or_le 15 i with g | g
  · have e : i = 16 := by omega
    subst e
    rcases h4 with ⟨c1, c2, c3⟩ | ⟨c1, c2, c3⟩
    · omega
    · have e1 : fF (16 : Int).toNat = 987 := by decide
      have e2 : fF ((16 : Int) - 1).toNat = 610 := by decide
      rw [e1, e2] at c3
      omega
  · exact g
theorem eu_e {a b x y i r : Int} (h : eu_ok a b x y i) (hy : y = 0) (ha : 1 ≤ b) (hr : (x = 0 → r = 1) ∧ (¬ x = 0 → r = x)) : r = ((Int.gcd a b : Nat) : Int) := by
  subst hy
  obtain ⟨_, h1, h2, h3, h4⟩ := h
  have e : Int.gcd x 0 = x.natAbs := Int.gcd_zero
  rw [e] at h3
  have p : 0 < Int.gcd a b := Int.gcd_pos_of_ne_zero_right a (by omega)
  omega
/-! shares: a over b; their sum as one fraction -/
def qs : List (Int × Int) → Int × Int
  | [] => (0, 1)
  | (a, b) :: Q => (a * (qs Q).2 + (qs Q).1 * b, b * (qs Q).2)
def qone (Q : List (Int × Int)) : Prop := (qs Q).1 = (qs Q).2
/-- tops over one denominator B, from f on -/
def shq (B : Int) (to : Int → Int) : Int → List (Int × Int) → Prop
  | _, [] => True
  | f, (a, b) :: Q => (1 ≤ a ∧ a ≤ b ∧ b ≤ 1000 ∧ to f * b = a * B) ∧ shq B to (f + 1) Q
def shsum (to : Int → Int) : Int → Nat → Int
  | _, 0 => 0
  | f, n + 1 => to f + shsum to (f + 1) n
theorem shq_sum {B : Int} {to : Int → Int} : ∀ (Q : List (Int × Int)) (f : Int), shq B to f Q → shsum to f Q.length * (qs Q).2 = B * (qs Q).1 ∧ 1 ≤ (qs Q).2 := by
  intro Q
  induction Q with
  | nil => intro f _; exact ⟨by show (0 : Int) * 1 = B * 0; omega, by decide⟩
  | cons e Q ih =>
    obtain ⟨a, b⟩ := e
    intro f h
    obtain ⟨⟨h1, h2, h3, h4⟩, h5⟩ := h
    obtain ⟨i1, i2⟩ := ih (f + 1) h5
    constructor
    · show (to f + shsum to (f + 1) Q.length) * (b * (qs Q).2) = B * (a * (qs Q).2 + (qs Q).1 * b)
      have e1 : (to f + shsum to (f + 1) Q.length) * (b * (qs Q).2) = (to f * b) * (qs Q).2 + (shsum to (f + 1) Q.length * (qs Q).2) * b := by
        rw [Int.add_mul, ← Int.mul_assoc, ← Int.mul_assoc, Int.mul_assoc (shsum to (f + 1) Q.length), Int.mul_comm b, ← Int.mul_assoc]
      rw [e1, h4, i1, Int.mul_add, Int.mul_comm a B, Int.mul_assoc, Int.mul_assoc]
    · show 1 ≤ b * (qs Q).2
      have : 1 * 1 ≤ b * (qs Q).2 := Int.mul_le_mul (by omega) i2 (by decide) (by omega)
      omega
theorem shq_one {B : Int} {to : Int → Int} {Q : List (Int × Int)} {f : Int} (h : shq B to f Q) (hB : 1 ≤ B) : shsum to f Q.length = B ↔ qone Q := by
  obtain ⟨h1, h2⟩ := shq_sum Q f h
  unfold qone
  constructor
  · intro e
    rw [e] at h1
    have := Int.eq_of_mul_eq_mul_left (show B ≠ 0 by omega) h1
    exact this.symm
  · intro e
    rw [e] at h1
    exact Int.eq_of_mul_eq_mul_right (show (qs Q).2 ≠ 0 by omega) h1
