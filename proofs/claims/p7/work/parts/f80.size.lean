/-! how great the common denominator of chosen choices is -/
section C80
/-- least common multiples with m, from the front; from the back -/
def fw (m : Nat) (f : Nat → Nat) : Nat → Nat
  | 0 => m
  | i + 1 => Nat.lcm (fw m f i) (f i)
def bk (m : Nat) (f : Nat → Nat) (n : Nat) : Nat → Nat
  | 0 => m
  | r + 1 => Nat.lcm (bk m f n r) (f (n - r - 1))
theorem lc_m {a b : Nat} : Nat.lcm a b = a * (b / Nat.gcd a b) := by
  unfold Nat.lcm
  rw [Nat.mul_div_assoc a (Nat.gcd_dvd_right a b)]
theorem fw_p {m : Nat} {f : Nat → Nat} {n : Nat} (hm : 0 < m) (h : ∀ i, i < n → 0 < f i) : 0 < fw m f n := by
  induction n with
  | zero => exact hm
  | succ n ih => exact Nat.lcm_pos (ih (fun i hi => h i (by omega))) (h n (by omega))
theorem bk_p {m : Nat} {f : Nat → Nat} {n r : Nat} (hm : 0 < m) (h : ∀ i, i < n → 0 < f i) (hr : r ≤ n) : 0 < bk m f n r := by
  induction r with
  | zero => exact hm
  | succ r ih => exact Nat.lcm_pos (ih (by omega)) (h _ (by omega))
theorem fw_d {m : Nat} {f : Nat → Nat} {n : Nat} : m ∣ fw m f n ∧ ∀ i, i < n → f i ∣ fw m f n := by
  induction n with
  | zero => exact ⟨Nat.dvd_refl m, fun i hi => absurd hi (Nat.not_lt_zero i)⟩
  | succ n ih =>
    refine ⟨Nat.dvd_trans ih.1 (Nat.dvd_lcm_left _ _), fun i hi => ?_⟩
    by_cases e : i = n
    · subst e; exact Nat.dvd_lcm_right _ _
    · exact Nat.dvd_trans (ih.2 i (by omega)) (Nat.dvd_lcm_left _ _)
theorem bk_d {m : Nat} {f : Nat → Nat} {n r : Nat} (hr : r ≤ n) : m ∣ bk m f n r ∧ ∀ i, n - r ≤ i → i < n → f i ∣ bk m f n r := by
  induction r with
  | zero => exact ⟨Nat.dvd_refl m, fun i h1 h2 => absurd h1 (by omega)⟩
  | succ r ih =>
    have z := ih (by omega)
    refine ⟨Nat.dvd_trans z.1 (Nat.dvd_lcm_left _ _), fun i h1 h2 => ?_⟩
    by_cases e : i = n - r - 1
    · subst e; exact Nat.dvd_lcm_right _ _
    · exact Nat.dvd_trans (z.2 i (by omega) h2) (Nat.dvd_lcm_left _ _)
theorem fw_u {m x : Nat} {f : Nat → Nat} {n : Nat} (hm : m ∣ x) (h : ∀ i, i < n → f i ∣ x) : fw m f n ∣ x := by
  induction n with
  | zero => exact hm
  | succ n ih => exact Nat.lcm_dvd (ih (fun i hi => h i (by omega))) (h n (by omega))
theorem bk_u {m x : Nat} {f : Nat → Nat} {n r : Nat} (hm : m ∣ x) (h : ∀ i, i < n → f i ∣ x) (hr : r ≤ n) : bk m f n r ∣ x := by
  induction r with
  | zero => exact hm
  | succ r ih => exact Nat.lcm_dvd (ih (by omega)) (h _ (by omega))
/-- the gain at each step -/
def fa (m : Nat) (f : Nat → Nat) (i : Nat) : Nat := f i / Nat.gcd (fw m f i) (f i)
def pa (g : Nat → Nat) : Nat → Nat
  | 0 => 1
  | i + 1 => pa g i * g i
theorem fw_a {m : Nat} {f : Nat → Nat} {n : Nat} : fw m f n = m * pa (fa m f) n := by
  induction n with
  | zero => exact (Nat.mul_one m).symm
  | succ n ih =>
    show Nat.lcm (fw m f n) (f n) = m * (pa (fa m f) n * fa m f n)
    rw [lc_m, ← Nat.mul_assoc, ← ih]; rfl
/-- a number that counts: it does not divide m -/
def fe (m : Nat) (f : Nat → Nat) (i : Nat) : Nat := if f i ∣ m then 1 else f i
def pe (m : Nat) (f : Nat → Nat) (n : Nat) : Nat → Nat
  | 0 => 1
  | r + 1 => pe m f n r * fe m f (n - r - 1)
theorem gg_1 {x p q : Nat} (hx : 0 < x) (h : x ∣ p * q) : (x / Nat.gcd p x) * (x / Nat.gcd q x) ≤ x := by
  have h1 : x ∣ Nat.gcd p x * Nat.gcd q x := by
    have e : Nat.gcd p x * Nat.gcd q x = Nat.gcd (Nat.gcd (p * q) (x * q)) (Nat.gcd (p * x) (x * x)) := by
      rw [Nat.gcd_mul_right, Nat.gcd_mul_right, Nat.gcd_mul_left]
    rw [e]
    exact Nat.dvd_gcd (Nat.dvd_gcd h (Nat.dvd_mul_right x q)) (Nat.dvd_gcd (Nat.dvd_mul_left x p) (Nat.dvd_mul_left x x))
  obtain ⟨a, ha⟩ := Nat.gcd_dvd_right p x
  obtain ⟨b, hb⟩ := Nat.gcd_dvd_right q x
  have g1 : 0 < Nat.gcd p x := Nat.gcd_pos_of_pos_right p hx
  have g2 : 0 < Nat.gcd q x := Nat.gcd_pos_of_pos_right q hx
  have e1 : x / Nat.gcd p x = a := by
    refine (congrArg (fun t => t / Nat.gcd p x) ha).trans ?_
    exact Nat.mul_div_cancel_left a g1
  have e2 : x / Nat.gcd q x = b := by
    refine (congrArg (fun t => t / Nat.gcd q x) hb).trans ?_
    exact Nat.mul_div_cancel_left b g2
  rw [e1, e2]
  have h2 := Nat.le_of_dvd (Nat.mul_pos g1 g2) h1
  have h3 : a * b * (Nat.gcd p x * Nat.gcd q x) = x * x := by
    calc a * b * (Nat.gcd p x * Nat.gcd q x) = (Nat.gcd p x * a) * (Nat.gcd q x * b) := by simp only [Nat.mul_assoc, Nat.mul_comm, Nat.mul_left_comm]
      _ = x * x := by rw [← ha, ← hb]
  have h4 : a * b * x ≤ x * x := by
    rw [← h3]
    exact Nat.mul_le_mul_left _ h2
  exact Nat.le_of_mul_le_mul_right h4 hx
/-- each divides what the others have in common with m: then the square of the gain is at most the product -/
theorem sq_1 {m : Nat} {f : Nat → Nat} {n : Nat} (hm : 0 < m) (hf : ∀ i, i < n → 0 < f i) (h : ∀ i Q : Nat, i < n → m ∣ Q → (∀ j, j < n → ¬ j = i → f j ∣ Q) → f i ∣ Q) : pa (fa m f) n * pa (fa m f) n ≤ pe m f n n := by
  have key : ∀ r : Nat, r ≤ n → ∃ N : Nat, bk m f n r = m * N ∧ pa (fa m f) n * N ≤ pa (fa m f) (n - r) * pe m f n r := fun r => by
    induction r with
    | zero =>
      intro _
      exact ⟨1, (Nat.mul_one m).symm, Nat.le_refl _⟩
    | succ r ih =>
      intro hr
      obtain ⟨N, h1, h2⟩ := ih (by omega)
      have ei : n - r = (n - r - 1) + 1 := by omega
      refine ⟨N * (f (n - r - 1) / Nat.gcd (bk m f n r) (f (n - r - 1))), ?_, ?_⟩
      · show Nat.lcm (bk m f n r) (f (n - r - 1)) = _
        rw [lc_m, ← Nat.mul_assoc, ← h1]
      · have fi := hf (n - r - 1) (by omega)
        have step : fa m f (n - r - 1) * (f (n - r - 1) / Nat.gcd (bk m f n r) (f (n - r - 1))) ≤ fe m f (n - r - 1) := by
          unfold fe
          by_cases e : f (n - r - 1) ∣ m
          · rw [if_pos e]
            have e1 : Nat.gcd (fw m f (n - r - 1)) (f (n - r - 1)) = f (n - r - 1) := Nat.gcd_eq_right (Nat.dvd_trans e fw_d.1)
            have e2 : Nat.gcd (bk m f n r) (f (n - r - 1)) = f (n - r - 1) := Nat.gcd_eq_right (Nat.dvd_trans e (bk_d (by omega)).1)
            unfold fa
            rw [e1, e2, Nat.div_self fi]
            exact Nat.le_refl _
          · rw [if_neg e]
            refine gg_1 fi (h (n - r - 1) _ (by omega) (Nat.dvd_trans fw_d.1 (Nat.dvd_mul_right _ _)) (fun j hj hn => ?_))
            rcases Nat.lt_or_ge j (n - r - 1) with q | q
            · exact Nat.dvd_trans (fw_d.2 j q) (Nat.dvd_mul_right _ _)
            · exact Nat.dvd_trans ((bk_d (show r ≤ n by omega)).2 j (by omega) hj) (Nat.dvd_mul_left _ _)
        have ep : pa (fa m f) (n - r) = pa (fa m f) (n - r - 1) * fa m f (n - r - 1) := by
          rw [ei]
          show pa (fa m f) (n - r - 1) * fa m f (n - r - 1) = _
          rw [show n - r - 1 + 1 - 1 = n - r - 1 by omega]
        show pa (fa m f) n * (N * _) ≤ pa (fa m f) (n - (r + 1)) * (pe m f n r * fe m f (n - r - 1))
        rw [show n - (r + 1) = n - r - 1 by omega]
        calc pa (fa m f) n * (N * (f (n - r - 1) / Nat.gcd (bk m f n r) (f (n - r - 1)))) = pa (fa m f) n * N * (f (n - r - 1) / Nat.gcd (bk m f n r) (f (n - r - 1))) := (Nat.mul_assoc _ _ _).symm
          _ ≤ pa (fa m f) (n - r) * pe m f n r * (f (n - r - 1) / Nat.gcd (bk m f n r) (f (n - r - 1))) := Nat.mul_le_mul_right _ h2
          _ = pa (fa m f) (n - r - 1) * pe m f n r * (fa m f (n - r - 1) * (f (n - r - 1) / Nat.gcd (bk m f n r) (f (n - r - 1)))) := by
            rw [ep]
            simp only [Nat.mul_assoc, Nat.mul_comm, Nat.mul_left_comm]
          _ ≤ pa (fa m f) (n - r - 1) * pe m f n r * fe m f (n - r - 1) := Nat.mul_le_mul_left _ step
          _ = pa (fa m f) (n - r - 1) * (pe m f n r * fe m f (n - r - 1)) := Nat.mul_assoc _ _ _
  obtain ⟨N, h1, h2⟩ := key n (Nat.le_refl n)
  have e : bk m f n n = fw m f n := Nat.dvd_antisymm (bk_u fw_d.1 (fun i hi => fw_d.2 i hi) (Nat.le_refl n)) (fw_u (bk_d (Nat.le_refl n)).1 (fun i hi => (bk_d (Nat.le_refl n)).2 i (by omega) hi))
  rw [h1, fw_a] at e
  have eN : N = pa (fa m f) n := Nat.eq_of_mul_eq_mul_left hm e
  rw [eN, Nat.sub_self] at h2
  have e1 : pa (fa m f) 0 = 1 := rfl
  rw [e1, Nat.one_mul] at h2
  exact h2
/-- how many count -/
def ce (m : Nat) (f : Nat → Nat) (i : Nat) : Nat := if f i ∣ m then 0 else 1
def cnt (g : Nat → Nat) : Nat → Nat
  | 0 => 0
  | i + 1 => cnt g i + g i
def cnr (g : Nat → Nat) (n : Nat) : Nat → Nat
  | 0 => 0
  | r + 1 => cnr g n r + g (n - r - 1)
theorem cn_r {g : Nat → Nat} {n : Nat} : cnr g n n = cnt g n := by
  have key : ∀ r : Nat, r ≤ n → cnr g n r + cnt g (n - r) = cnt g n := fun r => by
    induction r with
    | zero => intro _; show 0 + cnt g n = cnt g n; omega
    | succ r ih =>
      intro hr
      have h1 := ih (by omega)
      have ei : n - r = (n - r - 1) + 1 := by omega
      rw [ei] at h1
      have h2 : cnt g (n - r - 1 + 1) = cnt g (n - r - 1) + g (n - r - 1) := rfl
      show cnr g n r + g (n - r - 1) + cnt g (n - (r + 1)) = cnt g n
      rw [show n - (r + 1) = n - r - 1 by omega]
      omega
  have h := key n (Nat.le_refl n)
  rw [Nat.sub_self] at h
  exact h
theorem pe_b {m : Nat} {f : Nat → Nat} {n r : Nat} (hf : ∀ i, i < n → f i ≤ 1000) (hr : r ≤ n) : pe m f n r ≤ 1000 ^ cnr (ce m f) n r := by
  induction r with
  | zero => exact Nat.le_refl _
  | succ r ih =>
    show pe m f n r * fe m f (n - r - 1) ≤ 1000 ^ (cnr (ce m f) n r + ce m f (n - r - 1))
    rw [Nat.pow_add]
    refine Nat.mul_le_mul (ih (by omega)) ?_
    unfold fe ce
    by_cases e : f (n - r - 1) ∣ m
    · rw [if_pos e, if_pos e]; exact Nat.le_refl _
    · rw [if_neg e, if_neg e]; exact hf _ (by omega)
theorem pa_b {m : Nat} {f : Nat → Nat} {n : Nat} (hf : ∀ i, i < n → f i ≤ 1000 ∧ 0 < f i) : pa (fa m f) n ≤ 1000 ^ cnt (ce m f) n := by
  induction n with
  | zero => exact Nat.le_refl _
  | succ n ih =>
    show pa (fa m f) n * fa m f n ≤ 1000 ^ (cnt (ce m f) n + ce m f n)
    rw [Nat.pow_add]
    refine Nat.mul_le_mul (ih (fun i hi => hf i (by omega))) ?_
    have q := hf n (by omega)
    unfold fa ce
    by_cases e : f n ∣ m
    · rw [if_pos e, Nat.gcd_eq_right (Nat.dvd_trans e fw_d.1), Nat.div_self q.2]; exact Nat.le_refl _
    · rw [if_neg e]
      exact Nat.le_trans (Nat.div_le_self _ _) q.1
theorem pa_pos {m : Nat} {f : Nat → Nat} {n : Nat} (hm : 0 < m) (hf : ∀ i, i < n → 0 < f i) : 0 < pa (fa m f) n := by
  have h := fw_p hm hf
  rw [fw_a] at h
  exact Nat.pos_of_mul_pos_left h
/-- none but one cannot count -/
theorem ce_1 {m : Nat} {f : Nat → Nat} {n : Nat} (h : ∀ i Q : Nat, i < n → m ∣ Q → (∀ j, j < n → ¬ j = i → f j ∣ Q) → f i ∣ Q) : ¬ cnt (ce m f) n = 1 := fun q => by
  have k0 : ∀ k : Nat, cnt (ce m f) k = 0 → ∀ j, j < k → f j ∣ m := fun k => by
    induction k with
    | zero => exact fun _ j hj => absurd hj (Nat.not_lt_zero j)
    | succ k ih =>
      intro hk j hj
      have hk2 : cnt (ce m f) k + ce m f k = 0 := hk
      by_cases e : j = k
      · subst e
        by_cases d : f j ∣ m
        · exact d
        · have : ce m f j = 1 := if_neg d
          omega
      · exact ih (by omega) j (by omega)
  have k1 : ∀ k : Nat, cnt (ce m f) k = 1 → ∃ i, i < k ∧ ¬ f i ∣ m ∧ ∀ j, j < k → ¬ j = i → f j ∣ m := fun k => by
    induction k with
    | zero => exact fun h => absurd (show (0 : Nat) = 1 from h) (by decide)
    | succ k ih =>
      intro hk
      have hk2 : cnt (ce m f) k + ce m f k = 1 := hk
      by_cases d : f k ∣ m
      · have e : ce m f k = 0 := if_pos d
        obtain ⟨i, a1, a2, a3⟩ := ih (by omega)
        refine ⟨i, by omega, a2, fun j hj hn => ?_⟩
        by_cases e2 : j = k
        · subst e2; exact d
        · exact a3 j (by omega) hn
      · have e : ce m f k = 1 := if_neg d
        refine ⟨k, by omega, d, fun j hj hn => k0 k (by omega) j (by omega)⟩
  obtain ⟨i, a1, a2, a3⟩ := k1 n q
  exact a2 (h i m a1 (Nat.dvd_refl m) a3)
theorem cnt_le {g k : Nat → Nat} {n : Nat} (h : ∀ i, i < n → g i ≤ k i) : cnt g n ≤ cnt k n := by
  induction n with
  | zero => exact Nat.le_refl _
  | succ n ih => exact Nat.add_le_add (ih (fun i hi => h i (by omega))) (h n (by omega))
end C80
