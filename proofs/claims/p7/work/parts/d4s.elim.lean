/-! the table of an elimination: its steps, its sizes, what it solves -/
section C4s
variable {a : Nat → Nat → Int} {m N e i j : Nat}
def tw (a : Nat → Nat → Int) (e i j : Nat) : Int := if j < e then 0 else if i < e then Dl a e (un i) j else -(Dl a e (a i) j)
def td (a : Nat → Nat → Int) (e i : Nat) : Int := if i < e then dl a e else Dl a e (a i) i
theorem tw_0 (h : j < e) : tw a e i j = 0 := if_pos h
theorem tw_u (h : e ≤ j) (h1 : i < e) : tw a e i j = Dl a e (un i) j := by unfold tw; rw [if_neg (by omega), if_pos h1]
theorem tw_a (h : e ≤ j) (h1 : e ≤ i) : tw a e i j = -(Dl a e (a i) j) := by unfold tw; rw [if_neg (by omega), if_neg (by omega)]
theorem td_u (h1 : i < e) : td a e i = dl a e := if_pos h1
theorem td_a (h1 : e ≤ i) : td a e i = Dl a e (a i) i := if_neg (by omega)
theorem td_p : td a e e = dl a (e + 1) := td_a (Nat.le_refl e)
theorem tb_nz (h : tb_ok a m N e) (he : e < m) (hN : m ≤ N) (ha : ∀ i, i < m → sm N (a i) = 0) : ∀ k, k ≤ e + 1 → ¬ dl a k = 0 := fun k hk => by
  have := (tb_s h he hN ha).1 k hk
  omega
theorem tw_s (h : tb_ok a m N e) (he : e < m) (hN : m ≤ N) (ha : ∀ i, i < m → sm N (a i) = 0) (hie : ¬ i = e) (hje : ¬ j = e) : tw a e i j * td a e e + tw a e e j * tw a e i e = dl a e * tw a (e + 1) i j := by
  have hj := dl_jac (a := a) (e := e) (j := j) (r := if i < e then un i else a i) (tb_nz h he hN ha)
  rw [td_p]
  by_cases q : j < e
  · rw [tw_0 (a := a) (e := e) (i := i) q, tw_0 (a := a) (e := e) (i := e) q, tw_0 (a := a) (e := e + 1) (i := i) (j := j) (by omega), Int.zero_mul, Int.zero_mul, Int.mul_zero]; rfl
  · by_cases r : i < e
    · rw [if_pos r] at hj
      rw [tw_u (by omega) r, tw_a (by omega) (Nat.le_refl e), tw_u (Nat.le_refl e) r, tw_u (by omega) (by omega), hj]
      grind
    · rw [if_neg r] at hj
      rw [tw_a (by omega) (by omega), tw_a (by omega) (Nat.le_refl e), tw_a (Nat.le_refl e) (by omega), tw_a (by omega) (by omega)]
      grind
theorem td_s (h : tb_ok a m N e) (he : e < m) (hN : m ≤ N) (ha : ∀ i, i < m → sm N (a i) = 0) (hie : ¬ i = e) : td a e i * td a e e - tw a e e i * tw a e i e = dl a e * td a (e + 1) i := by
  rw [td_p]
  by_cases q : i < e
  · rw [td_u q, tw_0 q, td_u (by omega), Int.zero_mul, Int.sub_zero]
  · have hj := dl_jac (a := a) (e := e) (j := i) (r := a i) (tb_nz h he hN ha)
    rw [td_a (by omega), tw_a (by omega) (Nat.le_refl e), tw_a (Nat.le_refl e) (by omega), td_a (by omega)]
    grind
theorem tw_e (h : tb_ok a m N e) (he : e < m) (hN : m ≤ N) (ha : ∀ i, i < m → sm N (a i) = 0) (hje : ¬ j = e) : tw a (e + 1) e j = tw a e e j := by
  by_cases q : j < e
  · rw [tw_0 (a := a) (e := e) (i := e) q, tw_0 (a := a) (e := e + 1) (i := e) (j := j) (by omega)]
  · have hj := dl_jac (a := a) (e := e) (j := j) (r := un e) (tb_nz h he hN ha)
    rw [Dl_un (Nat.le_refl e), Dl_un (Nat.le_refl e), un_s, un_n (by omega), Int.mul_zero, Int.mul_zero, Int.mul_one, Int.zero_sub, ← Int.mul_neg] at hj
    rw [tw_u (by omega) (by omega), tw_a (by omega) (Nat.le_refl e)]
    exact Int.eq_of_mul_eq_mul_left (tb_nz h he hN ha e (by omega)) hj
theorem td_e : td a (e + 1) e = td a e e := by rw [td_p, td_u (by omega)]
theorem tw_nn (h : tb_ok a m N e) (hi : i < m) (hj : j < N) (hn : ¬ j = i) : 0 ≤ tw a e i j := by
  by_cases q : j < e
  · rw [tw_0 q]; exact Int.le_refl _
  · by_cases r : i < e
    · rw [tw_u (by omega) r]; exact h.2.2.1 i j r (by omega) hj
    · rw [tw_a (by omega) (by omega)]
      have := h.2.1 i j (by omega) hi (by omega) hj hn
      omega
theorem sm_one {n i : Nat} {f : Nat → Int} (hi : i < n) : sm n f = f i + sm n (fun c => if c = i then 0 else f c) := by
  induction n with
  | zero => exact absurd hi (Nat.not_lt_zero i)
  | succ n ih =>
    rw [sm_s, sm_s]
    by_cases e : i = n
    · subst e
      rw [if_pos rfl, sm_eq (f := fun c => if c = i then 0 else f c) (g := f) (fun c hc => if_neg (by omega))]
      omega
    · rw [ih (by omega), if_neg (by omega)]
      omega
theorem tw_le (h : tb_ok a m N e) (he : e ≤ m) (hN : m < N) (ha : ∀ i, i < m → sm N (a i) = 0) (hi : i < m) (hj : j < N) (hn : ¬ j = i) : tw a e i j ≤ td a e i := by
  by_cases q : j < e
  · rw [tw_0 q]
    by_cases r : i < e
    · rw [td_u r]
      have := h.1 e (Nat.le_refl e)
      omega
    · rw [td_a (by omega)]
      have h1 := tb_sum h.1 (fun k hk => ha k (by omega)) (a i) (N - e) (by omega)
      rw [ha i hi, Int.mul_zero, sm_one (i := i - e) (by omega), show e + (i - e) = i by omega] at h1
      have h2 := sm_np (n := N - e) (f := fun c => if c = i - e then 0 else Dl a e (a i) (e + c)) (fun c hc => by
        by_cases p : c = i - e
        · rw [if_pos p]; exact Int.le_refl _
        · rw [if_neg p]; exact h.2.1 i (e + c) (by omega) hi (by omega) (by omega) (by omega))
      omega
  · by_cases r : i < e
    · rw [tw_u (by omega) r, td_u r]
      have h1 := tb_sum h.1 (fun k hk => ha k (by omega)) (un i) (N - e) (by omega)
      rw [sm_1 (n := N) (i := i) (f := un i) (by omega) (fun c _ hc => un_n hc), un_s, Int.mul_one] at h1
      have h2 := sm_ge (n := N - e) (i := j - e) (f := fun c => Dl a e (un i) (e + c)) (by omega) (fun c hc => h.2.2.1 i (e + c) r (by omega) (by omega))
      rw [h1, show e + (j - e) = j by omega] at h2
      exact h2
    · rw [tw_a (by omega) (by omega), td_a (by omega)]
      have h1 := tb_sum h.1 (fun k hk => ha k (by omega)) (a i) (N - e) (by omega)
      rw [ha i hi, Int.mul_zero, sm_one (i := i - e) (by omega), show e + (i - e) = i by omega] at h1
      have h2 := sm_le (n := N - e) (i := j - e) (f := fun c => if c = i - e then 0 else Dl a e (a i) (e + c)) (by omega) (fun c hc => by
        by_cases p : c = i - e
        · rw [if_pos p]; exact Int.le_refl _
        · rw [if_neg p]; exact h.2.1 i (e + c) (by omega) hi (by omega) (by omega) (by omega))
      rw [if_neg (by omega), show e + (j - e) = j by omega] at h2
      omega
theorem td_nn (h : tb_ok a m N e) (he : e ≤ m) (hN : m < N) (ha : ∀ i, i < m → sm N (a i) = 0) (hi : i < m) : 0 ≤ td a e i := Int.le_trans (tw_nn h hi hN (by omega)) (tw_le h he hN ha hi hN (by omega))
theorem in_pow {B : Int} {k l : Nat} (hB : 1 ≤ B) (h : k ≤ l) : B ^ k ≤ B ^ l ∧ 1 ≤ B ^ k := by
  have p : ∀ n : Nat, 1 ≤ B ^ n := fun n => by
    induction n with
    | zero => rw [Int.pow_zero]; exact Int.le_refl _
    | succ n ih =>
      rw [Int.pow_succ]
      have := Int.mul_le_mul_of_nonneg_left hB (by omega : 0 ≤ B ^ n)
      omega
  refine ⟨?_, p k⟩
  induction h with
  | refl => exact Int.le_refl _
  | step h ih =>
    rename_i l
    have := Int.mul_le_mul_of_nonneg_left hB (by have := p l; omega : 0 ≤ B ^ l)
    rw [Nat.succ_eq_add_one, Int.pow_succ]
    omega
theorem td_b {B : Int} (h : tb_ok a m N 0) (he : e ≤ m) (hN : m ≤ N) (ha : ∀ i, i < m → sm N (a i) = 0) (hB : ∀ i, i < m → a i i ≤ B) (hB1 : 1 ≤ B) (hi : i < m) (hm : m ≤ 24) : td a e i ≤ B ^ 25 ∧ dl a e ≤ B ^ 25 := by
  have h1 := tb_l h he hN ha hB
  have h2 := (in_pow hB1 (by omega : e ≤ 25)).1
  have h0 := (tb_all h he hN ha).1 e (Nat.le_refl e)
  refine ⟨?_, by omega⟩
  by_cases r : i < e
  · rw [td_u r]; omega
  · rw [td_a (by omega)]
    have h3 := tb_d h (e := e) (i := i) (by omega) hi hN ha
    have h4 := Int.mul_le_mul_of_nonneg_left (hB i hi) (Int.le_of_lt h0)
    have h5 := Int.mul_le_mul_of_nonneg_right h1 (by omega : 0 ≤ B)
    have h6 := (in_pow hB1 (by omega : e + 1 ≤ 25)).1
    rw [Int.pow_succ] at h6
    omega
/-- rows of weights: what leaves a state, less what comes back -/
def mx (L : Nat → Int) (wt : Nat → Nat → Int) (i j : Nat) : Int := (if j = i then L i else 0) - wt i j
theorem mx_sum {L : Nat → Int} {wt : Nat → Nat → Int} (hi : i < N) (h : sm N (wt i) = L i) : sm N (mx L wt i) = 0 := by
  have e1 := sm_2 (n := N) (p := 1) (q := 1) (f := fun j => if j = i then L i else 0) (g := wt i)
  rw [sm_1 (n := N) (i := i) (f := fun j => if j = i then L i else 0) hi (fun c _ hc => if_neg hc), if_pos rfl, h] at e1
  have e2 : sm N (mx L wt i) = sm N (fun c => 1 * (if c = i then L i else 0) - 1 * wt i c) := sm_eq (fun c _ => by unfold mx; omega)
  rw [e2]
  refine e1.trans ?_
  omega
theorem mx_sol {L : Nat → Int} {wt : Nat → Nat → Int} (hi : i < m) : L i * Dl (mx L wt) m (un i) m = sm m (fun c => wt i c * Dl (mx L wt) m (un c) m) + wt i m * dl (mx L wt) m := by
  have h1 := Dl_lin (a := mx L wt) (e := m) (j := m) (r := mx L wt i) (Nat.le_refl m)
  rw [Dl_row hi] at h1
  have e1 : sm m (fun c => Dl (mx L wt) m (un c) m * mx L wt i c) = L i * Dl (mx L wt) m (un i) m - sm m (fun c => wt i c * Dl (mx L wt) m (un c) m) := by
    have e2 := sm_2 (n := m) (p := 1) (q := 1) (f := fun c => if c = i then L i * Dl (mx L wt) m (un i) m else 0) (g := fun c => wt i c * Dl (mx L wt) m (un c) m)
    rw [sm_1 (n := m) (i := i) (f := fun c => if c = i then L i * Dl (mx L wt) m (un i) m else 0) hi (fun c _ hc => if_neg hc), if_pos rfl, Int.one_mul, Int.one_mul] at e2
    rw [← e2]
    refine sm_eq (fun c _ => ?_)
    by_cases q : c = i
    · rw [if_pos q, q]
      unfold mx
      rw [if_pos rfl]
      grind
    · rw [if_neg q]
      have e3 : mx L wt i c = -wt i c := by unfold mx; rw [if_neg q]; omega
      rw [e3]
      grind
  have e4 : mx L wt i m = -wt i m := by unfold mx; rw [if_neg (by omega)]; omega
  rw [e1, e4] at h1
  grind
/-- sums by where an outcome goes -/
theorem sm_fub {n k : Nat} {g : Nat → Nat} {h V : Nat → Int} : sm n (fun t => sm k (fun x => if g x = t then h x else 0) * V t) = sm k (fun x => if g x < n then h x * V (g x) else 0) := by
  induction k with
  | zero => exact sm_0 (fun t _ => by show (0 : Int) * V t = 0; omega)
  | succ k ih =>
    rw [sm_s, ← ih]
    have e1 : sm n (fun t => (if g k = t then h k else 0) * V t) = if g k < n then h k * V (g k) else 0 := by
      by_cases q : g k < n
      · rw [if_pos q, sm_1 (i := g k) q (fun c _ hc => by rw [if_neg (by omega), Int.zero_mul]), if_pos rfl]
      · rw [if_neg q]
        exact sm_0 (fun c hc => by rw [if_neg (by omega), Int.zero_mul])
    rw [← e1]
    have e2 := sm_2 (n := n) (p := 1) (q := -1) (f := fun t => sm k (fun x => if g x = t then h x else 0) * V t) (g := fun t => (if g k = t then h k else 0) * V t)
    have e3 : sm n (fun t => sm (k + 1) (fun x => if g x = t then h x else 0) * V t) = sm n (fun t => 1 * (sm k (fun x => if g x = t then h x else 0) * V t) - -1 * ((if g k = t then h k else 0) * V t)) := sm_eq (fun t _ => by
      rw [sm_s]
      generalize sm k (fun x => if g x = t then h x else 0) = A
      generalize (if g k = t then h k else 0) = C
      grind)
    rw [e3]
    refine e2.trans ?_
    omega
theorem sm_all {n k : Nat} {g : Nat → Nat} {h : Nat → Int} (hg : ∀ x, x < k → g x < n) : sm n (fun t => sm k (fun x => if g x = t then h x else 0)) = sm k h := by
  have e := sm_fub (n := n) (k := k) (g := g) (h := h) (V := fun _ => 1)
  rw [sm_eq (f := fun x => if g x < n then h x * 1 else 0) (g := h) (fun x hx => by rw [if_pos (hg x hx), Int.mul_one])] at e
  rw [← e]
  exact sm_eq (fun t _ => by rw [Int.mul_one])
end C4s
