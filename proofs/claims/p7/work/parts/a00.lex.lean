/-! what the octets of a text say: blanks, names, numbers, signs -/
def cO (t : Int → Int) (n i : Int) : Int := if 0 ≤ i ∧ i < n then t i else 0
theorem cO_in {t : Int → Int} {n i : Int} (h0 : 0 ≤ i) (h1 : i < n) : cO t n i = t i := if_pos ⟨h0, h1⟩
theorem cO_out {t : Int → Int} {n i : Int} (h : i < 0 ∨ n ≤ i) : cO t n i = 0 := if_neg (by omega)
theorem cO_ne {t : Int → Int} {n i : Int} (h : ¬ cO t n i = 0) : 0 ≤ i ∧ i < n := by
  by_cases q : 0 ≤ i ∧ i < n
  · exact q
  · exact absurd (if_neg q) h
/-- an octet that may stand in a text -/
def tx_ok (t : Int → Int) (n : Int) : Prop := ∃ _ : Unit, ∀ i, 0 ≤ i → i < n → t i = 10 ∨ (32 ≤ t i ∧ t i ≤ 126)
theorem tx_at {t : Int → Int} {n i : Int} (h : tx_ok t n) (h0 : 0 ≤ i) (h1 : i < n) : t i = 10 ∨ (32 ≤ t i ∧ t i ≤ 126) := h.elim fun _ h => h i h0 h1
theorem tx_cc {t : Int → Int} {n : Int} (h : tx_ok t n) (i : Int) : cO t n i = 0 ∨ cO t n i = 10 ∨ (32 ≤ cO t n i ∧ cO t n i ≤ 126) := by
  by_cases q : 0 ≤ i ∧ i < n
  · rw [cO_in q.1 q.2]
    exact Or.inr (tx_at h q.1 q.2)
  · exact Or.inl (if_neg q)
abbrev isL (c : Int) : Prop := (97 ≤ c ∧ c ≤ 122) ∨ (65 ≤ c ∧ c ≤ 90) ∨ c = 95
abbrev isD (c : Int) : Prop := 48 ≤ c ∧ c ≤ 57
/-! blanks and remarks -/
def skf (t : Int → Int) (n : Int) : Nat → Int → Int → Int
  | 0, _, _ => n
  | k + 1, p, r => if r = 0 then (if cO t n p = 47 ∧ cO t n (p + 1) = 47 then skf t n k (p + 1) 1 else if cO t n p = 10 ∨ cO t n p = 32 then skf t n k (p + 1) 0 else p) else skf t n k (p + 1) (if cO t n p = 10 then 0 else 1)
def sk (t : Int → Int) (n p r : Int) : Int := skf t n (n - p).toNat p r
theorem sk_u {t : Int → Int} {n p r : Int} (h : p < n) : sk t n p r = if r = 0 then (if cO t n p = 47 ∧ cO t n (p + 1) = 47 then sk t n (p + 1) 1 else if cO t n p = 10 ∨ cO t n p = 32 then sk t n (p + 1) 0 else p) else sk t n (p + 1) (if cO t n p = 10 then 0 else 1) := by
  unfold sk
  rw [show (n - p).toNat = (n - (p + 1)).toNat + 1 by omega]
  rfl
theorem sk_e {t : Int → Int} {n p r X : Int} (h0 : X = sk t n p r) (h : n ≤ p) : X = n := by
  rw [h0]
  unfold sk
  rw [show (n - p).toNat = 0 by omega]
  rfl
theorem sk_r {t : Int → Int} {n p r p' r' c X : Int} (h0 : X = sk t n p r) (hc : c = cO t n p) (h : p < n) (hr : ¬ r = 0) (hp : p' = p + 1) (hm : (c = 10 → r' = 0) ∧ (¬ c = 10 → r' = 1)) : X = sk t n p' r' := by
  rw [h0, sk_u h, if_neg hr, hp]
  subst hc
  by_cases q : cO t n p = 10
  · rw [if_pos q, hm.1 q]
  · rw [if_neg q, hm.2 q]
theorem sk_c {t : Int → Int} {n p r p' r' c d y X : Int} (h0 : X = sk t n p r) (hc : c = cO t n p) (hd : d = cO t n y) (hy : y = p + 1) (h : p < n) (hr : r = 0) (h1 : c = 47) (h2 : d = 47) (hp : p' = p + 1) (hm : r' = 1) : X = sk t n p' r' := by
  subst hy
  rw [h0, sk_u h, if_pos hr, if_pos ⟨by omega, by omega⟩, hp, hm]
theorem sk_b {t : Int → Int} {n p r p' r' c X : Int} (h0 : X = sk t n p r) (hc : c = cO t n p) (h : p < n) (hr : r = 0) (h1 : c = 10 ∨ c = 32) (hp : p' = p + 1) (hm : r' = 0) : X = sk t n p' r' := by
  rw [h0, sk_u h, if_pos hr, if_neg (by omega), if_pos (by omega), hp, hm]
theorem sk_s1 {t : Int → Int} {n p r c X : Int} (h0 : X = sk t n p r) (hc : c = cO t n p) (h : p < n) (hr : r = 0) (h1 : ¬ c = 47) (h2 : ¬ c = 10) (h3 : ¬ c = 32) : X = p := by
  rw [h0, sk_u h, if_pos hr, if_neg (by omega), if_neg (by omega)]
theorem sk_s2 {t : Int → Int} {n p r c d y X : Int} (h0 : X = sk t n p r) (hc : c = cO t n p) (hd : d = cO t n y) (hy : y = p + 1) (h : p < n) (hr : r = 0) (h1 : ¬ d = 47) (h2 : ¬ c = 10) (h3 : ¬ c = 32) : X = p := by
  subst hy
  rw [h0, sk_u h, if_pos hr, if_neg (by omega), if_neg (by omega)]
theorem tx_0 {t : Int → Int} : tx_ok t 0 := ⟨(), fun i h1 h2 => absurd h1 (by omega)⟩
theorem tx_s {t : Int → Int} {i i' : Int} (h : tx_ok t i) (h1 : t i = 10 ∨ (32 ≤ t i ∧ t i ≤ 126)) (hi : i' = i + 1) : tx_ok t i' := by
  subst hi
  refine ⟨(), fun p p1 p2 => ?_⟩
  by_cases q : p = i
  · rw [q]; exact h1
  · exact tx_at h p1 (by omega)
theorem tx_no {t : Int → Int} {i m : Int} (h : tx_ok t m) (h0 : 0 ≤ i) (h2 : i < m) (h1 : ¬ t i = 10) (h3 : t i < 32 ∨ 126 < t i) : False := by
  have := tx_at h h0 h2
  omega
theorem tx_le {t : Int → Int} {i m : Int} (h : tx_ok t i) (hm : m ≤ i) : tx_ok t m := ⟨(), fun p p1 p2 => tx_at h p1 (by omega)⟩
theorem skf_b {t : Int → Int} {n : Int} : ∀ (k : Nat) (p r : Int), p + k ≤ n → p ≤ skf t n k p r ∧ skf t n k p r ≤ n := by
  intro k
  induction k with
  | zero => intro p r h; show p ≤ n ∧ n ≤ n; omega
  | succ k ih =>
    intro p r h
    have h1 := ih (p + 1) 1 (by omega)
    have h2 := ih (p + 1) 0 (by omega)
    have h3 := ih (p + 1) (if cO t n p = 10 then 0 else 1) (by omega)
    unfold skf
    split
    · split
      · omega
      · split
        · omega
        · omega
    · omega
theorem sk_le {t : Int → Int} {n p r : Int} (h : p ≤ n) : p ≤ sk t n p r ∧ sk t n p r ≤ n := skf_b _ _ _ (by omega)
/-! names -/
def nlf (t : Int → Int) (n p : Int) : Nat → Int → Int
  | 0, k => k
  | f + 1, k => if isL (cO t n (p + k)) ∨ isD (cO t n (p + k)) then nlf t n p f (k + 1) else k
def nli (t : Int → Int) (n p k : Int) : Int := nlf t n p (20 - k).toNat k
def nl (t : Int → Int) (n p : Int) : Int := nli t n p 1
theorem nl_end {t : Int → Int} {n p k X : Int} (h0 : X = nli t n p k) (h : 20 ≤ k) : X = k := by
  rw [h0]
  unfold nli
  rw [show (20 - k).toNat = 0 by omega]
  rfl
theorem nl_u {t : Int → Int} {n p k : Int} (h : k < 20) : nli t n p k = if isL (cO t n (p + k)) ∨ isD (cO t n (p + k)) then nli t n p (k + 1) else k := by
  unfold nli
  rw [show (20 - k).toNat = (20 - (k + 1)).toNat + 1 by omega]
  rfl
theorem nl_s {t : Int → Int} {n p k k' c q X : Int} (h0 : X = nli t n p k) (hc : c = cO t n q) (hq : q = p + k) (h : k < 20) (h1 : isL c ∨ isD c) (hk : k' = k + 1) : X = nli t n p k' := by
  subst hq hc
  rw [h0, nl_u h, if_pos h1, hk]
theorem nl_n {t : Int → Int} {n p k c q X : Int} (h0 : X = nli t n p k) (hc : c = cO t n q) (hq : q = p + k) (h : k < 20) (h1 : ¬ isL c) (h2 : ¬ isD c) : X = k := by
  subst hq hc
  rw [h0, nl_u h, if_neg (fun h => h.elim h1 h2)]
theorem nlf_b {t : Int → Int} {n p : Int} : ∀ (f : Nat) (k : Int), 0 ≤ p → 1 ≤ k → p + k ≤ n → k ≤ nlf t n p f k ∧ nlf t n p f k ≤ k + f ∧ p + nlf t n p f k ≤ n := by
  intro f
  induction f with
  | zero => intro k _ _ h; show k ≤ k ∧ k ≤ k + ((0 : Nat) : Int) ∧ p + k ≤ n; omega
  | succ f ih =>
    intro k h0 h1 h
    unfold nlf
    split
    · rename_i q
      have q2 : ¬ cO t n (p + k) = 0 := by
        intro e
        rw [e] at q
        unfold isL isD at q
        omega
      have q3 := cO_ne q2
      have := ih (k + 1) h0 (by omega) (by omega)
      omega
    · omega
theorem nl_b {t : Int → Int} {n p : Int} (h0 : 0 ≤ p) (h : p < n) : 1 ≤ nl t n p ∧ nl t n p ≤ 20 ∧ p + nl t n p ≤ n := by
  have h1 := nlf_b (t := t) (n := n) (p := p) (20 - (1 : Int)).toNat 1 h0 (by omega) (by omega)
  unfold nl nli
  omega
/-! digits -/
def dgf (t : Int → Int) (n : Int) : Nat → Int → Int
  | 0, q => q
  | f + 1, q => if isD (cO t n q) then dgf t n f (q + 1) else q
def dg (t : Int → Int) (n q : Int) : Int := dgf t n (n - q).toNat q
theorem dg_out {t : Int → Int} {n q X : Int} (h0 : X = dg t n q) (h : n ≤ q) : X = q := by
  rw [h0]
  unfold dg
  rw [show (n - q).toNat = 0 by omega]
  rfl
theorem dg_u {t : Int → Int} {n q : Int} : dg t n q = if isD (cO t n q) then dg t n (q + 1) else q := by
  by_cases h : q < n
  · unfold dg
    rw [show (n - q).toNat = (n - (q + 1)).toNat + 1 by omega]
    rfl
  · rw [dg_out rfl (by omega), cO_out (by omega), if_neg (by decide)]
theorem dg_st {t : Int → Int} {n q q' c X : Int} (h0 : X = dg t n q) (hc : c = cO t n q) (h1 : isD c) (hq : q' = q + 1) : X = dg t n q' := by
  subst hc
  rw [h0, dg_u, if_pos h1, hq]
theorem dg_n {t : Int → Int} {n q c X : Int} (h0 : X = dg t n q) (hc : c = cO t n q) (h1 : ¬ isD c) : X = q := by
  subst hc
  rw [h0, dg_u, if_neg h1]
theorem dgf_b {t : Int → Int} {n : Int} : ∀ (f : Nat) (q : Int), 0 ≤ q → q ≤ dgf t n f q ∧ (q ≤ n → dgf t n f q ≤ n) ∧ ∀ i, q ≤ i → i < dgf t n f q → isD (cO t n i) := by
  intro f
  induction f with
  | zero =>
    intro q h
    refine ⟨Int.le_refl _, fun h => h, fun i h1 h2 => ?_⟩
    have h2 : i < q := h2
    omega
  | succ f ih =>
    intro q h
    unfold dgf
    split
    · rename_i e
      have e2 : ¬ cO t n q = 0 := by
        intro e3
        rw [e3] at e
        unfold isD at e
        omega
      have e3 := cO_ne e2
      obtain ⟨a, b, c⟩ := ih (q + 1) (by omega)
      refine ⟨by omega, fun _ => b (by omega), fun i h1 h2 => ?_⟩
      by_cases e4 : i = q
      · rw [e4]; exact e
      · exact c i (by omega) h2
    · refine ⟨Int.le_refl _, fun h => h, fun i h1 h2 => ?_⟩
      omega
theorem dg_bd {t : Int → Int} {n q : Int} (h : 0 ≤ q) : q ≤ dg t n q ∧ (q ≤ n → dg t n q ≤ n) ∧ ∀ i, q ≤ i → i < dg t n q → isD (cO t n i) := dgf_b _ _ h
/-- the number that k digits from p on are -/
def dvf (t : Int → Int) (n p : Int) : Nat → Int
  | 0 => 0
  | k + 1 => dvf t n p k * 10 + (cO t n (p + k) - 48)
def dv (t : Int → Int) (n p k : Int) : Int := dvf t n p k.toNat
theorem dv_z {t : Int → Int} {n p k X : Int} (hX : X = 0) (h : k = 0) : X = dv t n p k := by subst h; subst hX; rfl
theorem dv_s {t : Int → Int} {n p k k' q c X X' : Int} (h0 : X = dv t n p k) (hc : c = cO t n q) (hq : q = p + k) (h : 0 ≤ k) (hk : k' = k + 1) (hX : X' = X * 10 + c - 48) : X' = dv t n p k' := by
  subst hk hX hq hc h0
  have e : (k.toNat : Int) = k := Int.toNat_of_nonneg h
  unfold dv
  rw [show (k + 1).toNat = k.toNat + 1 by omega]
  show _ = dvf t n p k.toNat * 10 + (cO t n (p + (k.toNat : Int)) - 48)
  rw [e]
  omega
def p10 (k : Int) : Int := 10 ^ k.toNat
theorem dvf_b {t : Int → Int} {n p : Int} : ∀ (k : Nat), (∀ i, p ≤ i → i < p + k → isD (cO t n i)) → 0 ≤ dvf t n p k ∧ dvf t n p k < (10 : Int) ^ k := by
  intro k
  induction k with
  | zero => intro _; exact ⟨Int.le_refl _, show (0 : Int) < 10 ^ 0 by decide⟩
  | succ k ih =>
    intro h
    obtain ⟨a, b⟩ := ih (fun i h1 h2 => h i h1 (by omega))
    have c := h (p + k) (by omega) (by omega)
    unfold isD at c
    unfold dvf
    rw [Int.pow_succ]
    omega
theorem dv_b {t : Int → Int} {n p k : Int} (h0 : 0 ≤ k) (h : ∀ i, p ≤ i → i < p + k → isD (cO t n i)) : 0 ≤ dv t n p k ∧ dv t n p k < p10 k := dvf_b _ (fun i h1 h2 => h i h1 (by omega))
