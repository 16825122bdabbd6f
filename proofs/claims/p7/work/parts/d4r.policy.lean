/-! policies: chains that surely leave, better policies -/
section C4r
theorem fin_min {n : Nat} {y : Nat → Int} {S : Nat → Prop} (h : ∃ s, s < n ∧ S s) : ∃ s, s < n ∧ S s ∧ ∀ t, t < n → S t → y s ≤ y t := by
  induction n with
  | zero => obtain ⟨s, hs, _⟩ := h; exact absurd hs (Nat.not_lt_zero s)
  | succ n ih =>
    by_cases q : ∃ s, s < n ∧ S s
    · obtain ⟨s, h1, h2, h3⟩ := ih q
      by_cases p : S n ∧ y n < y s
      · refine ⟨n, Nat.lt_succ_self n, p.1, fun t ht hS => ?_⟩
        by_cases e : t = n
        · rw [e]; exact Int.le_refl _
        · have := h3 t (by omega) hS
          omega
      · refine ⟨s, by omega, h2, fun t ht hS => ?_⟩
        by_cases e : t = n
        · subst e
          rcases Int.lt_or_le (y t) (y s) with r | r
          · exact absurd ⟨hS, r⟩ p
          · exact r
        · exact h3 t (by omega) hS
    · obtain ⟨s, hs, hS⟩ := h
      have e : s = n := by
        by_cases e : s = n
        · exact e
        · exact absurd ⟨s, by omega, hS⟩ q
      subst e
      refine ⟨s, hs, hS, fun t ht hT => ?_⟩
      by_cases e : t = s
      · rw [e]; exact Int.le_refl _
      · exact absurd ⟨t, by omega, hT⟩ q
theorem sm_nn {n : Nat} {f : Nat → Int} (h : ∀ c, c < n → 0 ≤ f c) : 0 ≤ sm n f := by
  induction n with
  | zero => exact Int.le_refl _
  | succ n ih =>
    have h1 := ih (fun c hc => h c (by omega))
    have h2 := h n (Nat.lt_succ_self n)
    rw [sm_s]
    omega
theorem sm_ge {n i : Nat} {f : Nat → Int} (hi : i < n) (h : ∀ c, c < n → 0 ≤ f c) : f i ≤ sm n f := by
  induction n with
  | zero => exact absurd hi (Nat.not_lt_zero i)
  | succ n ih =>
    rw [sm_s]
    by_cases e : i = n
    · subst e
      have := sm_nn (n := i) (f := f) (fun c hc => h c (by omega))
      omega
    · have h1 := ih (by omega) (fun c hc => h c (by omega))
      have h2 := h n (Nat.lt_succ_self n)
      omega
theorem sm_sub {n : Nat} {q y : Nat → Int} {z : Int} : sm n (fun t => q t * (y t - z)) = sm n (fun t => q t * y t) - z * sm n q := by
  induction n with
  | zero => show (0 : Int) = 0 - z * 0; omega
  | succ n ih =>
    rw [sm_s, sm_s, sm_s, ih]
    grind
theorem sm_ad {n : Nat} {p r : Int} {q y z : Nat → Int} : sm n (fun t => q t * (p * y t - r * z t)) = p * sm n (fun t => q t * y t) - r * sm n (fun t => q t * z t) := by
  induction n with
  | zero => show (0 : Int) = p * 0 - r * 0; omega
  | succ n ih =>
    rw [sm_s, sm_s, sm_s, ih]
    grind
/-- rows of a chain: what they are made of -/
def pr_ok (n : Nat) (un : Nat → Prop) (q : Nat → Nat → Int) (B : Nat → Int) : Prop := (∀ s, un s → s < n) ∧ (∀ s t, un s → t < n → 0 ≤ q s t) ∧ (∀ s, un s → sm n (q s) = B s) ∧ (∀ s, un s → 0 < B s)
/-- no set of states is closed -/
def pp_ok (n : Nat) (un : Nat → Prop) (q : Nat → Nat → Int) : Prop := ∀ S : Nat → Prop, (∀ s, S s → un s) → (∃ s, S s) → ∃ s t, S s ∧ t < n ∧ ¬ S t ∧ 0 < q s t
theorem pp_min {n : Nat} {un : Nat → Prop} {q : Nat → Nat → Int} {B y : Nat → Int} (hr : pr_ok n un q B) (hp : pp_ok n un q) (h0 : ∀ s, s < n → ¬ un s → 0 ≤ y s) (hy : ∀ s, un s → sm n (fun t => q s t * y t) ≤ B s * y s) : ∀ s, s < n → 0 ≤ y s := by
  obtain ⟨hn, hq, hB, _⟩ := hr
  intro s hs
  rcases Int.lt_or_le (y s) 0 with q0 | q0
  · exfalso
    obtain ⟨z, hz1, _, hz2⟩ := fin_min (y := y) (S := fun _ => True) ⟨s, hs, True.intro⟩
    have hz3 := hz2 s hs True.intro
    obtain ⟨u, v, h1, h2, h3, h4⟩ := hp (fun t => t < n ∧ y t = y z) (fun t ht => by
      by_cases e : un t
      · exact e
      · have := h0 t ht.1 e
        omega) ⟨z, hz1, rfl⟩
    have hu : un u := by
      by_cases e : un u
      · exact e
      · have := h0 u h1.1 e
        omega
    have h5 := hz2 v h2 True.intro
    have h6 : ¬ y v = y z := fun e => h3 ⟨h2, e⟩
    have h7 := sm_ge (n := n) (i := v) (f := fun t => q u t * (y t - y z)) h2 (fun t ht => Int.mul_nonneg (hq u t hu ht) (by have := hz2 t ht True.intro; omega))
    rw [sm_sub, hB u hu] at h7
    have h8 := hy u hu
    have h9 : 0 < q u v * (y v - y z) := Int.mul_pos h4 (by omega)
    rw [h1.2, Int.mul_comm] at h8
    omega
  · exact q0
/-- choices that better, or stay: no set is closed under them either -/
theorem pp_new {n : Nat} {un : Nat → Prop} {q r : Nat → Nat → Int} {B V : Nat → Int} (hr : pr_ok n un r B) (hp : pp_ok n un q) (hc : ∀ s, un s → ((∀ t, t < n → r s t = q s t) ∧ B s * V s = sm n (fun t => r s t * V t)) ∨ B s * V s < sm n (fun t => r s t * V t)) : pp_ok n un r := by
  obtain ⟨hn, hq, hB, _⟩ := hr
  intro S hS hne
  by_cases hno : ∃ s t, S s ∧ t < n ∧ ¬ S t ∧ 0 < r s t
  · exact hno
  · exfalso
    have cl : ∀ s t, S s → t < n → 0 < r s t → S t := fun s t h1 h2 h3 => by
      by_cases e : S t
      · exact e
      · exact absurd ⟨s, t, h1, h2, e, h3⟩ hno
    obtain ⟨x, hx⟩ := hne
    obtain ⟨z, hz1, hz2, hz3⟩ := fin_min (n := n) (y := fun t => -V t) (S := S) ⟨x, hn x (hS x hx), hx⟩
    obtain ⟨u, v, h1, h2, h3, h4⟩ := hp (fun t => S t ∧ V t = V z) (fun t ht => hS t ht.1) ⟨z, hz2, rfl⟩
    have hu := hS u h1.1
    have nn : ∀ t, t < n → 0 ≤ r u t * (V z - V t) := fun t ht => by
      have h5 := hq u t hu ht
      by_cases e : r u t = 0
      · rw [e, Int.zero_mul]; exact Int.le_refl _
      · have := hz3 t ht (cl u t h1.1 ht (by omega))
        exact Int.mul_nonneg h5 (by omega)
    have eq : sm n (fun t => r u t * (V z - V t)) = V z * B u - sm n (fun t => r u t * V t) := by
      have e1 : sm n (fun t => r u t * (V z - V t)) = sm n (fun t => (-1) * (r u t * (V t - V z))) := sm_eq (fun t _ => by grind)
      rw [e1, sm_m, sm_sub, hB u hu]
      omega
    have h6 : V z * B u = B u * V u := by rw [h1.2, Int.mul_comm]
    rcases hc u hu with ⟨h7, h8⟩ | h7
    · have h9 : 0 < r u v := by rw [h7 v h2]; exact h4
      have h10 := cl u v h1.1 h2 h9
      have h11 := hz3 v h2 h10
      have h12 : ¬ V v = V z := fun e => h3 ⟨h10, e⟩
      have h13 := sm_ge (n := n) (i := v) (f := fun t => r u t * (V z - V t)) h2 nn
      have h14 : 0 < r u v * (V z - V v) := Int.mul_pos h9 (by omega)
      rw [eq] at h13
      omega
    · have h13 := sm_nn (n := n) (f := fun t => r u t * (V z - V t)) nn
      rw [eq] at h13
      omega
/-- values of a policy -/
def pv_ok (n : Nat) (un tg : Nat → Prop) (q : Nat → Nat → Int) (B : Nat → Int) (D : Int) (V : Nat → Int) : Prop := 0 < D ∧ ∀ s, s < n → (un s → B s * V s = sm n (fun t => q s t * V t)) ∧ (¬ un s → (tg s → V s = D) ∧ (¬ tg s → V s = 0))
/-- better choices, better values (x is 1 where more is better, else -1) -/
theorem pv_up {n : Nat} {un tg : Nat → Prop} {q : Nat → Nat → Int} {B V W : Nat → Int} {D C x : Int} (hx : x = 1 ∨ x = -1) (hr : pr_ok n un q B) (hp : pp_ok n un q) (hC : 0 < C) (hD : 0 < D) (hV : ∀ s, s < n → ¬ un s → (tg s → V s = D) ∧ (¬ tg s → V s = 0)) (hW : pv_ok n un tg q B C W) (hb : ∀ s, un s → 0 ≤ x * (sm n (fun t => q s t * V t) - B s * V s)) : ∀ s, s < n → 0 ≤ x * (W s * D - V s * C) ∧ (un s → 0 < x * (sm n (fun t => q s t * V t) - B s * V s) → 0 < x * (W s * D - V s * C)) := by
  have key : ∀ s, un s → sm n (fun t => q s t * (x * (W t * D - V t * C))) = B s * (x * (W s * D - V s * C)) - C * (x * (sm n (fun t => q s t * V t) - B s * V s)) := by
    intro s hs
    have e1 := ((hW.2 s (hr.1 s hs)).1 hs)
    have e2 : sm n (fun t => q s t * (x * (W t * D - V t * C))) = sm n (fun t => q s t * ((x * D) * W t - (x * C) * V t)) := sm_eq (fun t _ => by grind)
    rw [e2, sm_ad, ← e1]
    generalize sm n (fun t => q s t * V t) = A at *
    grind
  have nn := pp_min (y := fun s => x * (W s * D - V s * C)) hr hp (fun s hs hu => by
    have h1 := hV s hs hu
    have h2 := (hW.2 s hs).2 hu
    have e : W s * D - V s * C = 0 := by
      by_cases t : tg s
      · rw [h1.1 t, h2.1 t, Int.mul_comm]; omega
      · rw [h1.2 t, h2.2 t, Int.zero_mul, Int.zero_mul]; omega
    rw [e, Int.mul_zero]
    exact Int.le_refl _) (fun s hs => by
    have h1 := key s hs
    have h2 := Int.mul_nonneg (Int.le_of_lt hC) (hb s hs)
    omega)
  refine fun s hs => ⟨nn s hs, fun hu h1 => ?_⟩
  have h2 := key s hu
  have h3 := Int.mul_pos hC h1
  have h4 := sm_nn (n := n) (f := fun t => q s t * (x * (W t * D - V t * C))) (fun t ht => Int.mul_nonneg (hr.2.1 s t hu ht) (nn t ht))
  have h5 : 0 < B s * (x * (W s * D - V s * C)) := by omega
  rcases Int.lt_or_le 0 (x * (W s * D - V s * C)) with p | p
  · exact p
  · have := in_pn (Int.le_of_lt (hr.2.2.2 s hu)) p
    omega
/-- all values together get better -/
theorem pv_sum {n s : Nat} {V W : Nat → Int} {D C x : Int} (hs : s < n) (h : ∀ s, s < n → 0 ≤ x * (W s * D - V s * C)) (h1 : 0 < x * (W s * D - V s * C)) : 0 < x * (sm n W * D - sm n V * C) := by
  have e : x * (sm n W * D - sm n V * C) = sm n (fun s => x * (W s * D - V s * C)) := by
    clear hs h h1
    induction n with
    | zero => show x * (0 * D - 0 * C) = 0; rw [Int.zero_mul, Int.zero_mul, Int.sub_self, Int.mul_zero]
    | succ n ih =>
      rw [sm_s, sm_s, sm_s, ← ih]
      grind
  have h2 := sm_ge (f := fun s => x * (W s * D - V s * C)) hs h
  omega
/-- distinct numbers below a bound are not many -/
theorem nd_le {M : Nat} : ∀ {l : List Nat}, l.Nodup → (∀ x, x ∈ l → x < M) → l.length ≤ M := by
  induction M with
  | zero =>
    intro l _ h
    match l with
    | [] => exact Nat.le_refl _
    | x :: _ => exact absurd (h x List.mem_cons_self) (Nat.not_lt_zero x)
  | succ M ih =>
    intro l hn h
    by_cases q : M ∈ l
    · have h1 := ih (l := l.erase M) (hn.erase M) (fun x hx => by
        have h2 := (hn.mem_erase_iff).mp hx
        have := h x h2.2
        omega)
      rw [List.length_erase_of_mem q] at h1
      omega
    · have h1 := ih hn (fun x hx => by
        have h2 := h x hx
        have h3 : ¬ x = M := fun e => q (e ▸ hx)
        omega)
      omega
end C4r
