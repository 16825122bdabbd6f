/-! the model: code of expressions, well formed -/
section C63
/-- an instruction at k is in order, by the heights of the stack; jumps go ahead, at most to b -/
def op_ok (code H : Int → Int) (k b : Int) : Prop :=
  ((code k = 0 ∨ (code k = 1 ∧ 0 ≤ code (k + 1) ∧ code (k + 1) ≤ 7)) ∧ H (k + 2) = H k + 1) ∨
  ((code k = 14 ∨ code k = 15) ∧ 1 ≤ H k ∧ H (k + 2) = H k) ∨
  ((2 ≤ code k ∧ code k ≤ 13) ∧ 2 ≤ H k ∧ H (k + 2) = H k - 1) ∨
  (code k = 20 ∧ (k + 2 ≤ code (k + 1) ∧ code (k + 1) ≤ b ∧ (code (k + 1) - k) % 2 = 0) ∧ H (code (k + 1)) = H k) ∨
  (code k = 16 ∧ (k + 2 ≤ code (k + 1) ∧ code (k + 1) ≤ b ∧ (code (k + 1) - k) % 2 = 0) ∧ 1 ≤ H k ∧ H (k + 2) = H k - 1 ∧ H (code (k + 1)) = H k - 1) ∨
  ((17 ≤ code k ∧ code k ≤ 19) ∧ (k + 2 ≤ code (k + 1) ∧ code (k + 1) ≤ b ∧ (code (k + 1) - k) % 2 = 0) ∧ 1 ≤ H k ∧ H (k + 2) = H k - 1 ∧ H (code (k + 1)) = H k)
theorem op_c {f g H G : Int → Int} {k b p c : Int} (h : op_ok f H k b) (h1 : g k = f k) (h2 : g (k + 1) = f (k + 1)) (hG : ∀ q : Int, k ≤ q → q ≤ b → G q = H q + c) (hc : 0 ≤ c) (hk : k + 2 ≤ b) (hp : b ≤ p) : op_ok g G k p := by
  have a1 := hG k (Int.le_refl k) (by omega)
  have a2 := hG (k + 2) (by omega) hk
  unfold op_ok at h ⊢
  rw [h1, h2]
  rcases h with h | h | h | h | h | h
  · exact Or.inl ⟨h.1, by omega⟩
  · exact Or.inr (Or.inl ⟨h.1, by omega, by omega⟩)
  · exact Or.inr (Or.inr (Or.inl ⟨h.1, by omega, by omega⟩))
  · have a3 := hG (f (k + 1)) (by omega) h.2.1.2.1
    exact Or.inr (Or.inr (Or.inr (Or.inl ⟨h.1, ⟨h.2.1.1, by omega, h.2.1.2.2⟩, by omega⟩)))
  · have a3 := hG (f (k + 1)) (by omega) h.2.1.2.1
    exact Or.inr (Or.inr (Or.inr (Or.inr (Or.inl ⟨h.1, ⟨h.2.1.1, by omega, h.2.1.2.2⟩, by omega, by omega, by omega⟩))))
  · have a3 := hG (f (k + 1)) (by omega) h.2.1.2.1
    exact Or.inr (Or.inr (Or.inr (Or.inr (Or.inr ⟨h.1, ⟨h.2.1.1, by omega, h.2.1.2.2⟩, by omega, by omega, by omega⟩))))
/-- code from a to b leaves one value -/
def sc_ok (f : Int → Int) (a b : Int) : Prop := ∃ (H : Int → Int) (n : Nat), b = a + 2 * n ∧ H a = 0 ∧ H b = 1 ∧ ∀ i : Nat, i < n → op_ok f H (a + 2 * i) b ∧ 0 ≤ H (a + 2 * i) ∧ H (a + 2 * i) ≤ i
theorem sc_k {f g : Int → Int} {a b : Int} (h : sc_ok f a b) (hk : ∀ q : Int, a ≤ q → q < b → g q = f q) : sc_ok g a b := by
  obtain ⟨H, n, h1, h2, h3, h4⟩ := h
  refine ⟨H, n, h1, h2, h3, fun i hi => ?_⟩
  have h5 := h4 i hi
  exact ⟨op_c (c := 0) h5.1 (hk _ (by omega) (by omega)) (hk _ (by omega) (by omega)) (fun q _ _ => by omega) (Int.le_refl 0) (by omega) (Int.le_refl b), h5.2⟩
theorem sc_p {f : Int → Int} {a b : Int} (h : f a = 0 ∨ (f a = 1 ∧ 0 ≤ f (a + 1) ∧ f (a + 1) ≤ 7)) (hb : b = a + 2) : sc_ok f a b := by
  subst hb
  refine ⟨fun q => if q = a then 0 else 1, 1, by omega, if_pos rfl, if_neg (by omega), fun i hi => ?_⟩
  obtain rfl : i = 0 := by omega
  rw [show a + 2 * ((0 : Nat) : Int) = a by omega]
  refine ⟨Or.inl ⟨h, ?_⟩, ?_, ?_⟩
  · dsimp only
    rw [if_pos rfl, if_neg (by omega)]; rfl
  · dsimp only
    rw [if_pos rfl]; exact Int.le_refl _
  · dsimp only
    rw [if_pos rfl]; exact Int.le_refl _
theorem sc_u {f : Int → Int} {a b c : Int} (h : sc_ok f a b) (ho : f b = 14 ∨ f b = 15) (hc : c = b + 2) : sc_ok f a c := by
  subst hc
  obtain ⟨H, n, h1, h2, h3, h4⟩ := h
  have e0 : ∀ q : Int, q ≤ b → (fun q => if q ≤ b then H q else 1) q = H q := fun q hq => if_pos hq
  refine ⟨fun q => if q ≤ b then H q else 1, n + 1, by omega, (e0 a (by omega)).trans h2, if_neg (by omega), fun i hi => ?_⟩
  by_cases e : i = n
  · subst e
    rw [show a + 2 * (i : Int) = b by omega, e0 b (Int.le_refl b), h3]
    refine ⟨Or.inr (Or.inl ⟨ho, ?_, ?_⟩), by omega, ?_⟩
    · rw [e0 b (Int.le_refl b), h3]; exact Int.le_refl _
    · rw [e0 b (Int.le_refl b), h3]; exact if_neg (by omega)
    · by_cases z : i = 0
      · subst z
        rw [show b = a by omega] at h3
        omega
      · omega
  · have h5 := h4 i (by omega)
    rw [e0 (a + 2 * i) (by omega)]
    exact ⟨op_c (c := 0) h5.1 rfl rfl (fun q _ hq => (e0 q hq).trans (by omega)) (Int.le_refl 0) (by omega) (by omega), h5.2⟩
theorem sc_n {f : Int → Int} {a b : Int} (h : sc_ok f a b) : a + 2 ≤ b ∧ (b - a) % 2 = 0 := by
  obtain ⟨H, n, h1, h2, h3, h4⟩ := h
  by_cases z : n = 0
  · subst z
    rw [show b = a by omega] at h3
    omega
  · omega
/-- two values, then an operator -/
theorem sc_b {f : Int → Int} {a b c p : Int} (h : sc_ok f a b) (h' : sc_ok f b c) (ho : 2 ≤ f c ∧ f c ≤ 13) (hp : p = c + 2) : sc_ok f a p := by
  subst hp
  have z1 := sc_n h
  have z2 := sc_n h'
  obtain ⟨H, n, h1, h2, h3, h4⟩ := h
  obtain ⟨G, m, k1, k2, k3, k4⟩ := h'
  have e0 : ∀ q : Int, q ≤ b → (fun q => if q ≤ b then H q else if q ≤ c then G q + 1 else 1) q = H q := fun q hq => if_pos hq
  have e1 : ∀ q : Int, b ≤ q → q ≤ c → (fun q => if q ≤ b then H q else if q ≤ c then G q + 1 else 1) q = G q + 1 := fun q hq hq2 => by
    by_cases e : q ≤ b
    · obtain rfl : q = b := by omega
      refine (e0 q (Int.le_refl q)).trans ?_
      omega
    · exact (if_neg e).trans (if_pos hq2)
  have e2 : (fun q => if q ≤ b then H q else if q ≤ c then G q + 1 else 1) (c + 2) = 1 := (if_neg (by omega)).trans (if_neg (by omega))
  refine ⟨fun q => if q ≤ b then H q else if q ≤ c then G q + 1 else 1, n + m + 1, by omega, (e0 a (by omega)).trans h2, e2, fun i hi => ?_⟩
  by_cases q1 : i < n
  · have h5 := h4 i q1
    rw [e0 (a + 2 * i) (by omega)]
    exact ⟨op_c (c := 0) h5.1 rfl rfl (fun q _ hq => (e0 q hq).trans (by omega)) (Int.le_refl 0) (by omega) (by omega), h5.2⟩
  · by_cases q2 : i < n + m
    · have h5 := k4 (i - n) (by omega)
      rw [show b + 2 * ((i - n : Nat) : Int) = a + 2 * i by omega] at h5
      rw [e1 (a + 2 * i) (by omega) (by omega)]
      exact ⟨op_c (c := 1) h5.1 rfl rfl (fun q hq hq2 => e1 q (by omega) hq2) (by omega) (by omega) (by omega), by omega, by omega⟩
    · rw [show a + 2 * (i : Int) = c by omega, e1 c (by omega) (Int.le_refl c), k3]
      refine ⟨Or.inr (Or.inr (Or.inl ⟨ho, ?_, ?_⟩)), by omega, by omega⟩
      · rw [e1 c (by omega) (Int.le_refl c), k3]; exact Int.le_refl _
      · rw [e2, e1 c (by omega) (Int.le_refl c), k3]; rfl
/-- and, or, implies: the right side only where it is wanted -/
theorem sc_j {f : Int → Int} {a b c : Int} (h : sc_ok f a b) (h' : sc_ok f (b + 2) c) (ho : 17 ≤ f b ∧ f b ≤ 19) (hv : f (b + 1) = c) : sc_ok f a c := by
  have z1 := sc_n h
  have z2 := sc_n h'
  obtain ⟨H, n, h1, h2, h3, h4⟩ := h
  obtain ⟨G, m, k1, k2, k3, k4⟩ := h'
  have e0 : ∀ q : Int, q ≤ b → (fun q => if q ≤ b then H q else G q) q = H q := fun q hq => if_pos hq
  have e1 : ∀ q : Int, b < q → (fun q => if q ≤ b then H q else G q) q = G q := fun q hq => if_neg (by omega)
  refine ⟨fun q => if q ≤ b then H q else G q, n + m + 1, by omega, (e0 a (by omega)).trans h2, (e1 c (by omega)).trans k3, fun i hi => ?_⟩
  by_cases q1 : i < n
  · have h5 := h4 i q1
    rw [e0 (a + 2 * i) (by omega)]
    exact ⟨op_c (c := 0) h5.1 rfl rfl (fun q _ hq => (e0 q hq).trans (by omega)) (Int.le_refl 0) (by omega) (by omega), h5.2⟩
  · by_cases q2 : i = n
    · subst q2
      rw [show a + 2 * (i : Int) = b by omega, e0 b (Int.le_refl b), h3]
      refine ⟨Or.inr (Or.inr (Or.inr (Or.inr (Or.inr ⟨ho, ⟨?_, ?_, ?_⟩, ?_, ?_, ?_⟩)))), by omega, by omega⟩
      · omega
      · omega
      · omega
      · rw [e0 b (Int.le_refl b), h3]; exact Int.le_refl _
      · rw [e1 (b + 2) (by omega), k2, e0 b (Int.le_refl b), h3]; rfl
      · rw [hv, e1 c (by omega), k3, e0 b (Int.le_refl b), h3]
    · have h5 := k4 (i - n - 1) (by omega)
      rw [show b + 2 + 2 * ((i - n - 1 : Nat) : Int) = a + 2 * i by omega] at h5
      rw [e1 (a + 2 * i) (by omega)]
      exact ⟨op_c (c := 0) h5.1 rfl rfl (fun q hq hq2 => (e1 q (by omega)).trans (by omega)) (Int.le_refl 0) (by omega) (Int.le_refl c), by omega, by omega⟩
/-- a choice of two -/
theorem sc_i {f : Int → Int} {a b c p : Int} (h : sc_ok f a b) (h' : sc_ok f (b + 2) c) (h'' : sc_ok f (c + 2) p) (ho : f b = 16) (hv : f (b + 1) = c + 2) (ho2 : f c = 20) (hv2 : f (c + 1) = p) : sc_ok f a p := by
  have z1 := sc_n h
  have z2 := sc_n h'
  have z3 := sc_n h''
  obtain ⟨H, n, h1, h2, h3, h4⟩ := h
  obtain ⟨G, m, k1, k2, k3, k4⟩ := h'
  obtain ⟨F, l, l1, l2, l3, l4⟩ := h''
  have e0 : ∀ q : Int, q ≤ b → (fun q => if q ≤ b then H q else if q ≤ c then G q else F q) q = H q := fun q hq => if_pos hq
  have e1 : ∀ q : Int, b < q → q ≤ c → (fun q => if q ≤ b then H q else if q ≤ c then G q else F q) q = G q := fun q hq hq2 => (if_neg (by omega)).trans (if_pos hq2)
  have e2 : ∀ q : Int, c < q → (fun q => if q ≤ b then H q else if q ≤ c then G q else F q) q = F q := fun q hq => (if_neg (by omega)).trans (if_neg (by omega))
  refine ⟨fun q => if q ≤ b then H q else if q ≤ c then G q else F q, n + m + l + 2, by omega, (e0 a (by omega)).trans h2, (e2 p (by omega)).trans l3, fun i hi => ?_⟩
  by_cases q1 : i < n
  · have h5 := h4 i q1
    rw [e0 (a + 2 * i) (by omega)]
    exact ⟨op_c (c := 0) h5.1 rfl rfl (fun q _ hq => (e0 q hq).trans (by omega)) (Int.le_refl 0) (by omega) (by omega), h5.2⟩
  · by_cases q2 : i = n
    · subst q2
      rw [show a + 2 * (i : Int) = b by omega, e0 b (Int.le_refl b), h3]
      refine ⟨Or.inr (Or.inr (Or.inr (Or.inr (Or.inl ⟨ho, ⟨?_, ?_, ?_⟩, ?_, ?_, ?_⟩)))), by omega, by omega⟩
      · omega
      · omega
      · omega
      · rw [e0 b (Int.le_refl b), h3]; exact Int.le_refl _
      · rw [e1 (b + 2) (by omega) (by omega), k2, e0 b (Int.le_refl b), h3]; rfl
      · rw [hv, e2 (c + 2) (by omega), l2, e0 b (Int.le_refl b), h3]; rfl
    · by_cases q3 : i < n + m + 1
      · have h5 := k4 (i - n - 1) (by omega)
        rw [show b + 2 + 2 * ((i - n - 1 : Nat) : Int) = a + 2 * i by omega] at h5
        rw [e1 (a + 2 * i) (by omega) (by omega)]
        exact ⟨op_c (c := 0) h5.1 rfl rfl (fun q hq hq2 => (e1 q (by omega) hq2).trans (by omega)) (Int.le_refl 0) (by omega) (by omega), by omega, by omega⟩
      · by_cases q4 : i = n + m + 1
        · rw [show a + 2 * (i : Int) = c by omega, e1 c (by omega) (Int.le_refl c), k3]
          refine ⟨Or.inr (Or.inr (Or.inr (Or.inl ⟨ho2, ⟨?_, ?_, ?_⟩, ?_⟩))), by omega, by omega⟩
          · omega
          · omega
          · omega
          · rw [hv2, e2 p (by omega), l3, e1 c (by omega) (Int.le_refl c), k3]
        · have h5 := l4 (i - n - m - 2) (by omega)
          rw [show c + 2 + 2 * ((i - n - m - 2 : Nat) : Int) = a + 2 * i by omega] at h5
          rw [e2 (a + 2 * i) (by omega)]
          exact ⟨op_c (c := 0) h5.1 rfl rfl (fun q hq hq2 => (e2 q (by omega)).trans (by omega)) (Int.le_refl 0) (by omega) (Int.le_refl p), by omega, by omega⟩
/-- a program from a on: code, then the end; all of it before e -/
def wp_ok (f : Int → Int) (a e : Int) : Prop := ∃ b : Int, 0 ≤ a ∧ sc_ok f a b ∧ f b = 21 ∧ b + 2 ≤ e ∧ b - a ≤ 3990
theorem wp_k {f g : Int → Int} {a e p : Int} (h : wp_ok f a e) (hk : ∀ q : Int, 0 ≤ q → q < e → g q = f q) (hp : e ≤ p) : wp_ok g a p := by
  obtain ⟨b, h0, h1, h2, h3, h4⟩ := h
  have z := sc_n h1
  exact ⟨b, h0, sc_k h1 (fun q q1 q2 => hk q (by omega) (by omega)), by rw [hk b (by omega) (by omega)]; exact h2, by omega, h4⟩
end C63
