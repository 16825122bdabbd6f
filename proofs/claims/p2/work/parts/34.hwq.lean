/-! the abstract machine's cells -/
def hw_fok (T : hw_T) (Z : hw_Z) (f : hw_F) (v : Value) : Prop := match f with
  | .inl (j, b) => ∃ x : Int32, v = .int x ∧ Z.1[j]? = some x.toInt ∧ (b = true → x.toInt = 0 ∨ x.toInt = 1)
  | .inr (.inl (lo, hi)) => ∃ x : Int32, v = .int x ∧ lo ≤ x.toInt ∧ x.toInt ≤ hi
  | .inr (.inr (.inl (lo, hi))) => ∃ x : Int64, v = .long x ∧ lo ≤ x.toInt ∧ x.toInt ≤ hi
  | .inr (.inr (.inr k)) => hw_v T (.inr (.inr k)) v
/-- an array of ints, booleans or longs, by its elements -/
def hw_af (kk n : Nat) (e : mm_E) (g : Int → Int) : Prop := ((kk = 0 ∨ kk = 2) ∧ ∃ f : Nat → Int32, e = .inl (kk, n, .inl f) ∧ ∀ i : Nat, i < n → g i = (f i).toInt) ∨ (kk = 1 ∧ ∃ f : Nat → Int64, e = .inl (1, n, .inr (.inl f)) ∧ ∀ i : Nat, i < n → g i = (f i).toInt)
def hw_cok (T : hw_T) (Z : hw_Z) (s : hw_S) (e : mm_E) : Prop := match s with
  | .inl (c, fs) => ∃ vs, e = .inr (c, vs) ∧ vs.length = fs.length ∧ ∀ (k : Nat) (f : hw_F), fs[k]? = some f → ∃ v, vs[k]? = some v ∧ hw_fok T Z f v
  | .inr (kk, n, .inl (lo, hi, m)) => ∃ g : Int → Int, hw_af kk n e g ∧ ∀ i : Nat, i < n → lo ≤ g i ∧ g i ≤ hi + m * i
  | .inr (kk, n, .inr (.inl k)) => 3 ≤ kk ∧ ∃ f : Nat → Option Nat, e = .inl (kk, n, .inr (.inr (.inr (.inr f)))) ∧ ∀ i : Nat, i < n → ∃ b, f i = some b ∧ hw_v T (.inr (.inr k)) (.ref b)
  | .inr (kk, n, .inr (.inr j)) => ∃ g : Int → Int, Z.2[j]? = some g ∧ hw_af kk n e g
def hw_RS (T : hw_T) (Z : hw_Z) (S : mm_S) : Prop := S.1 ≤ mm_big ∧ ∀ a, T.2.2 a → a < S.1 ∧ hw_cok T Z (T.1 (T.2.1 a)) (S.2.2 a)
/-- each tracked place is of one cell -/
def hw_U (T : hw_T) : Prop := (∀ (a a' c c' : Nat) (fs fs' : List hw_F) (k k' j : Nat) (b b' : Bool), T.2.2 a → T.2.2 a' → T.1 (T.2.1 a) = .inl (c, fs) → T.1 (T.2.1 a') = .inl (c', fs') → fs[k]? = some (.inl (j, b)) → fs'[k']? = some (.inl (j, b')) → a = a' ∧ k = k') ∧
  (∀ (a a' kk kk' n n' j : Nat), T.2.2 a → T.2.2 a' → T.1 (T.2.1 a) = .inr (kk, n, .inr (.inr j)) → T.1 (T.2.1 a') = .inr (kk', n', .inr (.inr j)) → a = a')
/-- what lies elsewhere stays -/
def hw_el (T : hw_T) (S S' : mm_S) : Prop := S'.1 = S.1 ∧ S'.2.1 = S.2.1 ∧ ∀ b, ¬ T.2.2 b → S'.2.2 b = S.2.2 b
theorem hw_el_rf (T : hw_T) (S : mm_S) : hw_el T S S := ⟨rfl, rfl, fun _ _ => rfl⟩
theorem hw_el_tr {T : hw_T} {S S' S'' : mm_S} (h : hw_el T S S') (h' : hw_el T S' S'') : hw_el T S S'' := ⟨h'.1.trans h.1, h'.2.1.trans h.2.1, fun b q => (h'.2.2 b q).trans (h.2.2 b q)⟩
theorem hw_el_up {T : hw_T} {S : mm_S} {a : Nat} {e : mm_E} (ha : T.2.2 a) : hw_el T S (mm_up S a e) := ⟨rfl, rfl, fun b q => va_up_ne _ _ (fun h => q (h ▸ ha))⟩
theorem hw_RS_up {T : hw_T} {Z Z' : hw_Z} {S : mm_S} {a : Nat} {e : mm_E} (h : hw_RS T Z S) (ha : T.2.2 a) (hn : hw_cok T Z' (T.1 (T.2.1 a)) e) (ho : ∀ a' e', a' ≠ a → T.2.2 a' → hw_cok T Z (T.1 (T.2.1 a')) e' → hw_cok T Z' (T.1 (T.2.1 a')) e') : hw_RS T Z' (mm_up S a e) := by
  refine ⟨h.1, fun a' ha' => ?_⟩
  by_cases q : a' = a
  · subst q
    refine ⟨(h.2 a' ha').1, ?_⟩
    show hw_cok T Z' _ (va_up S.2.2 a' e a')
    rw [va_up_self]
    exact hn
  · refine ⟨(h.2 a' ha').1, ?_⟩
    show hw_cok T Z' _ (va_up S.2.2 a e a')
    rw [va_up_ne _ _ q]
    exact ho a' _ q ha' (h.2 a' ha').2
theorem hw_fok_set {T : hw_T} {Z : hw_Z} {j : Nat} {x : Int} {f : hw_F} {v : Value} (hj : ∀ b, f ≠ .inl (j, b)) (h : hw_fok T Z f v) : hw_fok T (Z.1.set j x, Z.2) f v := by
  rcases f with ⟨j', b⟩ | ⟨lo, hi⟩ | ⟨lo, hi⟩ | k
  · obtain ⟨y, h1, h2, h3⟩ := h
    refine ⟨y, h1, ?_, h3⟩
    show (Z.1.set j x)[j']? = _
    rw [List.getElem?_set_ne (fun q => hj b (by rw [q])), h2]
  · exact h
  · exact h
  · exact h
/-- a tracked field gets a value -/
theorem hw_RS_tf {T : hw_T} {Z : hw_Z} {S : mm_S} {a c k j : Nat} {b : Bool} {fs : List hw_F} {vs : List Value} {x : Int32} (hU : hw_U T) (h : hw_RS T Z S) (ha : T.2.2 a) (hs : T.1 (T.2.1 a) = .inl (c, fs)) (hk : fs[k]? = some (.inl (j, b))) (hc : S.2.2 a = .inr (c, vs)) (hb : b = true → x.toInt = 0 ∨ x.toInt = 1) :
    hw_RS T (Z.1.set j x.toInt, Z.2) (mm_up S a (.inr (c, vs.set k (.int x)))) := by
  have h0 := (h.2 a ha).2
  rw [hs] at h0
  obtain ⟨vs', e1, e2, e3⟩ := h0
  rw [hc] at e1
  cases e1
  obtain ⟨v0, g1, y, -, g2, -⟩ := e3 k _ hk
  have hjl : j < Z.1.length := by
    rcases Nat.lt_or_ge j Z.1.length with q | q
    · exact q
    · rw [List.getElem?_eq_none q] at g2; cases g2
  have hkl : k < vs.length := by
    rcases Nat.lt_or_ge k vs.length with q | q
    · exact q
    · rw [List.getElem?_eq_none q] at g1; cases g1
  refine hw_RS_up h ha ?_ (fun a' e' hne ha' hq => ?_)
  · rw [hs]
    refine ⟨_, rfl, by rw [List.length_set]; exact e2, fun k' f' hf' => ?_⟩
    by_cases q : k' = k
    · subst q
      rw [hk] at hf'
      cases hf'
      refine ⟨_, by rw [List.getElem?_set_self hkl], x, rfl, ?_, hb⟩
      show (Z.1.set j x.toInt)[j]? = _
      rw [List.getElem?_set_self hjl]
    · obtain ⟨v, w1, w2⟩ := e3 k' f' hf'
      refine ⟨v, by rw [List.getElem?_set_ne (fun z => q z.symm)]; exact w1, hw_fok_set (fun b' z => ?_) w2⟩
      subst z
      exact q (hU.1 a a c c fs fs k' k j b' b ha ha hs hs hf' hk).2
  · cases hs' : T.1 (T.2.1 a') with
    | inl o =>
      obtain ⟨c', fs'⟩ := o
      rw [hs'] at hq
      obtain ⟨ws, w1, w2, w3⟩ := hq
      refine ⟨ws, w1, w2, fun k' f' hf' => ?_⟩
      obtain ⟨v, y1, y2⟩ := w3 k' f' hf'
      refine ⟨v, y1, hw_fok_set (fun b' z => ?_) y2⟩
      subst z
      exact hne (hU.1 a' a c' c fs' fs k' k j b' b ha' ha hs' hs hf' hk).1
    | inr o =>
      obtain ⟨kk, n, ⟨lo, hi, m⟩ | k' | j'⟩ := o
      · rw [hs'] at hq; exact hq
      · rw [hs'] at hq; exact hq
      · rw [hs'] at hq; exact hq
/-- a field that is not tracked gets a value -/
theorem hw_RS_nf {T : hw_T} {Z : hw_Z} {S : mm_S} {a c k : Nat} {f : hw_F} {fs : List hw_F} {vs : List Value} {v : Value} (h : hw_RS T Z S) (ha : T.2.2 a) (hs : T.1 (T.2.1 a) = .inl (c, fs)) (hk : fs[k]? = some f) (hc : S.2.2 a = .inr (c, vs)) (hv : hw_fok T Z f v) :
    hw_RS T Z (mm_up S a (.inr (c, vs.set k v))) := by
  have h0 := (h.2 a ha).2
  rw [hs] at h0
  obtain ⟨vs', e1, e2, e3⟩ := h0
  rw [hc] at e1
  cases e1
  obtain ⟨v0, g1, -⟩ := e3 k _ hk
  have hkl : k < vs.length := by
    rcases Nat.lt_or_ge k vs.length with q | q
    · exact q
    · rw [List.getElem?_eq_none q] at g1; cases g1
  refine hw_RS_up h ha ?_ (fun a' e' hne ha' hq => hq)
  rw [hs]
  refine ⟨_, rfl, by rw [List.length_set]; exact e2, fun k' f' hf' => ?_⟩
  by_cases q : k' = k
  · subst q
    rw [hk] at hf'
    cases hf'
    exact ⟨_, by rw [List.getElem?_set_self hkl], hv⟩
  · obtain ⟨v', w1, w2⟩ := e3 k' f' hf'
    exact ⟨v', by rw [List.getElem?_set_ne (fun z => q z.symm)]; exact w1, w2⟩
/-- a tracked array gets an element -/
theorem hw_RS_ta {T : hw_T} {Z : hw_Z} {S : mm_S} {a kk n j : Nat} {e : mm_E} {g : Int → Int} (hU : hw_U T) (h : hw_RS T Z S) (ha : T.2.2 a) (hs : T.1 (T.2.1 a) = .inr (kk, n, .inr (.inr j))) (he : hw_af kk n e g) : hw_RS T (Z.1, Z.2.set j g) (mm_up S a e) := by
  have h0 := (h.2 a ha).2
  rw [hs] at h0
  obtain ⟨g0, e1, -⟩ := h0
  have hjl : j < Z.2.length := by
    rcases Nat.lt_or_ge j Z.2.length with q | q
    · exact q
    · rw [List.getElem?_eq_none q] at e1; cases e1
  refine hw_RS_up h ha ?_ (fun a' e' hne ha' hq => ?_)
  · rw [hs]
    refine ⟨g, ?_, he⟩
    show (Z.2.set j g)[j]? = _
    rw [List.getElem?_set_self hjl]
  · cases hs' : T.1 (T.2.1 a') with
    | inl o =>
      obtain ⟨c', fs'⟩ := o
      rw [hs'] at hq
      obtain ⟨ws, w1, w2, w3⟩ := hq
      refine ⟨ws, w1, w2, fun k' f' hf' => ?_⟩
      obtain ⟨v, y1, y2⟩ := w3 k' f' hf'
      refine ⟨v, y1, ?_⟩
      rcases f' with ⟨j', b⟩ | ⟨lo, hi⟩ | ⟨lo, hi⟩ | k
      · exact y2
      · exact y2
      · exact y2
      · exact y2
    | inr o =>
      obtain ⟨kk', n', ⟨lo, hi, m⟩ | k' | j'⟩ := o
      · rw [hs'] at hq; exact hq
      · rw [hs'] at hq; exact hq
      · rw [hs'] at hq
        obtain ⟨g1, q1, q2⟩ := hq
        refine ⟨g1, ?_, q2⟩
        show (Z.2.set j g)[j']? = _
        rw [List.getElem?_set_ne (fun z : j = j' => hne (hU.2 a' a kk' kk n' n j ha' ha (by rw [hs', z]) hs)), q1]
/-- an array that is not tracked gets an element -/
theorem hw_RS_na {T : hw_T} {Z : hw_Z} {S : mm_S} {a kk n : Nat} {e : mm_E} {lo hi m : Int} (h : hw_RS T Z S) (ha : T.2.2 a) (hs : T.1 (T.2.1 a) = .inr (kk, n, .inl (lo, hi, m))) (he : ∃ g : Int → Int, hw_af kk n e g ∧ ∀ i : Nat, i < n → lo ≤ g i ∧ g i ≤ hi + m * i) : hw_RS T Z (mm_up S a e) := by
  refine hw_RS_up h ha ?_ (fun a' e' hne ha' hq => hq)
  rw [hs]
  exact he
