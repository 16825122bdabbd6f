/-! the abstract machine's cells -/
/-- a tracked value is that one -/
def hw_tq (Z : hw_Z) (i : Int) (tr : hw_Tr) (x : Int) : Prop := match tr with
  | none => True
  | some (.inl j) => Z.1[j]? = some x
  | some (.inr j) => ∃ f, Z.2.2.1[j]? = some f ∧ f i = x
def hw_bq (rm : Int) (b : hw_B) (x : Int) : Prop := match b with
  | none => True
  | some (lo, some hi) => lo ≤ x ∧ x ≤ hi
  | some (lo, none) => lo ≤ x ∧ x ≤ rm
/-- the number of what a field, an array's place refers to -/
def hw_ix (o : hw_N) (i : Int) : Int := match o with
  | none => i
  | some (.inl c) => c
  | some (.inr (c, a)) => c + a * i
def hw_io (o : hw_N) (i p : Int) : Int := match o with
  | none => p
  | some (.inl c) => c + p
  | some (.inr (c, a)) => c + a * i + p
def hw_ln (ln : Option Nat) (rm : Int) : Int := match ln with
  | none => rm
  | some n => n
def hw_fok (T : hw_T) (Z : hw_Z) (i : Int) (f : hw_F) (v : Value) : Prop := match f with
  | .inl (tr, b) => ∃ x : Int32, v = .int x ∧ hw_tq Z i tr x.toInt ∧ hw_bq (T.2.2.2 i) b x.toInt
  | .inr (.inl (lo, hi)) => ∃ x : Int64, v = .long x ∧ lo ≤ x.toInt ∧ x.toInt ≤ hi
  | .inr (.inr (k, o)) => hw_v T (.inr (.inr (k, hw_ix o i))) v
/-- an array of ints, booleans or longs, by its elements -/
def hw_af (kk n : Nat) (e : mm_E) (g : Int → Int) : Prop := ((kk = 0 ∨ kk = 2) ∧ ∃ f : Nat → Int32, e = .inl (kk, n, .inl f) ∧ ∀ i : Nat, i < n → g i = (f i).toInt) ∨ (kk = 1 ∧ ∃ f : Nat → Int64, e = .inl (1, n, .inr (.inl f)) ∧ ∀ i : Nat, i < n → g i = (f i).toInt)
/-- tracked elements -/
def hw_ta (Z : hw_Z) (i : Int) (tr : hw_Tr) (g : Int → Int) : Prop := match tr with
  | none => True
  | some (.inl j) => Z.2.1[j]? = some g
  | some (.inr j) => ∃ h, Z.2.2.2[j]? = some h ∧ h i = g
def hw_ab (b : Option (Int × Int × Int)) (p x : Int) : Prop := match b with
  | none => True
  | some (lo, hi, m) => lo ≤ x ∧ x ≤ hi + m * p
def hw_cok (T : hw_T) (Z : hw_Z) (i : Int) (s : hw_S) (e : mm_E) : Prop := match s with
  | .inl (c, fs) => ∃ vs, e = .inr (c, vs) ∧ vs.length = fs.length ∧ ∀ (k : Nat) (f : hw_F), fs[k]? = some f → ∃ v, vs[k]? = some v ∧ hw_fok T Z i f v
  | .inr (kk, ln, .inl (tr, b)) => ∃ (n : Nat) (g : Int → Int), (n : Int) = hw_ln ln (T.2.2.2 i) ∧ hw_af kk n e g ∧ hw_ta Z i tr g ∧ ∀ p : Nat, p < n → hw_ab b p (g p)
  | .inr (kk, ln, .inr (k, o)) => 3 ≤ kk ∧ ∃ (n : Nat) (f : Nat → Option Nat), (n : Int) = hw_ln ln (T.2.2.2 i) ∧ e = .inl (kk, n, .inr (.inr (.inr (.inr f)))) ∧ ∀ p : Nat, p < n → ∃ b, f p = some b ∧ hw_v T (.inr (.inr (k, hw_io o i p))) (.ref b)
/-- what a cell is -/
abbrev hw_sh (T : hw_T) (a : Nat) : hw_S := T.1 (T.2.1 a).1
def hw_RS (T : hw_T) (Z : hw_Z) (S : mm_S) : Prop := S.1 ≤ mm_big ∧ ∀ a, T.2.2.1 a → a < S.1 ∧ hw_cok T Z (T.2.1 a).2 (hw_sh T a) (S.2.2 a)
/-- where a tracked value lies -/
def hw_lo (tr : hw_Tr) (i : Int) : Option (Nat ⊕ (Nat × Int)) := match tr with
  | none => none
  | some (.inl j) => some (.inl j)
  | some (.inr j) => some (.inr (j, i))
/-- kind and number are of one cell; each tracked place is of one cell -/
def hw_U (T : hw_T) : Prop := (∀ a a', T.2.2.1 a → T.2.2.1 a' → T.2.1 a = T.2.1 a' → a = a') ∧
  (∀ (a a' c c' : Nat) (fs fs' : List hw_F) (k k' : Nat) (tr tr' : hw_Tr) (b b' : hw_B) (lc : Nat ⊕ (Nat × Int)), T.2.2.1 a → T.2.2.1 a' → hw_sh T a = .inl (c, fs) → hw_sh T a' = .inl (c', fs') → fs[k]? = some (.inl (tr, b)) → fs'[k']? = some (.inl (tr', b')) → hw_lo tr (T.2.1 a).2 = some lc → hw_lo tr' (T.2.1 a').2 = some lc → a = a' ∧ k = k') ∧
  (∀ (a a' kk kk' : Nat) (ln ln' : Option Nat) (tr tr' : hw_Tr) (b b' : Option (Int × Int × Int)) (lc : Nat ⊕ (Nat × Int)), T.2.2.1 a → T.2.2.1 a' → hw_sh T a = .inr (kk, ln, .inl (tr, b)) → hw_sh T a' = .inr (kk', ln', .inl (tr', b')) → hw_lo tr (T.2.1 a).2 = some lc → hw_lo tr' (T.2.1 a').2 = some lc → a = a') ∧
  (∀ i, 0 ≤ T.2.2.2 i ∧ T.2.2.2 i ≤ 2000)
/-- what lies elsewhere stays -/
def hw_el (T : hw_T) (S S' : mm_S) : Prop := S'.1 = S.1 ∧ S'.2.1 = S.2.1 ∧ ∀ b, ¬ T.2.2.1 b → S'.2.2 b = S.2.2 b
theorem hw_el_rf (T : hw_T) (S : mm_S) : hw_el T S S := ⟨rfl, rfl, fun _ _ => rfl⟩
theorem hw_el_tr {T : hw_T} {S S' S'' : mm_S} (h : hw_el T S S') (h' : hw_el T S' S'') : hw_el T S S'' := ⟨h'.1.trans h.1, h'.2.1.trans h.2.1, fun b q => (h'.2.2 b q).trans (h.2.2 b q)⟩
theorem hw_el_up {T : hw_T} {S : mm_S} {a : Nat} {e : mm_E} (ha : T.2.2.1 a) : hw_el T S (mm_up S a e) := ⟨rfl, rfl, fun b q => va_up_ne _ _ (fun h => q (h ▸ ha))⟩
theorem hw_RS_up {T : hw_T} {Z Z' : hw_Z} {S : mm_S} {a : Nat} {e : mm_E} (h : hw_RS T Z S) (ha : T.2.2.1 a) (hn : hw_cok T Z' (T.2.1 a).2 (hw_sh T a) e) (ho : ∀ a' e', a' ≠ a → T.2.2.1 a' → hw_cok T Z (T.2.1 a').2 (hw_sh T a') e' → hw_cok T Z' (T.2.1 a').2 (hw_sh T a') e') : hw_RS T Z' (mm_up S a e) := by
  refine ⟨h.1, fun a' ha' => ?_⟩
  by_cases q : a' = a
  · subst q
    refine ⟨(h.2 a' ha').1, ?_⟩
    show hw_cok T Z' _ _ (va_up S.2.2 a' e a')
    rw [va_up_self]
    exact hn
  · refine ⟨(h.2 a' ha').1, ?_⟩
    show hw_cok T Z' _ _ (va_up S.2.2 a e a')
    rw [va_up_ne _ _ q]
    exact ho a' _ q ha' (h.2 a' ha').2
/-- a value of many at a place -/
def hw_up {α : Type} (g : Int → α) (i : Int) (x : α) : Int → α := fun q => if q = i then x else g q
theorem hw_up_s {α : Type} {g : Int → α} {i : Int} {x : α} : hw_up g i x i = x := if_pos rfl
theorem hw_up_n {α : Type} {g : Int → α} {i q : Int} {x : α} (h : ¬ q = i) : hw_up g i x q = g q := if_neg h
/-- a tracked field gets a value -/
def hw_tset (Z : hw_Z) (i : Int) (tr : hw_Tr) (x : Int) : hw_Z := match tr with
  | none => Z
  | some (.inl j) => (Z.1.set j x, Z.2)
  | some (.inr j) => match Z.2.2.1[j]? with
    | some f => (Z.1, Z.2.1, Z.2.2.1.set j (hw_up f i x), Z.2.2.2)
    | none => Z
/-- a tracked array gets an element -/
def hw_aset (Z : hw_Z) (i : Int) (tr : hw_Tr) (p x : Int) : hw_Z := match tr with
  | none => Z
  | some (.inl j) => match Z.2.1[j]? with
    | some g => (Z.1, Z.2.1.set j (hw_up g p x), Z.2.2)
    | none => Z
  | some (.inr j) => match Z.2.2.2[j]? with
    | some h => (Z.1, Z.2.1, Z.2.2.1, Z.2.2.2.set j (hw_up h i (hw_up (h i) p x)))
    | none => Z
theorem hw_get_lt {α : Type} {l : List α} {j : Nat} {x : α} (h : l[j]? = some x) : j < l.length := (List.getElem?_eq_some_iff.mp h).1
theorem hw_tq_self {Z : hw_Z} {i : Int} {tr : hw_Tr} {x y : Int} (h : hw_tq Z i tr y) : hw_tq (hw_tset Z i tr x) i tr x := by
  rcases tr with _ | j | j
  · trivial
  · have h : Z.1[j]? = some y := h
    show (Z.1.set j x)[j]? = _
    rw [List.getElem?_set_self (hw_get_lt h)]
  · obtain ⟨f, h1, h2⟩ := h
    show ∃ g, (hw_tset Z i (some (.inr j)) x).2.2.1[j]? = some g ∧ g i = x
    unfold hw_tset
    dsimp only
    rw [h1]
    exact ⟨_, List.getElem?_set_self (hw_get_lt h1), hw_up_s⟩
theorem hw_tq_other {Z : hw_Z} {i i' : Int} {tr tr' : hw_Tr} {x y : Int} (hn : ∀ lc, hw_lo tr i = some lc → hw_lo tr' i' = some lc → False) (h : hw_tq Z i' tr' y) : hw_tq (hw_tset Z i tr x) i' tr' y := by
  rcases tr' with _ | j' | j'
  · trivial
  · have h : Z.1[j']? = some y := h
    show (hw_tset Z i tr x).1[j']? = some y
    rcases tr with _ | j | j
    · exact h
    · have hj : j ≠ j' := fun q => hn (.inl j) rfl (by rw [q]; rfl)
      show (Z.1.set j x)[j']? = _
      rw [List.getElem?_set_ne hj]
      exact h
    · unfold hw_tset
      dsimp only
      split
      · exact h
      · exact h
  · obtain ⟨f, h1, h2⟩ := h
    show ∃ g, (hw_tset Z i tr x).2.2.1[j']? = some g ∧ g i' = y
    rcases tr with _ | j | j
    · exact ⟨f, h1, h2⟩
    · exact ⟨f, h1, h2⟩
    · unfold hw_tset
      dsimp only
      split
      · rename_i f0 hf0
        by_cases hj : j = j'
        · subst hj
          rw [h1] at hf0
          cases hf0
          have hi : ¬ i' = i := fun q => hn (.inr (j, i)) rfl (by rw [q]; rfl)
          exact ⟨_, List.getElem?_set_self (hw_get_lt h1), by rw [hw_up_n hi]; exact h2⟩
        · exact ⟨f, by show (List.set _ j _)[j']? = _; rw [List.getElem?_set_ne hj]; exact h1, h2⟩
      · exact ⟨f, h1, h2⟩
theorem hw_ta_tset {Z : hw_Z} {i i' : Int} {tr tr' : hw_Tr} {x : Int} {g : Int → Int} (h : hw_ta Z i' tr' g) : hw_ta (hw_tset Z i tr x) i' tr' g := by
  have e1 : (hw_tset Z i tr x).2.1 = Z.2.1 := by
    rcases tr with _ | j | j
    · rfl
    · rfl
    · unfold hw_tset
      dsimp only
      split <;> rfl
  have e2 : (hw_tset Z i tr x).2.2.2 = Z.2.2.2 := by
    rcases tr with _ | j | j
    · rfl
    · rfl
    · unfold hw_tset
      dsimp only
      split <;> rfl
  unfold hw_ta at h ⊢
  rw [e1, e2]
  exact h
theorem hw_ta_self {Z : hw_Z} {i p : Int} {tr : hw_Tr} {x : Int} {g : Int → Int} (h : hw_ta Z i tr g) : hw_ta (hw_aset Z i tr p x) i tr (hw_up g p x) := by
  rcases tr with _ | j | j
  · trivial
  · have h : Z.2.1[j]? = some g := h
    show (hw_aset Z i (some (.inl j)) p x).2.1[j]? = _
    unfold hw_aset
    dsimp only
    rw [h]
    exact List.getElem?_set_self (hw_get_lt h)
  · obtain ⟨f, h1, rfl⟩ := h
    show ∃ h, (hw_aset Z i (some (.inr j)) p x).2.2.2[j]? = some h ∧ h i = _
    unfold hw_aset
    dsimp only
    rw [h1]
    exact ⟨_, List.getElem?_set_self (hw_get_lt h1), hw_up_s⟩
theorem hw_ta_other {Z : hw_Z} {i i' p : Int} {tr tr' : hw_Tr} {x : Int} {g : Int → Int} (hn : ∀ lc, hw_lo tr i = some lc → hw_lo tr' i' = some lc → False) (h : hw_ta Z i' tr' g) : hw_ta (hw_aset Z i tr p x) i' tr' g := by
  rcases tr' with _ | j' | j'
  · trivial
  · have h : Z.2.1[j']? = some g := h
    show (hw_aset Z i tr p x).2.1[j']? = some g
    rcases tr with _ | j | j
    · exact h
    · have hj : j ≠ j' := fun q => hn (.inl j) rfl (by rw [q]; rfl)
      unfold hw_aset
      dsimp only
      split
      · show (List.set _ j _)[j']? = _
        rw [List.getElem?_set_ne hj]
        exact h
      · exact h
    · unfold hw_aset
      dsimp only
      split
      · exact h
      · exact h
  · obtain ⟨f, h1, h2⟩ := h
    show ∃ h, (hw_aset Z i tr p x).2.2.2[j']? = some h ∧ h i' = g
    rcases tr with _ | j | j
    · exact ⟨f, h1, h2⟩
    · unfold hw_aset
      dsimp only
      split
      · exact ⟨f, h1, h2⟩
      · exact ⟨f, h1, h2⟩
    · unfold hw_aset
      dsimp only
      split
      · rename_i f0 hf0
        by_cases hj : j = j'
        · subst hj
          rw [h1] at hf0
          cases hf0
          have hi : ¬ i' = i := fun q => hn (.inr (j, i)) rfl (by rw [q]; rfl)
          exact ⟨_, List.getElem?_set_self (hw_get_lt h1), by rw [hw_up_n hi]; exact h2⟩
        · exact ⟨f, by show (List.set _ j _)[j']? = _; rw [List.getElem?_set_ne hj]; exact h1, h2⟩
      · exact ⟨f, h1, h2⟩
theorem hw_tq_aset {Z : hw_Z} {i i' p : Int} {tr tr' : hw_Tr} {x y : Int} (h : hw_tq Z i' tr' y) : hw_tq (hw_aset Z i tr p x) i' tr' y := by
  have e1 : (hw_aset Z i tr p x).1 = Z.1 := by
    rcases tr with _ | j | j
    · rfl
    · unfold hw_aset
      dsimp only
      split <;> rfl
    · unfold hw_aset
      dsimp only
      split <;> rfl
  have e2 : (hw_aset Z i tr p x).2.2.1 = Z.2.2.1 := by
    rcases tr with _ | j | j
    · rfl
    · unfold hw_aset
      dsimp only
      split <;> rfl
    · unfold hw_aset
      dsimp only
      split <;> rfl
  unfold hw_tq at h ⊢
  rw [e1, e2]
  exact h
/-- an int field gets a value -/
theorem hw_RS_if {T : hw_T} {Z : hw_Z} {S : mm_S} {a c k : Nat} {tr : hw_Tr} {b : hw_B} {fs : List hw_F} {vs : List Value} {x : Int32} (hU : hw_U T) (h : hw_RS T Z S) (ha : T.2.2.1 a) (hs : hw_sh T a = .inl (c, fs)) (hk : fs[k]? = some (.inl (tr, b))) (hc : S.2.2 a = .inr (c, vs)) (hb : hw_bq (T.2.2.2 (T.2.1 a).2) b x.toInt) :
    hw_RS T (hw_tset Z (T.2.1 a).2 tr x.toInt) (mm_up S a (.inr (c, vs.set k (.int x)))) := by
  have h0 := (h.2 a ha).2
  rw [hs] at h0
  obtain ⟨vs', e1, e2, e3⟩ := h0
  rw [hc] at e1
  cases e1
  obtain ⟨v0, g1, y, -, g2, -⟩ := e3 k _ hk
  have hkl : k < vs.length := hw_get_lt g1
  refine hw_RS_up h ha ?_ (fun a' e' hne ha' hq => ?_)
  · rw [hs]
    refine ⟨_, rfl, by rw [List.length_set]; exact e2, fun k' f' hf' => ?_⟩
    by_cases q : k' = k
    · subst q
      rw [hk] at hf'
      cases hf'
      exact ⟨_, by rw [List.getElem?_set_self hkl], x, rfl, hw_tq_self g2, hb⟩
    · obtain ⟨v, w1, w2⟩ := e3 k' f' hf'
      refine ⟨v, by rw [List.getElem?_set_ne (fun z => q z.symm)]; exact w1, ?_⟩
      rcases f' with ⟨tr', b'⟩ | ⟨lo, hi⟩ | k2
      · obtain ⟨y', z1, z2, z3⟩ := w2
        exact ⟨y', z1, hw_tq_other (fun lc l1 l2 => q (hU.2.1 a a c c fs fs k' k tr' tr b' b lc ha ha hs hs hf' hk l2 l1).2) z2, z3⟩
      · exact w2
      · exact w2
  · cases hs' : hw_sh T a' with
    | inl o =>
      obtain ⟨c', fs'⟩ := o
      rw [hs'] at hq
      obtain ⟨ws, w1, w2, w3⟩ := hq
      refine ⟨ws, w1, w2, fun k' f' hf' => ?_⟩
      obtain ⟨v, y1, y2⟩ := w3 k' f' hf'
      refine ⟨v, y1, ?_⟩
      rcases f' with ⟨tr', b'⟩ | ⟨lo, hi⟩ | k2
      · obtain ⟨y', z1, z2, z3⟩ := y2
        exact ⟨y', z1, hw_tq_other (fun lc l1 l2 => hne (hU.2.1 a' a c' c fs' fs k' k tr' tr b' b lc ha' ha hs' hs hf' hk l2 l1).1) z2, z3⟩
      · exact y2
      · exact y2
    | inr o =>
      obtain ⟨kk, n, ⟨tr', b'⟩ | ⟨k', o'⟩⟩ := o
      · rw [hs'] at hq
        obtain ⟨n', g, q1, q2, q3, q4⟩ := hq
        exact ⟨n', g, q1, q2, hw_ta_tset q3, q4⟩
      · rw [hs'] at hq; exact hq
/-- a long field gets a value -/
theorem hw_RS_lf {T : hw_T} {Z : hw_Z} {S : mm_S} {a c k : Nat} {lo hi : Int} {fs : List hw_F} {vs : List Value} {v : Value} (h : hw_RS T Z S) (ha : T.2.2.1 a) (hs : hw_sh T a = .inl (c, fs)) (hk : fs[k]? = some (.inr (.inl (lo, hi)))) (hc : S.2.2 a = .inr (c, vs)) (hv : hw_fok T Z (T.2.1 a).2 (.inr (.inl (lo, hi))) v) :
    hw_RS T Z (mm_up S a (.inr (c, vs.set k v))) := by
  have h0 := (h.2 a ha).2
  rw [hs] at h0
  obtain ⟨vs', e1, e2, e3⟩ := h0
  rw [hc] at e1
  cases e1
  obtain ⟨v0, g1, -⟩ := e3 k _ hk
  have hkl : k < vs.length := hw_get_lt g1
  refine hw_RS_up h ha ?_ (fun a' e' hne ha' hq => hq)
  rw [hs]
  refine ⟨_, rfl, by rw [List.length_set]; exact e2, fun k' f' hf' => ?_⟩
  by_cases q : k' = k
  · subst q
    rw [hk] at hf'
    cases hf'
    exact ⟨_, by rw [List.getElem?_set_self hkl], hv⟩
  · obtain ⟨v', w1, w2⟩ := e3 k' f' hf'
    exact ⟨v', by rw [List.getElem?_set_ne (fun z => q z.symm)]; exact w1, w2⟩
/-- an array gets an element -/
theorem hw_RS_ia {T : hw_T} {Z : hw_Z} {S : mm_S} {a kk n : Nat} {ln : Option Nat} {tr : hw_Tr} {b : Option (Int × Int × Int)} {p x : Int} {g : Int → Int} {e : mm_E} (hU : hw_U T) (h : hw_RS T Z S) (ha : T.2.2.1 a) (hs : hw_sh T a = .inr (kk, ln, .inl (tr, b))) (hn : (n : Int) = hw_ln ln (T.2.2.2 (T.2.1 a).2)) (hg : hw_ta Z (T.2.1 a).2 tr g) (he : hw_af kk n e (hw_up g p x)) (hb : ∀ q : Nat, q < n → hw_ab b q (hw_up g p x q)) :
    hw_RS T (hw_aset Z (T.2.1 a).2 tr p x) (mm_up S a e) := by
  refine hw_RS_up h ha ?_ (fun a' e' hne ha' hq => ?_)
  · rw [hs]
    exact ⟨n, _, hn, he, hw_ta_self hg, hb⟩
  · cases hs' : hw_sh T a' with
    | inl o =>
      obtain ⟨c', fs'⟩ := o
      rw [hs'] at hq
      obtain ⟨ws, w1, w2, w3⟩ := hq
      refine ⟨ws, w1, w2, fun k' f' hf' => ?_⟩
      obtain ⟨v, y1, y2⟩ := w3 k' f' hf'
      refine ⟨v, y1, ?_⟩
      rcases f' with ⟨tr', b'⟩ | ⟨lo, hi⟩ | k2
      · obtain ⟨y', z1, z2, z3⟩ := y2
        exact ⟨y', z1, hw_tq_aset z2, z3⟩
      · exact y2
      · exact y2
    | inr o =>
      obtain ⟨kk', n', ⟨tr', b'⟩ | ⟨k', o'⟩⟩ := o
      · rw [hs'] at hq
        obtain ⟨m, g', q1, q2, q3, q4⟩ := hq
        exact ⟨m, g', q1, q2, hw_ta_other (fun lc l1 l2 => hne (hU.2.2.1 a' a kk' kk n' ln tr' tr b' b lc ha' ha hs' hs l2 l1)) q3, q4⟩
      · rw [hs'] at hq; exact hq
/-- an array that is tracked alone gets all its elements anew -/
theorem hw_RS_sa {T : hw_T} {Z : hw_Z} {S : mm_S} {a kk n j : Nat} {ln : Option Nat} {b : Option (Int × Int × Int)} {g g' : Int → Int} {e : mm_E} (hU : hw_U T) (h : hw_RS T Z S) (ha : T.2.2.1 a) (hs : hw_sh T a = .inr (kk, ln, .inl (some (.inl j), b))) (hn : (n : Int) = hw_ln ln (T.2.2.2 (T.2.1 a).2)) (hg : Z.2.1[j]? = some g) (he : hw_af kk n e g') (hb : ∀ q : Nat, q < n → hw_ab b q (g' q)) :
    hw_RS T (Z.1, Z.2.1.set j g', Z.2.2) (mm_up S a e) := by
  refine hw_RS_up h ha ?_ (fun a' e' hne ha' hq => ?_)
  · rw [hs]
    exact ⟨n, g', hn, he, List.getElem?_set_self (hw_get_lt hg), hb⟩
  · cases hs' : hw_sh T a' with
    | inl o =>
      obtain ⟨c', fs'⟩ := o
      rw [hs'] at hq
      obtain ⟨ws, w1, w2, w3⟩ := hq
      refine ⟨ws, w1, w2, fun k' f' hf' => ?_⟩
      obtain ⟨v, y1, y2⟩ := w3 k' f' hf'
      refine ⟨v, y1, ?_⟩
      rcases f' with ⟨tr', b'⟩ | ⟨lo, hi⟩ | k2
      · obtain ⟨y', z1, z2, z3⟩ := y2
        refine ⟨y', z1, ?_, z3⟩
        rcases tr' with _ | j' | j'
        · trivial
        · exact z2
        · exact z2
      · exact y2
      · exact y2
    | inr o =>
      obtain ⟨kk', n', ⟨tr', b'⟩ | ⟨k', o'⟩⟩ := o
      · rw [hs'] at hq
        obtain ⟨m, g2, q1, q2, q3, q4⟩ := hq
        refine ⟨m, g2, q1, q2, ?_, q4⟩
        rcases tr' with _ | j' | j'
        · trivial
        · have hj : j ≠ j' := by
            intro z
            subst z
            exact hne (hU.2.2.1 a' a kk' kk n' ln _ _ b' b (.inl j) ha' ha hs' hs rfl rfl)
          show (Z.2.1.set j g')[j']? = some g2
          rw [List.getElem?_set_ne hj]
          exact q3
        · exact q3
      · rw [hs'] at hq; exact hq
