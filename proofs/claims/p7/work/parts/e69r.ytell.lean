/-! the model's run of code over a row, against the spec's -/
/-- what code in the model's array says in a row -/
def utv (nw f : Int → Int) (a b : Int) : Option Int := yev (uC f a b) nw 1501 0 []
/-- bools in a row are 0 or 1 -/
def qnb (V : qVs) (nw : Int → Int) : Prop := ∃ _ : Unit, ∀ v, qB V v 2 → nw v = 0 ∨ nw v = 1
def utr (V : qVs) (ty : Int) (nw : Int → Int) (f : Int → Int) (a b : Int) (S : Int → Int) (k n : Int) : Prop := ∃ (D : Nat → List Int) (fu i : Nat) (st : List Int), (0 ≤ a ∧ a % 2 = 0 ∧ a ≤ b ∧ b % 2 = 0 ∧ b - a ≤ 3000) ∧ f b = 21 ∧ yTI (qB V) D [ty] (uC f a b) [] ∧ qnb V nw ∧ k = a + 2 * i ∧ k ≤ b ∧ utv nw f a b = yev (uC f a b) nw fu i st ∧ 1501 ≤ fu + i ∧ st.length = (D i).length ∧ n = st.length ∧ stk S (n - 1) st ∧ u01 st (D i)
theorem utr_0 {V : qVs} {nw f S : Int → Int} {a b x : Int} (h0 : 0 ≤ a ∧ a % 2 = 0 ∧ a ≤ b ∧ b % 2 = 0 ∧ b - a ≤ 3000) (hb : f b = 21) (hc : yTd V x (uC f a b)) (hq : qnb V nw) : utr V x nw f a b S a 0 := by
  obtain ⟨D, hT⟩ := hc
  refine ⟨D, 1501, 0, [], h0, hb, hT, hq, by omega, h0.2.2.1, rfl, by omega, by rw [hT.1], rfl, trivial, trivial⟩
theorem utr_g {f : Int → Int} {a b k : Int} {i : Nat} (ha : 0 ≤ a ∧ a % 2 = 0) (hk : k = a + 2 * i) (hkb : k < b) (hb : b % 2 = 0) : (uC f a b)[i]? = some (opm (f k), ydec (a / 2) (opm (f k)) (if 16 ≤ f k ∧ f k ≤ 20 then mhv (f (k + 1)) else f (k + 1))) := by
  have z := yCo_get (fr := a / 2) (u := b / 2) (i := a / 2 + i) (op := mop f) (wi := mwi f) (by omega) (by omega)
  rw [show (a / 2 + (i : Int) - a / 2).toNat = i by omega] at z
  have e : 2 * (a / 2 + (i : Int)) = k := by omega
  unfold uC
  rw [z]
  unfold mop mwi
  rw [e]
theorem utr_l {f : Int → Int} {a b : Int} (h0 : a % 2 = 0) (h : a ≤ b) (hb : b % 2 = 0) : a + 2 * ((uC f a b).length : Int) = b := by
  have z := uC_len (f := f) h
  omega
theorem utr_nj {fr o v : Int} (h : ¬ yjp o) : ydec fr o v = v := if_neg h
/-- where a jump goes -/
theorem utr_jv {f : Int → Int} {a k v : Int} {i : Nat} {N : Nat} {P : Nat → Prop} (ho : 16 ≤ f k ∧ f k ≤ 20) (h0 : 0 ≤ a ∧ a % 2 = 0) (hv : v = ydec (a / 2) (opm (f k)) (if 16 ≤ f k ∧ f k ≤ 20 then mhv (f (k + 1)) else f (k + 1))) (hn : ¬ v = -1) (h : v = -1 ∨ ∃ m : Nat, v = m ∧ i < m ∧ m ≤ N ∧ P m) : ∃ m : Nat, v = m ∧ f (k + 1) = a + 2 * m ∧ i < m ∧ m ≤ N ∧ P m := by
  rcases h with h | ⟨m, m1, m2, m3, m4⟩
  · exact absurd h hn
  · refine ⟨m, m1, ?_, m2, m3, m4⟩
    rw [if_pos ho] at hv
    unfold ydec at hv
    rw [if_pos (opm_j.mpr ho)] at hv
    by_cases z : mhv (f (k + 1)) = 0
    · rw [if_pos z] at hv; exact absurd hv hn
    · rw [if_neg z] at hv
      unfold mhv at hv
      split at hv <;> omega
section YTL
variable {V : qVs} {ty : Int} {nw f S : Int → Int} {a b k n : Int}
theorem utr_b (h : utr V ty nw f a b S k n) : (0 ≤ k ∧ a ≤ k ∧ k ≤ b) ∧ (0 ≤ n ∧ n ≤ 170) ∧ (¬ f k = 21 → k + 2 ≤ b) := by
  obtain ⟨D, fu, i, st, ⟨h0, h1, h2, h3, h4⟩, h5, hT, hn2, hk, hkb, hv, hfu, hl, hn, hs, hu⟩ := h
  have e := utr_l (f := f) h1 h2 h3
  have hD := hT.2.2.2.1 i (by omega)
  refine ⟨by omega, by omega, fun z => ?_⟩
  by_cases q : k = b
  · rw [q] at z; exact absurd h5 z
  · omega
theorem utr_s (h : utr V ty nw f a b S k n) (hf : f k = 21) (hb : k = b ∨ k < b) : k = b := by
  rcases hb with hb | hb
  · exact hb
  · exfalso
    obtain ⟨D, fu, i, st, ⟨h0, h1, h2, h3, h4⟩, h5, hT, hn2, hk, hkb, hv, hfu, hl, hn, hs, hu⟩ := h
    have hg := utr_g (f := f) ⟨h0, h1⟩ hk hb h3
    have hv := hT.2.2.1 i _ _ hg
    have e : opm (f k) = 44 := by rw [hf]; decide
    rw [e] at hv
    unfold yok at hv
    rcases hv with ⟨z, _⟩ | ⟨z, _⟩ | ⟨z, _⟩ | ⟨z, _⟩ | ⟨z, _⟩ | ⟨z, _⟩ | ⟨z, _⟩ | ⟨z, _⟩ | ⟨z, _⟩ <;> omega
theorem utr_e (h : utr V ty nw f a b S k n) (hf : f k = 21) : utv nw f a b = some (S 0) ∧ n = 1 ∧ (ty = 2 → S 0 = 0 ∨ S 0 = 1) := by
  have hkb' := (utr_b h).1.2.2
  have ek := utr_s h hf (by omega)
  subst ek
  obtain ⟨D, fu, i, st, ⟨h0, h1, h2, h3, h4⟩, h5, hT, hn2, hk, hkb, hv, hfu, hl, hn, hs, hu⟩ := h
  have e := utr_l (f := f) h1 h2 h3
  have ei : i = (uC f a k).length := by omega
  obtain ⟨fu, rfl⟩ : ∃ g, fu = g + 1 := ⟨fu - 1, by omega⟩
  have hD : D i = [ty] := by rw [ei]; exact hT.2.1
  obtain ⟨y, r, e2, hr⟩ := yod_D hl hD
  subst e2
  have hr0 : r = [] := by
    cases r with
    | nil => rfl
    | cons _ _ => cases hr
  subst hr0
  have e3 : n = 1 := by rw [hn]; rfl
  subst e3
  have z2 : S ((1 : Int) - 1) = y := hs.1
  have z3 : S 0 = y := z2
  rw [hD] at hu
  refine ⟨?_, rfl, fun t => ?_⟩
  · rw [hv]
    have hg : (uC f a k)[i]? = none := by rw [ei]; exact List.getElem?_eq_none (Nat.le_refl _)
    have z : yev (uC f a k) nw (fu + 1) i [y] = [y].head? := by
      show (match (uC f a k)[i]? with | none => [y].head? | some (o, v) => _) = _
      rw [hg]
    rw [z, z3]
    rfl
  · rw [z3]
    exact hu.1 t
theorem utr_lt (h : utr V ty nw f a b S k n) (hf : ¬ f k = 21) : k < b := by
  have := utr_b h
  omega
/-- PUSH -/
theorem utr_p {n' k' v : Int} (h : utr V ty nw f a b S k n) (hf : f k = 0) (hv' : v = f (k + 1)) (hk' : k' = k + 2) (hn' : n' = n + 1) : utr V ty nw f a b (hw_up S n v) k' n' := by
  have hlt := utr_lt h (by omega)
  subst hv' hk' hn'
  obtain ⟨D, fu, i, st, ⟨h0, h1, h2, h3, h4⟩, h5, hT, hn2, hk, hkb, hv, hfu, hl, hn, hs, hu⟩ := h
  have e := utr_l (f := f) h1 h2 h3
  obtain ⟨fu, rfl⟩ : ∃ g, fu = g + 1 := ⟨fu - 1, by omega⟩
  have hg := utr_g (f := f) ⟨h0, h1⟩ hk hlt h3
  rw [show opm (f k) = 3 by rw [hf]; decide, if_neg (by omega), utr_nj (by decide)] at hg
  have hy := hT.2.2.1 i _ _ hg
  unfold yok at hy
  have hD : D (i + 1) = 1 :: D i ∨ (D (i + 1) = 2 :: D i ∧ (f (k + 1) = 0 ∨ f (k + 1) = 1)) := by
    rcases hy with ⟨_, z⟩ | ⟨z, _⟩ | ⟨z, _⟩ | ⟨z, _⟩ | ⟨z, _⟩ | ⟨z, _⟩ | ⟨z, _⟩ | ⟨z, _⟩ | ⟨z, _⟩
    · exact z
    all_goals omega
  refine ⟨D, fu, i + 1, f (k + 1) :: st, ⟨h0, h1, h2, h3, h4⟩, h5, hT, hn2, by omega, by omega, ?_, by omega, ?_, by rw [List.length_cons]; omega, ?_, ?_⟩
  · rw [hv, ye_o hg, if_pos rfl]
  · rcases hD with z | ⟨z, _⟩ <;> rw [z, List.length_cons, List.length_cons, hl]
  · have z := stk_push (v := f (k + 1)) hs
    rw [show n - 1 + 1 = n by omega] at z
    rw [show n + 1 - 1 = n by omega]
    exact z
  · rcases hD with z | ⟨z, z2⟩
    · rw [z]; exact ⟨fun q => absurd q (by decide), hu⟩
    · rw [z]; exact ⟨fun _ => z2, hu⟩
theorem utr_ld {n' k' v : Int} (h : utr V ty nw f a b S k n) (hf : f k = 1) (hv' : v = nw (f (k + 1))) (hk' : k' = k + 2) (hn' : n' = n + 1) : utr V ty nw f a b (hw_up S n v) k' n' ∧ 0 ≤ f (k + 1) ∧ f (k + 1) < V.length := by
  have hlt := utr_lt h (by omega)
  subst hv' hk' hn'
  obtain ⟨D, fu, i, st, ⟨h0, h1, h2, h3, h4⟩, h5, hT, hn2, hk, hkb, hv, hfu, hl, hn, hs, hu⟩ := h
  have e := utr_l (f := f) h1 h2 h3
  obtain ⟨fu, rfl⟩ : ∃ g, fu = g + 1 := ⟨fu - 1, by omega⟩
  have hg := utr_g (f := f) ⟨h0, h1⟩ hk hlt h3
  rw [show opm (f k) = 2 by rw [hf]; decide, if_neg (by omega), utr_nj (by decide)] at hg
  have hy := hT.2.2.1 i _ _ hg
  unfold yok at hy
  obtain ⟨y, y1, y2, hD⟩ : ∃ y, (y = 1 ∨ y = 2) ∧ qB V (f (k + 1)) y ∧ D (i + 1) = y :: D i := by
    rcases hy with ⟨z, _⟩ | ⟨_, z⟩ | ⟨z, _⟩ | ⟨z, _⟩ | ⟨z, _⟩ | ⟨z, _⟩ | ⟨z, _⟩ | ⟨z, _⟩ | ⟨z, _⟩
    · omega
    · exact z
    all_goals omega
  refine ⟨⟨D, fu, i + 1, nw (f (k + 1)) :: st, ⟨h0, h1, h2, h3, h4⟩, h5, hT, hn2, by omega, by omega, ?_, by omega, ?_, by rw [List.length_cons]; omega, ?_, ?_⟩, y2.1, y2.2.1⟩
  · rw [hv, ye_o hg, if_neg (by decide), if_pos rfl]
  · rw [hD, List.length_cons, List.length_cons, hl]
  · have z := stk_push (v := nw (f (k + 1))) hs
    rw [show n - 1 + 1 = n by omega] at z
    rw [show n + 1 - 1 = n by omega]
    exact z
  · rw [hD]
    exact ⟨fun q => hn2.elim fun _ hn2 => hn2 _ (by rw [← q]; exact y2), hu⟩
/-- NOT -/
theorem utr_not {v k' p : Int} (h : utr V ty nw f a b S k n) (hf : f k = 14) (hp : p = n - 1) (hv' : v = 1 - S p) (hk' : k' = k + 2) : utr V ty nw f a b (hw_up S p v) k' n ∧ 1 ≤ n ∧ 0 ≤ S p ∧ S p ≤ 1 := by
  have hlt := utr_lt h (by omega)
  subst hv' hk' hp
  obtain ⟨D, fu, i, st, ⟨h0, h1, h2, h3, h4⟩, h5, hT, hn2, hk, hkb, hv, hfu, hl, hn, hs, hu⟩ := h
  have e := utr_l (f := f) h1 h2 h3
  obtain ⟨fu, rfl⟩ : ∃ g, fu = g + 1 := ⟨fu - 1, by omega⟩
  have hg := utr_g (f := f) ⟨h0, h1⟩ hk hlt h3
  rw [show opm (f k) = 31 by rw [hf]; decide, if_neg (by omega), utr_nj (by decide)] at hg
  have hy := hT.2.2.1 i _ _ hg
  unfold yok at hy
  obtain ⟨s, z1, z2⟩ : ∃ s, D i = 2 :: s ∧ D (i + 1) = 2 :: s := by
    rcases hy with ⟨z, _⟩ | ⟨z, _⟩ | ⟨_, z⟩ | ⟨z, _⟩ | ⟨z, _⟩ | ⟨z, _⟩ | ⟨z, _⟩ | ⟨z, _⟩ | ⟨z, _⟩
    · omega
    · omega
    · exact z
    all_goals omega
  obtain ⟨y, r, e2, hr⟩ := yod_D hl z1
  subst e2
  rw [z1] at hu
  have hyy := hu.1 rfl
  have hS := hs.1
  refine ⟨⟨D, fu, i + 1, (1 - y) :: r, ⟨h0, h1, h2, h3, h4⟩, h5, hT, hn2, by omega, by omega, ?_, by omega, ?_, by rw [List.length_cons] at hn ⊢; exact hn, ?_, ?_⟩, by rw [List.length_cons] at hn; omega, by omega, by omega⟩
  · rw [hv, ye_1 hg (by decide), if_pos rfl]
    have w : w3y (1 - y) = 1 - y := by
      unfold w3y
      omega
    rw [w]
  · rw [z2, List.length_cons, List.length_cons, hr]
  · rw [hS]; exact stk_set hs
  · rw [z2]; exact ⟨fun _ => by omega, hu.2⟩
/-- MINUS -/
theorem utr_neg {v k' p : Int} (h : utr V ty nw f a b S k n) (hf : f k = 15) (hp : p = n - 1) (hv' : yjoin 28 0 (S p) = some v) (hk' : k' = k + 2) : utr V ty nw f a b (hw_up S p v) k' n := by
  have hlt := utr_lt h (by omega)
  subst hk' hp
  obtain ⟨D, fu, i, st, ⟨h0, h1, h2, h3, h4⟩, h5, hT, hn2, hk, hkb, hv, hfu, hl, hn, hs, hu⟩ := h
  have e := utr_l (f := f) h1 h2 h3
  obtain ⟨fu, rfl⟩ : ∃ g, fu = g + 1 := ⟨fu - 1, by omega⟩
  have hg := utr_g (f := f) ⟨h0, h1⟩ hk hlt h3
  rw [show opm (f k) = 43 by rw [hf]; decide, if_neg (by omega), utr_nj (by decide)] at hg
  have hy := hT.2.2.1 i _ _ hg
  unfold yok at hy
  obtain ⟨s, z1, z2⟩ : ∃ s, D i = 1 :: s ∧ D (i + 1) = 1 :: s := by
    rcases hy with ⟨z, _⟩ | ⟨z, _⟩ | ⟨z, _⟩ | ⟨_, z⟩ | ⟨z, _⟩ | ⟨z, _⟩ | ⟨z, _⟩ | ⟨z, _⟩ | ⟨z, _⟩
    · omega
    · omega
    · omega
    · exact z
    all_goals omega
  obtain ⟨y, r, e2, hr⟩ := yod_D hl z1
  subst e2
  rw [z1] at hu
  rw [hs.1] at hv'
  refine ⟨D, fu, i + 1, v :: r, ⟨h0, h1, h2, h3, h4⟩, h5, hT, hn2, by omega, by omega, ?_, by omega, ?_, by rw [List.length_cons] at hn ⊢; exact hn, stk_set hs, ?_⟩
  · rw [hv, ye_1 hg (by decide), if_neg (by decide), if_pos rfl, hv']
  · rw [z2, List.length_cons, List.length_cons, hr]
  · rw [z2]; exact ⟨fun q => absurd q (by decide), hu.2⟩
theorem utr_negn {p : Int} (h : utr V ty nw f a b S k n) (hf : f k = 15) (hp : p = n - 1) (hv' : yjoin 28 0 (S p) = none) : utv nw f a b = none := by
  have hlt := utr_lt h (by omega)
  subst hp
  obtain ⟨D, fu, i, st, ⟨h0, h1, h2, h3, h4⟩, h5, hT, hn2, hk, hkb, hv, hfu, hl, hn, hs, hu⟩ := h
  have e := utr_l (f := f) h1 h2 h3
  obtain ⟨fu, rfl⟩ : ∃ g, fu = g + 1 := ⟨fu - 1, by omega⟩
  have hg := utr_g (f := f) ⟨h0, h1⟩ hk hlt h3
  rw [show opm (f k) = 43 by rw [hf]; decide, if_neg (by omega), utr_nj (by decide)] at hg
  have hy := hT.2.2.1 i _ _ hg
  unfold yok at hy
  obtain ⟨s, z1, z2⟩ : ∃ s, D i = 1 :: s ∧ D (i + 1) = 1 :: s := by
    rcases hy with ⟨z, _⟩ | ⟨z, _⟩ | ⟨z, _⟩ | ⟨_, z⟩ | ⟨z, _⟩ | ⟨z, _⟩ | ⟨z, _⟩ | ⟨z, _⟩ | ⟨z, _⟩
    · omega
    · omega
    · omega
    · exact z
    all_goals omega
  obtain ⟨y, r, e2, hr⟩ := yod_D hl z1
  subst e2
  rw [hs.1] at hv'
  rw [hv, ye_1 hg (by decide), if_neg (by decide), if_pos rfl, hv']
/-- how high the stack is -/
theorem utr_n1 (h : utr V ty nw f a b S k n) (hf : 14 ≤ f k ∧ f k ≤ 19) : 1 ≤ n := by
  have hlt := utr_lt h (by omega)
  obtain ⟨D, fu, i, st, ⟨h0, h1, h2, h3, h4⟩, h5, hT, hn2, hk, hkb, hv, hfu, hl, hn, hs, hu⟩ := h
  have hg := utr_g (f := f) ⟨h0, h1⟩ hk hlt h3
  have hy := hT.2.2.1 i _ _ hg
  have ho : opm (f k) = 31 ∨ opm (f k) = 43 ∨ opm (f k) = 34 ∨ opm (f k) = 32 ∨ opm (f k) = 33 ∨ opm (f k) = 20 := by
    rcases (by omega : f k = 14 ∨ f k = 15 ∨ f k = 16 ∨ f k = 17 ∨ f k = 18 ∨ f k = 19) with q | q | q | q | q | q <;> (rw [q]; decide)
  unfold yok at hy
  have hD : 1 ≤ (D i).length := by
    rcases hy with ⟨z, _⟩ | ⟨z, _⟩ | ⟨_, s, z, _⟩ | ⟨_, s, z, _⟩ | ⟨z, _⟩ | ⟨_, _, s, z, _⟩ | ⟨_, _, s, z, _⟩ | ⟨z, _⟩ | ⟨z, _⟩
    · omega
    · omega
    · rw [z, List.length_cons]; omega
    · rw [z, List.length_cons]; omega
    · omega
    · rw [z, List.length_cons]; omega
    · rw [z, List.length_cons]; omega
    · omega
    · omega
  omega
/-- GOTO -/
theorem utr_go {k' : Int} (h : utr V ty nw f a b S k n) (hf : f k = 20) (hk' : k' = f (k + 1)) : utr V ty nw f a b S k' n ∧ k < k' := by
  have hlt := utr_lt h (by omega)
  subst hk'
  obtain ⟨D, fu, i, st, ⟨h0, h1, h2, h3, h4⟩, h5, hT, hn2, hk, hkb, hv, hfu, hl, hn, hs, hu⟩ := h
  have e := utr_l (f := f) h1 h2 h3
  obtain ⟨fu, rfl⟩ : ∃ g, fu = g + 1 := ⟨fu - 1, by omega⟩
  have hg := utr_g (f := f) ⟨h0, h1⟩ hk hlt h3
  have hy := hT.2.2.1 i _ _ hg
  have hj := hT.2.2.2.2.2 i (opm (f k))
  have eo : opm (f k) = 35 := by rw [hf]; decide
  unfold yok at hy
  obtain ⟨m, m1, m2, m3, m4, m5⟩ : ∃ m : Nat, ydec (a / 2) (opm (f k)) (if 16 ≤ f k ∧ f k ≤ 20 then mhv (f (k + 1)) else f (k + 1)) = m ∧ f (k + 1) = a + 2 * m ∧ i < m ∧ m ≤ (uC f a b).length ∧ D m = D i := by
    refine utr_jv (P := fun m => D m = D i) (by omega) ⟨h0, h1⟩ rfl (fun z => ?_) ?_
    · rw [z] at hg
      have := hj hg (by unfold yjp; omega)
      cases this
    · rcases hy with ⟨z, _⟩ | ⟨z, _⟩ | ⟨z, _⟩ | ⟨z, _⟩ | ⟨_, z⟩ | ⟨z, _⟩ | ⟨z, _⟩ | ⟨z, _⟩ | ⟨z, _⟩
      · omega
      · omega
      · omega
      · omega
      · exact z
      all_goals (rename_i w; clear w; omega)
  clear hy
  refine ⟨⟨D, fu, m, st, ⟨h0, h1, h2, h3, h4⟩, h5, hT, hn2, m2, by omega, ?_, by omega, by rw [m5]; exact hl, hn, hs, by rw [m5]; exact hu⟩, by omega⟩
  rw [hv, ye_o hg, if_neg (by omega), if_neg (by omega), if_pos eo, m1, Int.toNat_natCast]
/-- jumps that look at what is on top -/
theorem utr_j (h : utr V ty nw f a b S k n) (hf : 16 ≤ f k ∧ f k ≤ 19) : k < f (k + 1) ∧ f (k + 1) ≤ b ∧
    (f k = 16 → (S (n - 1) = 0 → utr V ty nw f a b S (f (k + 1)) (n - 1)) ∧ (¬ S (n - 1) = 0 → utr V ty nw f a b S (k + 2) (n - 1))) ∧
    (f k = 17 → (S (n - 1) = 0 → utr V ty nw f a b S (f (k + 1)) n) ∧ (¬ S (n - 1) = 0 → utr V ty nw f a b S (k + 2) (n - 1))) ∧
    (f k = 18 → (S (n - 1) = 0 ∨ S (n - 1) = 1) ∧ (¬ S (n - 1) = 0 → utr V ty nw f a b S (f (k + 1)) n) ∧ (S (n - 1) = 0 → utr V ty nw f a b S (k + 2) (n - 1))) ∧
    (f k = 19 → (S (n - 1) = 0 → utr V ty nw f a b (hw_up S (n - 1) 1) (f (k + 1)) n) ∧ (¬ S (n - 1) = 0 → utr V ty nw f a b S (k + 2) (n - 1))) := by
  have hlt := utr_lt h (by omega)
  obtain ⟨D, fu, i, st, ⟨h0, h1, h2, h3, h4⟩, h5, hT, hn2, hk, hkb, hv, hfu, hl, hn, hs, hu⟩ := h
  have e := utr_l (f := f) h1 h2 h3
  obtain ⟨fu, rfl⟩ : ∃ g, fu = g + 1 := ⟨fu - 1, by omega⟩
  have hg := utr_g (f := f) ⟨h0, h1⟩ hk hlt h3
  have hy := hT.2.2.1 i _ _ hg
  have hj := hT.2.2.2.2.2 i (opm (f k))
  have hun : ¬ ydec (a / 2) (opm (f k)) (if 16 ≤ f k ∧ f k ≤ 20 then mhv (f (k + 1)) else f (k + 1)) = -1 := by
    intro z
    have hg2 := hg
    rw [z] at hg2
    have := hj hg2 (opm_j.mpr (by omega))
    cases this
  have ho : (f k = 16 ∧ opm (f k) = 34) ∨ (f k = 17 ∧ opm (f k) = 32) ∨ (f k = 18 ∧ opm (f k) = 33) ∨ (f k = 19 ∧ opm (f k) = 20) := by
    rcases (by omega : f k = 16 ∨ f k = 17 ∨ f k = 18 ∨ f k = 19) with q | q | q | q <;> (rw [q]; decide)
  generalize hvv : ydec (a / 2) (opm (f k)) (if 16 ≤ f k ∧ f k ≤ 20 then mhv (f (k + 1)) else f (k + 1)) = vv at hg hy hun
  unfold yok at hy
  have key : ∃ (aa : Int) (s : List Int) (m : Nat), D i = aa :: s ∧ D (i + 1) = s ∧ vv = m ∧ f (k + 1) = a + 2 * m ∧ i < m ∧ m ≤ (uC f a b).length ∧ (opm (f k) = 34 ∧ D m = s ∨ ¬ opm (f k) = 34 ∧ aa = 2 ∧ D m = 2 :: s) := by
    rcases hy with ⟨z, _⟩ | ⟨z, _⟩ | ⟨z, _⟩ | ⟨z, _⟩ | ⟨z, _⟩ | ⟨z0, aa, s, z1, z2, z3⟩ | ⟨z0, aa, s, z1, z2, z3⟩ | ⟨z, _⟩ | ⟨z, _⟩
    · omega
    · omega
    · omega
    · omega
    · omega
    · obtain ⟨m, m1, m2, m3, m4, m5⟩ := utr_jv (P := fun m => D m = s) (f := f) (k := k) (by omega) ⟨h0, h1⟩ hvv.symm hun z3
      exact ⟨aa, s, m, z1, z2, m1, m2, m3, m4, Or.inl ⟨z0, m5⟩⟩
    · obtain ⟨m, m1, m2, m3, m4, m5⟩ := utr_jv (P := fun m => aa = 2 ∧ D m = 2 :: s) (f := f) (k := k) (by omega) ⟨h0, h1⟩ hvv.symm hun (by
        rcases z3 with z3 | ⟨q, m, q1, q2, q3, q4⟩
        · exact Or.inl z3
        · exact Or.inr ⟨m, q1, q2, q3, q, q4⟩)
      exact ⟨aa, s, m, z1, z2, m1, m2, m3, m4, Or.inr ⟨by omega, m5⟩⟩
    · omega
    · omega
  obtain ⟨aa, s, m, z1, z2, m1, m2, m3, m4, m5⟩ := key
  clear hy
  obtain ⟨y, r, e2, hr⟩ := yod_D hl z1
  subst e2
  rw [z1] at hu
  have hS := hs.1
  have hn1 : n = r.length + 1 := by rw [hn, List.length_cons]; omega
  have ye := ye_1 (now := nw) (f := fu) (r := r) (x := y) hg (by omega)
  rw [ye] at hv
  refine ⟨by omega, by omega, fun q => ?_, fun q => ?_, fun q => ?_, fun q => ?_⟩
  · have eo : opm (f k) = 34 := by omega
    rw [if_neg (by omega), if_neg (by omega), if_pos eo] at hv
    have d5 : D m = s := by
      rcases m5 with m5 | m5
      · exact m5.2
      · omega
    refine ⟨fun w => ?_, fun w => ?_⟩
    · rw [if_pos (by omega)] at hv
      exact ⟨D, fu, m, r, ⟨h0, h1, h2, h3, h4⟩, h5, hT, hn2, m2, by omega, by rw [hv, m1, Int.toNat_natCast], by omega, by rw [d5]; exact hr, by omega, hs.2, by rw [d5]; exact hu.2⟩
    · rw [if_neg (by omega)] at hv
      exact ⟨D, fu, i + 1, r, ⟨h0, h1, h2, h3, h4⟩, h5, hT, hn2, by omega, by omega, hv, by omega, by rw [z2]; exact hr, by omega, hs.2, by rw [z2]; exact hu.2⟩
  · have eo : opm (f k) = 32 := by omega
    rw [if_neg (by omega), if_neg (by omega), if_neg (by omega), if_pos eo] at hv
    have d5 : aa = 2 ∧ D m = 2 :: s := by
      rcases m5 with m5 | m5
      · omega
      · exact m5.2
    refine ⟨fun w => ?_, fun w => ?_⟩
    · rw [if_pos (by omega)] at hv
      exact ⟨D, fu, m, y :: r, ⟨h0, h1, h2, h3, h4⟩, h5, hT, hn2, m2, by omega, by rw [hv, m1, Int.toNat_natCast], by omega, by rw [d5.2, List.length_cons, List.length_cons, hr], hn, hs, by rw [d5.2]; exact ⟨fun _ => hu.1 d5.1, hu.2⟩⟩
    · rw [if_neg (by omega)] at hv
      exact ⟨D, fu, i + 1, r, ⟨h0, h1, h2, h3, h4⟩, h5, hT, hn2, by omega, by omega, hv, by omega, by rw [z2]; exact hr, by omega, hs.2, by rw [z2]; exact hu.2⟩
  · have eo : opm (f k) = 33 := by omega
    rw [if_neg (by omega), if_neg (by omega), if_neg (by omega), if_neg (by omega), if_pos eo] at hv
    have d5 : aa = 2 ∧ D m = 2 :: s := by
      rcases m5 with m5 | m5
      · omega
      · exact m5.2
    have y1 := hu.1 d5.1
    refine ⟨by omega, fun w => ?_, fun w => ?_⟩
    · rw [if_neg (by omega)] at hv
      exact ⟨D, fu, m, y :: r, ⟨h0, h1, h2, h3, h4⟩, h5, hT, hn2, m2, by omega, by rw [hv, m1, Int.toNat_natCast], by omega, by rw [d5.2, List.length_cons, List.length_cons, hr], hn, hs, by rw [d5.2]; exact ⟨fun _ => y1, hu.2⟩⟩
    · rw [if_pos (by omega)] at hv
      exact ⟨D, fu, i + 1, r, ⟨h0, h1, h2, h3, h4⟩, h5, hT, hn2, by omega, by omega, hv, by omega, by rw [z2]; exact hr, by omega, hs.2, by rw [z2]; exact hu.2⟩
  · have eo : opm (f k) = 20 := by omega
    rw [if_neg (by omega), if_neg (by omega), if_neg (by omega), if_neg (by omega), if_neg (by omega), if_pos eo] at hv
    have d5 : aa = 2 ∧ D m = 2 :: s := by
      rcases m5 with m5 | m5
      · omega
      · exact m5.2
    refine ⟨fun w => ?_, fun w => ?_⟩
    · rw [if_pos (by omega)] at hv
      exact ⟨D, fu, m, 1 :: r, ⟨h0, h1, h2, h3, h4⟩, h5, hT, hn2, m2, by omega, by rw [hv, m1, Int.toNat_natCast], by omega, by rw [d5.2, List.length_cons, List.length_cons, hr], by rw [hn, List.length_cons, List.length_cons], stk_set hs, by rw [d5.2]; exact ⟨fun _ => Or.inr rfl, hu.2⟩⟩
    · rw [if_neg (by omega)] at hv
      exact ⟨D, fu, i + 1, r, ⟨h0, h1, h2, h3, h4⟩, h5, hT, hn2, by omega, by omega, hv, by omega, by rw [z2]; exact hr, by omega, hs.2, by rw [z2]; exact hu.2⟩
/-- two values become one -/
theorem utr_2 (h : utr V ty nw f a b S k n) (hf : 2 ≤ f k ∧ f k ≤ 13) : 2 ≤ n ∧ (∀ z, yjoin (opm (f k)) (S (n - 2)) (S (n - 1)) = some z → utr V ty nw f a b (hw_up S (n - 2) z) (k + 2) (n - 1)) ∧ (yjoin (opm (f k)) (S (n - 2)) (S (n - 1)) = none → utv nw f a b = none) := by
  have hlt := utr_lt h (by omega)
  obtain ⟨D, fu, i, st, ⟨h0, h1, h2, h3, h4⟩, h5, hT, hn2, hk, hkb, hv, hfu, hl, hn, hs, hu⟩ := h
  have e := utr_l (f := f) h1 h2 h3
  obtain ⟨fu, rfl⟩ : ∃ g, fu = g + 1 := ⟨fu - 1, by omega⟩
  have hg := utr_g (f := f) ⟨h0, h1⟩ hk hlt h3
  have hy := hT.2.2.1 i _ _ hg
  have ho : (15 ≤ opm (f k) ∧ opm (f k) ≤ 17) ∨ (27 ≤ opm (f k) ∧ opm (f k) ≤ 29) ∨ (21 ≤ opm (f k) ∧ opm (f k) ≤ 26) := by
    rcases (by omega : f k = 2 ∨ f k = 3 ∨ f k = 4 ∨ f k = 5 ∨ f k = 6 ∨ f k = 7 ∨ f k = 8 ∨ f k = 9 ∨ f k = 10 ∨ f k = 11 ∨ f k = 12 ∨ f k = 13) with q | q | q | q | q | q | q | q | q | q | q | q <;> (rw [q]; decide)
  unfold yok at hy
  have key : ∃ (a1 a2 t : Int) (s : List Int), D i = a1 :: a2 :: s ∧ D (i + 1) = t :: s ∧ (t = 2 → 21 ≤ opm (f k) ∧ opm (f k) ≤ 26) := by
    rcases hy with ⟨z, _⟩ | ⟨z, _⟩ | ⟨z, _⟩ | ⟨z, _⟩ | ⟨z, _⟩ | ⟨z, _⟩ | ⟨z, _⟩ | ⟨_, s, z1, z2⟩ | ⟨z0, aa, s, z1, z2⟩
    · omega
    · omega
    · omega
    · omega
    · omega
    · omega
    · omega
    · exact ⟨1, 1, 1, s, z1, z2, fun q => absurd q (by decide)⟩
    · exact ⟨aa, aa, 2, s, z1, z2, fun _ => z0⟩
  obtain ⟨a1, a2, t, s, z1, z2, z3⟩ := key
  clear hy
  obtain ⟨y, r, e2, hr⟩ := yod_D hl z1
  subst e2
  cases r with
  | nil => cases hr
  | cons y2 r2 =>
    rw [z1] at hu
    have hy1 := hs.1
    have hy2 := hs.2.1
    have hs2 := hs.2
    rw [show n - 1 - 1 = n - 2 by omega] at hy2 hs2
    have ye := ye_1 (now := nw) (f := fu) (r := y2 :: r2) (x := y) hg (by omega)
    rw [ye, if_neg (by omega), if_neg (by omega), if_neg (by omega), if_neg (by omega), if_neg (by omega), if_neg (by omega)] at hv
    dsimp only at hv
    rw [hy1, hy2]
    have hlen : n = r2.length + 2 := by rw [hn, List.length_cons, List.length_cons]; omega
    have hr2 : r2.length = s.length := by rw [List.length_cons, List.length_cons] at hr; omega
    refine ⟨by omega, fun z hz => ?_, fun hz => ?_⟩
    · rw [hz] at hv
      refine ⟨D, fu, i + 1, z :: r2, ⟨h0, h1, h2, h3, h4⟩, h5, hT, hn2, by omega, by omega, hv, by omega, by rw [z2, List.length_cons, List.length_cons, hr2], by rw [List.length_cons]; omega, ?_, ?_⟩
      · rw [show n - 1 - 1 = n - 2 by omega]
        exact stk_set hs2
      · rw [z2]
        exact ⟨fun q => yjoin_01 hz (z3 q), hu.2.2⟩
    · rw [hz] at hv
      exact hv
end YTL
