/-! an expression is read: what waits (kind, rank, TYPE, jump), the code (instruction, operand; jumps from its beginning, -1: not yet known) -/
abbrev yE : Type := Int × Int × Int × Int
abbrev yC : Type := List (Int × Int)
/-- 0: behind an operand, 1: before one, 2: before the bracket of a function; what waits; nested; code; TYPE -/
abbrev yG : Type := Int × List yE × Int × yC × Int
def yrank (q : Int) : Int := if q = 34 then 1 else if q = 20 then 2 else if q = 33 then 3 else if q = 32 then 4 else if 21 ≤ q ∧ q ≤ 26 then 6 else if q = 27 ∨ q = 28 then 7 else if q = 29 then 8 else 0
def ythr (q : Int) : Int := if yrank q ≤ 2 ∨ yrank q = 6 then yrank q + 1 else yrank q
abbrev yfit (k r a ty : Int) : Prop := (r = 1 ∨ k = 24 ∨ k = 21) ∧ a = ty ∨ ¬ (r = 1 ∨ k = 24 ∨ k = 21) ∧ (6 ≤ r ∧ a = 1 ∧ ty = 1 ∨ r < 6 ∧ a = 2 ∧ ty = 2)
def yaim (C : yC) (j : Int) : yC := C.set j.toNat ((C.getD j.toNat (0, 0)).1, (C.length : Int))
def ytop (W : List yE) : Int := match W with
  | [] => 0
  | (_, r, _, _) :: _ => r
/-- what one that waits leaves: nested, code, TYPE -/
def yd1 (r d : Int) : Int := if r ≤ 2 ∨ r = 5 ∨ r = 9 then d - 1 else d
def yc1 (k j : Int) (C : yC) : yC := if 0 ≤ j then yaim C j else C ++ [(k, 0)]
def yt1 (r ty : Int) : Int := if r = 1 then ty else if 7 ≤ r then 1 else 2
def yset (thr : Int) : List yE → Int → yC → Int → Option (List yE × Int × yC × Int)
  | [], d, C, ty => some ([], d, C, ty)
  | (k, r, a, j) :: W, d, C, ty => if thr ≤ r then (if yfit k r a ty then yset thr W (yd1 r d) (yc1 k j C) (yt1 r ty) else none) else some ((k, r, a, j) :: W, d, C, ty)
/-- behind all operators: what the innermost bracket makes of it -/
def ybr (q : Int) (W : List yE) (d : Int) (C : yC) (ty : Int) : Option (yG ⊕ (Int × yC)) := match W with
  | [] => some (.inr (ty, C))
  | (k, r, a, jm) :: W => if k = 34 ∧ q = 35 then some (.inl (1, (34, 1, (if a = 2 then ty else 0), (C.length : Int)) :: W, d, yaim (C ++ [(35, -1)]) jm, 0))
    else if k = 39 ∧ q = 40 then some (.inl (0, W, d - 1, C, ty))
    else if (15 ≤ k ∧ k ≤ 17) ∧ a = 0 ∧ q = 37 then some (.inl (1, (k, r, ty, jm) :: W, d, C, 0))
    else if (15 ≤ k ∧ k ≤ 17) ∧ ¬ a = 0 ∧ q = 40 then some (.inl (0, (k, 9, a, jm) :: W, d, C, ty))
    else none
def yop (q : Int) (W : List yE) (d : Int) (C : yC) (ty : Int) : Option (yG ⊕ (Int × yC)) :=
  if yrank q = 0 then ybr q W d C ty
  else if yrank q ≤ 2 ∧ 40 ≤ d then none
  else if q = 32 ∨ q = 33 ∨ q = 20 ∨ q = 34 then some (.inl (1, (q, (if q = 34 then 0 else yrank q), ty, (C.length : Int)) :: W, (if yrank q ≤ 2 then d + 1 else d), C ++ [(q, -1)], 0))
  else some (.inl (1, (q, yrank q, ty, -1) :: W, d, C, 0))
def yhave (q : Int) (W : List yE) (d : Int) (C : yC) (ty : Int) : Option (yG ⊕ (Int × yC)) := match yset (ythr q) W d C ty with
  | none => none
  | some (W1, d1, C1, t1) => if yrank q = 6 ∧ ytop W1 = 6 then (match yset 1 W1 d1 C1 t1 with
      | none => none
      | some (W2, d2, C2, t2) => ybr q W2 d2 C2 t2)
    else yop q W1 d1 C1 t1
def ywant (o : Option (Int × Int × Int)) (q : Int) (W : List yE) (d : Int) (C : yC) : Option (yG ⊕ (Int × yC)) := match o with
  | some (c, v, t) => some (.inl (0, W, d, C ++ [(c, v)], t))
  | none => if q = 31 then (if 5 < ytop W ∨ 40 ≤ d then none else some (.inl (1, (31, 5, 2, -1) :: W, d + 1, C, 0)))
    else if q = 28 then (if 40 ≤ d then none else some (.inl (1, (43, 9, 1, -1) :: W, d + 1, C, 0)))
    else if q = 39 then (if 40 ≤ d then none else some (.inl (1, (39, 0, 0, -1) :: W, d + 1, C, 0)))
    else if 15 ≤ q ∧ q ≤ 17 then (if 40 ≤ d then none else some (.inl (2, (q, 0, 0, -1) :: W, d + 1, C, 0)))
    else none
def ystep (o : Option (Int × Int × Int)) (q : Int) (c : yG) : Option (yG ⊕ (Int × yC)) := match c with
  | (m, W, d, C, ty) => if m = 0 then yhave q W d C ty else if m = 1 then ywant o q W d C else if q = 39 then some (.inl (1, W, d, C, 0)) else none
/-- k: the TOKENS' kinds; od: what a TOKEN is as an operand (instruction, operand, TYPE); q: the kind that is seen at j -/
def yRf (k : Int → Int) (od : Int → Option (Int × Int × Int)) : Nat → yG → Int → Int → Option (Int × Int × yC)
  | 0, _, _, _ => none
  | f + 1, c, q, j => match ystep (od j) q c with
    | none => none
    | some (.inr (ty, C)) => some (j, ty, C)
    | some (.inl c) => if k (j + 1) = 1 then none else yRf k od f c (k (j + 1)) (j + 1)
def yR (k : Int → Int) (od : Int → Option (Int × Int × Int)) (c : yG) (q j : Int) : Option (Int × Int × yC) := yRf k od (1501 - j).toNat c q j
theorem yR_u {k : Int → Int} {od : Int → Option (Int × Int × Int)} {c : yG} {q j : Int} (h : j < 1501) : yR k od c q j = match ystep (od j) q c with
    | none => none
    | some (.inr (ty, C)) => some (j, ty, C)
    | some (.inl c) => if k (j + 1) = 1 then none else yR k od c (k (j + 1)) (j + 1) := by
  unfold yR
  rw [show (1501 - j).toNat = (1501 - (j + 1)).toNat + 1 by omega]
  rfl
theorem yR_n {k : Int → Int} {od : Int → Option (Int × Int × Int)} {c : yG} {q j : Int} (h : j < 1501) (hs : ystep (od j) q c = none) : yR k od c q j = none := by rw [yR_u h, hs]
theorem yR_d {k : Int → Int} {od : Int → Option (Int × Int × Int)} {c : yG} {q j ty : Int} {C : yC} (h : j < 1501) (hs : ystep (od j) q c = some (.inr (ty, C))) : yR k od c q j = some (j, ty, C) := by rw [yR_u h, hs]
theorem yR_g {k : Int → Int} {od : Int → Option (Int × Int × Int)} {c c' : yG} {q j : Int} (h : j < 1501) (hs : ystep (od j) q c = some (.inl c')) (hk : ¬ k (j + 1) = 1) : yR k od c q j = yR k od c' (k (j + 1)) (j + 1) := by
  rw [yR_u h, hs]
  exact if_neg hk
theorem yR_b {k : Int → Int} {od : Int → Option (Int × Int × Int)} {c c' : yG} {q j : Int} (h : j < 1501) (hs : ystep (od j) q c = some (.inl c')) (hk : k (j + 1) = 1) : yR k od c q j = none := by
  rw [yR_u h, hs]
  exact if_pos hk
theorem yR_c {k : Int → Int} {od : Int → Option (Int × Int × Int)} {c c' : yG} {q q' j : Int} (h : j < 1501) (hs : ystep (od j) q c = ystep (od j) q' c') : yR k od c q j = yR k od c' q' j := by rw [yR_u h, yR_u h, hs]
/-! what waits, out of arrays; code out of arrays that begin at fr -/
/-- a jump from the code's beginning -/
def yrel (fr v : Int) : Int := if v < 0 then -1 else if v < fr then -2 else v - fr
theorem yrel_n {fr v : Int} (h : v < 0) : yrel fr v = -1 := if_pos h
theorem yrel_p {fr v : Int} (h0 : 0 ≤ fr) (h : fr ≤ v) : yrel fr v = v - fr := by
  unfold yrel
  rw [if_neg (by omega), if_neg (by omega)]
theorem yrel_w {fr v : Int} (h0 : 0 ≤ v) (h : v < fr) : yrel fr v = -2 := by
  unfold yrel
  rw [if_neg (by omega), if_pos h]
def yWf (fr : Int) (wk wr wt wj : Int → Int) : Nat → List yE
  | 0 => []
  | n + 1 => (wk n, wr n, wt n, yrel fr (wj n)) :: yWf fr wk wr wt wj n
def yW (fr n : Int) (wk wr wt wj : Int → Int) : List yE := yWf fr wk wr wt wj n.toNat
abbrev yjp (o : Int) : Prop := o = 32 ∨ o = 33 ∨ o = 20 ∨ o = 34 ∨ o = 35
def ydec (fr o v : Int) : Int := if yjp o then (if v = 0 then -1 else v - fr) else v
def yCf (fr : Int) (op wi : Int → Int) : Nat → yC
  | 0 => []
  | n + 1 => yCf fr op wi n ++ [(op (fr + n), ydec fr (op (fr + n)) (wi (fr + n)))]
def yCo (fr u : Int) (op wi : Int → Int) : yC := yCf fr op wi (u - fr).toNat
theorem yWf_len {fr : Int} {wk wr wt wj : Int → Int} (n : Nat) : (yWf fr wk wr wt wj n).length = n := by
  induction n with
  | zero => rfl
  | succ n ih => unfold yWf; rw [List.length_cons, ih]
theorem yW_len {fr n : Int} {wk wr wt wj : Int → Int} (h : 0 ≤ n) : ((yW fr n wk wr wt wj).length : Int) = n := by
  unfold yW
  rw [yWf_len]
  exact Int.toNat_of_nonneg h
theorem yCf_len {fr : Int} {op wi : Int → Int} (n : Nat) : (yCf fr op wi n).length = n := by
  induction n with
  | zero => rfl
  | succ n ih => unfold yCf; rw [List.length_append, ih]; rfl
theorem yCo_len {fr u : Int} {op wi : Int → Int} (h : fr ≤ u) : ((yCo fr u op wi).length : Int) = u - fr := by
  unfold yCo
  rw [yCf_len]
  exact Int.toNat_of_nonneg (by omega)
/-- arrays that are the same below -/
theorem yWf_eq {fr : Int} {wk wr wt wj wk' wr' wt' wj' : Int → Int} : ∀ (n : Nat), (∀ i : Nat, i < n → wk' i = wk i ∧ wr' i = wr i ∧ wt' i = wt i ∧ wj' i = wj i) → yWf fr wk' wr' wt' wj' n = yWf fr wk wr wt wj n := by
  intro n
  induction n with
  | zero => intro _; rfl
  | succ n ih =>
    intro h
    unfold yWf
    obtain ⟨a, b, c, d⟩ := h n (Nat.lt_succ_self n)
    rw [a, b, c, d, ih (fun i hi => h i (Nat.lt_succ_of_lt hi))]
theorem yW_0 {fr : Int} {wk wr wt wj : Int → Int} : yW fr 0 wk wr wt wj = [] := rfl
theorem yW_s {fr n : Int} {wk wr wt wj : Int → Int} (h : 0 ≤ n) : yW fr (n + 1) wk wr wt wj = (wk n, wr n, wt n, yrel fr (wj n)) :: yW fr n wk wr wt wj := by
  unfold yW
  rw [show (n + 1).toNat = n.toNat + 1 by omega]
  show ((wk (n.toNat : Nat), wr (n.toNat : Nat), wt (n.toNat : Nat), _) :: _ : List yE) = _
  rw [Int.toNat_of_nonneg h]
theorem yW_up {fr n m : Int} {a b c d : Int} {wk wr wt wj : Int → Int} (hm : n ≤ m) : yW fr n (hw_up wk m a) (hw_up wr m b) (hw_up wt m c) (hw_up wj m d) = yW fr n wk wr wt wj := by
  unfold yW
  refine yWf_eq _ (fun i hi => ?_)
  have e : ¬ (i : Int) = m := by omega
  rw [hw_up_n e, hw_up_n e, hw_up_n e, hw_up_n e]
  exact ⟨rfl, rfl, rfl, rfl⟩
theorem yW_push {fr n m a b c d : Int} {wk wr wt wj : Int → Int} (h : 0 ≤ n) (hm : m = n + 1) : yW fr m (hw_up wk n a) (hw_up wr n b) (hw_up wt n c) (hw_up wj n d) = (a, b, c, yrel fr d) :: yW fr n wk wr wt wj := by
  subst hm
  rw [yW_s h, yW_up (Int.le_refl n), hw_up_s, hw_up_s, hw_up_s, hw_up_s]
theorem yCf_eq {fr : Int} {op wi op' wi' : Int → Int} : ∀ (n : Nat), (∀ i : Nat, i < n → op' (fr + i) = op (fr + i) ∧ wi' (fr + i) = wi (fr + i)) → yCf fr op' wi' n = yCf fr op wi n := by
  intro n
  induction n with
  | zero => intro _; rfl
  | succ n ih =>
    intro h
    unfold yCf
    obtain ⟨a, b⟩ := h n (Nat.lt_succ_self n)
    rw [a, b, ih (fun i hi => h i (Nat.lt_succ_of_lt hi))]
theorem yCo_0 {fr : Int} {op wi : Int → Int} : yCo fr fr op wi = [] := by
  unfold yCo
  rw [show (fr - fr).toNat = 0 by omega]
  rfl
theorem yCo_s {fr u : Int} {op wi : Int → Int} (h : fr ≤ u) : yCo fr (u + 1) op wi = yCo fr u op wi ++ [(op u, ydec fr (op u) (wi u))] := by
  unfold yCo
  have e : fr + ((u - fr).toNat : Int) = u := by omega
  rw [show (u + 1 - fr).toNat = (u - fr).toNat + 1 by omega]
  show yCf fr op wi (u - fr).toNat ++ [(op (fr + ((u - fr).toNat : Int)), ydec fr (op (fr + ((u - fr).toNat : Int))) (wi (fr + ((u - fr).toNat : Int))))] = _
  rw [e]
theorem yCo_emit {fr u m c v : Int} {op wi : Int → Int} (h : fr ≤ u) (hm : m = u + 1) : yCo fr m (hw_up op u c) (hw_up wi u v) = yCo fr u op wi ++ [(c, ydec fr c v)] := by
  subst hm
  rw [yCo_s h, hw_up_s, hw_up_s]
  refine congrArg (fun z => z ++ _) ?_
  unfold yCo
  refine yCf_eq _ (fun i hi => ?_)
  have e : ¬ fr + (i : Int) = u := by omega
  rw [hw_up_n e, hw_up_n e]
  exact ⟨rfl, rfl⟩
theorem yCf_get {fr : Int} {op wi : Int → Int} : ∀ (n i : Nat), i < n → (yCf fr op wi n)[i]? = some (op (fr + i), ydec fr (op (fr + i)) (wi (fr + i))) := by
  intro n
  induction n with
  | zero => intro i h; exact absurd h (Nat.not_lt_zero i)
  | succ n ih =>
    intro i h
    unfold yCf
    by_cases e : i < n
    · rw [List.getElem?_append_left (by rw [yCf_len]; exact e)]
      exact ih i e
    · have e2 : i = n := by omega
      subst e2
      rw [List.getElem?_append_right (by rw [yCf_len]; exact Nat.le_refl _), yCf_len, Nat.sub_self]
      rfl
theorem yCo_get {fr u i : Int} {op wi : Int → Int} (h0 : fr ≤ i) (h1 : i < u) : (yCo fr u op wi)[(i - fr).toNat]? = some (op i, ydec fr (op i) (wi i)) := by
  unfold yCo
  rw [yCf_get _ _ (by omega), show fr + (((i - fr).toNat : Nat) : Int) = i by omega]
/-- a jump is led to the end -/
theorem yCo_aim {fr u j : Int} {op wi : Int → Int} (h0 : fr ≤ j) (h1 : j < u) (hu : 1 ≤ u) (hj : yjp (op j)) : yCo fr u op (hw_up wi j u) = yaim (yCo fr u op wi) (j - fr) := by
  refine List.ext_getElem? (fun i => ?_)
  unfold yaim
  have hl : (yCo fr u op wi).length = (u - fr).toNat := yCf_len _
  have hl2 : (yCo fr u op (hw_up wi j u)).length = (u - fr).toNat := yCf_len _
  by_cases hi : i < (u - fr).toNat
  · by_cases e : i = (j - fr).toNat
    · subst e
      rw [yCo_get h0 h1, List.getElem?_set_self (by rw [hl]; exact hi), List.getD_eq_getElem?_getD, yCo_get h0 h1, hl]
      show some (op j, ydec fr (op j) (hw_up wi j u j)) = some (op j, _)
      rw [hw_up_s]
      unfold ydec
      rw [if_pos hj, if_neg (by omega)]
      have e3 : (((u - fr).toNat : Nat) : Int) = u - fr := by omega
      rw [e3]
    · rw [List.getElem?_set_ne (fun q => e q.symm)]
      have e4 : (i : Int) = (fr + i) - fr := by omega
      have e5 : i = ((fr + (i : Int)) - fr).toNat := by omega
      rw [e5, yCo_get (by omega) (by omega), yCo_get (by omega) (by omega), hw_up_n (by omega)]
  · rw [List.getElem?_eq_none (by omega), List.getElem?_eq_none (by rw [List.length_set, hl]; omega)]
