/-! exploring: what a description gives -/
/-- a row of values, by a variable's number -/
def qnow (r : List Int) (v : Int) : Int := if 0 ≤ v then r.getD v.toNat 0 else 0
/-- what code says in a row -/
def qval (C : yC) (r : List Int) : Option Int := yev C (qnow r) 1501 0 []
/-- rows (STATES); where OUTCOMES lead; where a CHOICE's OUTCOMES begin -/
abbrev qX : Type := List (List Int) × List Int × List Int
abbrev qVs : Type := List (Int × Int × Int)
def qlo (V : qVs) (v : Int) : Int := (V.getD v.toNat (0, 0, 0)).1
def qhi (V : qVs) (v : Int) : Int := (V.getD v.toNat (0, 0, 0)).2.1
/-- what a variable becomes is one of its values -/
def qok (V : qVs) (r : List Int) (a : Int × yC) : Prop := ∃ x, qval a.2 r = some x ∧ qlo V a.1 ≤ x ∧ x ≤ qhi V a.1
def qfd (A : dU) (v : Int) : Option (Int × yC) := A.find? (fun a => decide (a.1 = v))
def qnv (A : dU) (r : List Int) (v : Nat) : Int := match qfd A (v : Int) with
  | some a => (qval a.2 r).getD 0
  | none => r.getD v 0
def qnew (A : dU) (r : List Int) : List Int := (List.range r.length).map (qnv A r)
/-- the first row that is that one (how many there are, if none is) -/
def qix (r : List Int) : List (List Int) → Nat
  | [] => 0
  | x :: R => if x = r then 0 else qix r R + 1
def qrw (R : List (List Int)) (r : List Int) : List (List Int) := if qix r R < R.length then R else R ++ [r]
def qre (E : List Int) (f t : Nat) : List Int := if (t : Int) ∈ E.drop f then E else E ++ [(t : Int)]
/-- an OUTCOME -/
noncomputable def qO (V : qVs) (r : List Int) (A : dU) (f : Nat) (X : qX) : Int ⊕ qX :=
  @ite _ (∀ a, a ∈ A → qok V r a) (Classical.propDecidable _) (if qix (qnew A r) X.1 < 24 then .inr (qrw X.1 (qnew A r), qre X.2.1 f (qix (qnew A r) X.1), X.2.2) else .inl 3) (.inl 2)
/-- OUTCOMES from way w on, n of them -/
noncomputable def qW (V : qVs) (r : List Int) (F : Nat → dU) (f : Nat) : Nat → Nat → qX → Int ⊕ qX
  | 0, _, X => .inr X
  | n + 1, w, X => match qO V r (F w) f X with
    | .inl e => .inl e
    | .inr X => qW V r F f n (w + 1) X
/-- ways of taking one of each, and the ones that are taken (those of the first list slowest) -/
def mxp {α : Type} : List (List α) → Nat
  | [] => 1
  | O :: T => O.length * mxp T
def mxs {α : Type} (z : α) : List (List α) → Nat → List α
  | [], _ => []
  | O :: T, w => O.getD (w / mxp T % O.length) z :: mxs z T w
def qcm (K : List dC) (k : Nat) : dC := K.getD k (0, 0, [], [])
def qup (K : List dC) (T : List Nat) : List (List dU) := T.map (fun k => (qcm K k).2.2.2)
/-- the assignments of a way -/
def qas (K : List dC) (T : List Nat) (w : Nat) : dU := (mxs [] (qup K T) w).flatten
/-- a CHOICE: the COMMANDS that are taken -/
noncomputable def qC (V : qVs) (K : List dC) (r : List Int) (T : List Nat) (X : qX) : Int ⊕ qX :=
  if 200 ≤ X.2.2.length ∨ 16 < mxp (qup K T) then .inl 3 else qW V r (qas K T) X.2.1.length (mxp (qup K T)) 0 (X.1, X.2.1, X.2.2 ++ [(X.2.1.length : Int)])
noncomputable def qL (V : qVs) (K : List dC) (r : List Int) : List (List Nat) → qX → Int ⊕ qX
  | [], X => .inr X
  | T :: l, X => match qC V K r T X with
    | .inl e => .inl e
    | .inr X => qL V K r l X
/-- guards: enabled ones -/
def qen (K : List dC) (r : List Int) (k : Nat) : Bool := !decide (qval (qcm K k).2.2.1 r = some 0)
def qsg (K : List dC) (e : Nat → Bool) : List Nat := (List.range K.length).filter (fun k => e k && decide ((qcm K k).2.1 < 0))
def qof (K : List dC) (e : Nat → Bool) (a m : Int) : List Nat := (List.range K.length).filter (fun k => e k && (decide ((qcm K k).1 = m) && decide ((qcm K k).2.1 = a)))
def qhas (K : List dC) (a m : Int) : Bool := (List.range K.length).any (fun k => decide ((qcm K k).1 = m) && decide ((qcm K k).2.1 = a))
/-- the MODULES that have COMMANDS of an action, with those that can be taken -/
def qpt (K : List dC) (e : Nat → Bool) (M : Nat) (a : Int) : List (List Nat) := ((List.range M).filter (fun (m : Nat) => qhas K a (m : Int))).map (fun (m : Nat) => qof K e a (m : Int))
def qtg (K : List dC) (e : Nat → Bool) (M : Nat) (a : Int) : List (List Nat) := if [] ∈ qpt K e M a then [] else (List.range (mxp (qpt K e M a))).map (mxs 0 (qpt K e M a))
def qjt (K : List dC) (e : Nat → Bool) (M n : Nat) : List (List Nat) := ((List.range n).map (fun (a : Nat) => qtg K e M (a : Int))).flatten
/-- behind the CHOICES of a STATE: the one that stays, if there is none -/
noncomputable def qst (V : qVs) (K : List dC) (r : List Int) (n : Nat) (X : qX) : Int ⊕ qX := if X.2.2.length = n then qC V K r [] X else .inr X
noncomputable def qbd (a : Int ⊕ qX) (g : qX → Int ⊕ qX) : Int ⊕ qX := match a with
  | .inl e => .inl e
  | .inr X => g X
/-- all CHOICES of a STATE -/
noncomputable def qA (V : qVs) (K : List dC) (M n : Nat) (r : List Int) (X : qX) : Int ⊕ qX :=
  qbd (qL V K r ((qsg K (qen K r)).map (fun k => [k])) X) (fun Y => qbd (qL V K r (qjt K (qen K r) M n) Y) (qst V K r X.2.2.length))
/-- no guard, nor the target, is BROKEN -/
def qgd (K : List dC) (C : yC) (r : List Int) : Prop := (∀ k, k < K.length → ¬ qval (qcm K k).2.2.1 r = none) ∧ ¬ qval C r = none
/-- what is found: STATES and all; where a STATE's CHOICES begin; the target -/
abbrev qY : Type := qX × List Int × List Int
noncomputable def qSt (D : dT) (s : Nat) (Y : qY) : Int ⊕ qY :=
  @ite _ (qgd D.2.1.2.1 D.2.2.2 (Y.1.1.getD s [])) (Classical.propDecidable _) (match qA D.2.1.1 D.2.1.2.1 D.2.2.1.toNat D.2.1.2.2.length (Y.1.1.getD s []) Y.1 with
    | .inl e => .inl e
    | .inr X => .inr (X, Y.2.1 ++ [(Y.1.2.2.length : Int)], Y.2.2 ++ [if qval D.2.2.2 (Y.1.1.getD s []) = some 0 then 0 else 1])) (.inl 2)
noncomputable def qE (D : dT) : Nat → Nat → qY → Int ⊕ qY
  | 0, _, Y => .inr Y
  | f + 1, s, Y => if s < Y.1.1.length then (match qSt D s Y with
    | .inl e => .inl e
    | .inr Y => qE D f (s + 1) Y) else .inr Y
def qin (D : dT) : List Int := D.2.1.1.map (fun x => x.2.2)
noncomputable def qEx (D : dT) : Int ⊕ qY := qE D 25 0 (([qin D], [], []), [], [])
section QX
variable {V : qVs} {K : List dC} {r : List Int} {A : dU} {f t n w : Nat} {X X' : qX} {F : Nat → dU} {e : Int} {T : List Nat} {l : List (List Nat)} {R : List (List Int)}
theorem qix_b : ∀ R : List (List Int), qix r R ≤ R.length := by
  intro R
  induction R with
  | nil => exact Nat.le_refl 0
  | cons x R ih =>
    unfold qix
    rw [List.length_cons]
    split <;> omega
theorem qix_s : ∀ (R : List (List Int)) (t : Nat), (∀ i, i < t → ¬ R[i]? = some r) → R[t]? = some r → qix r R = t := by
  intro R
  induction R with
  | nil => intro t _ h; cases h
  | cons x R ih =>
    intro t h0 h1
    unfold qix
    cases t with
    | zero =>
      have h1 : some x = some r := h1
      injection h1 with h1
      rw [if_pos h1]
    | succ t =>
      have hx : ¬ x = r := fun z => h0 0 (Nat.succ_pos t) (by rw [← z]; rfl)
      rw [if_neg hx, ih t (fun i hi => h0 (i + 1) (by omega)) h1]
theorem qix_n : ∀ (R : List (List Int)), (∀ i, i < R.length → ¬ R[i]? = some r) → qix r R = R.length := by
  intro R
  induction R with
  | nil => intro _; rfl
  | cons x R ih =>
    intro h0
    unfold qix
    have hx : ¬ x = r := fun z => h0 0 (by rw [List.length_cons]; omega) (by rw [← z]; rfl)
    rw [if_neg hx, ih (fun i hi => h0 (i + 1) (by rw [List.length_cons]; omega)), List.length_cons]
theorem qO_bad (h : ∃ a, a ∈ A ∧ ¬ qok V r a) : qO V r A f X = .inl 2 := by
  unfold qO
  exact if_neg (fun z => h.elim fun a h => h.2 (z a h.1))
theorem qO_full (h : ∀ a, a ∈ A → qok V r a) (h2 : ¬ qix (qnew A r) X.1 < 24) : qO V r A f X = .inl 3 := by
  unfold qO
  rw [if_pos h, if_neg h2]
theorem qO_ok (h : ∀ a, a ∈ A → qok V r a) (h2 : qix (qnew A r) X.1 < 24) : qO V r A f X = .inr (qrw X.1 (qnew A r), qre X.2.1 f (qix (qnew A r) X.1), X.2.2) := by
  unfold qO
  rw [if_pos h, if_pos h2]
theorem qW_0 : qW V r F f 0 w X = .inr X := rfl
theorem qW_n (h : qO V r (F w) f X = .inl e) : qW V r F f (n + 1) w X = .inl e := by
  unfold qW
  rw [h]
theorem qW_s (h : qO V r (F w) f X = .inr X') : qW V r F f (n + 1) w X = qW V r F f n (w + 1) X' := by
  show (match qO V r (F w) f X with | .inl e => (Sum.inl e : Int ⊕ qX) | .inr X => qW V r F f n (w + 1) X) = _
  rw [h]
theorem qC_full (h : 200 ≤ X.2.2.length ∨ 16 < mxp (qup K T)) : qC V K r T X = .inl 3 := if_pos h
theorem qC_go (h : ¬ 200 ≤ X.2.2.length) (h2 : ¬ 16 < mxp (qup K T)) : qC V K r T X = qW V r (qas K T) X.2.1.length (mxp (qup K T)) 0 (X.1, X.2.1, X.2.2 ++ [(X.2.1.length : Int)]) := if_neg (by omega)
theorem qL_0 : qL V K r [] X = .inr X := rfl
theorem qL_n (h : qC V K r T X = .inl e) : qL V K r (T :: l) X = .inl e := by
  unfold qL
  rw [h]
theorem qL_s (h : qC V K r T X = .inr X') : qL V K r (T :: l) X = qL V K r l X' := by
  show (match qC V K r T X with | .inl e => (Sum.inl e : Int ⊕ qX) | .inr X => qL V K r l X) = _
  rw [h]
theorem qL_app : ∀ (l l' : List (List Nat)) (X : qX), qL V K r (l ++ l') X = qbd (qL V K r l X) (qL V K r l') := by
  intro l
  induction l with
  | nil => intro l' X; rfl
  | cons T l ih =>
    intro l' X
    rw [List.cons_append]
    cases h : qC V K r T X with
    | inl e => rw [qL_n h, qL_n h]; rfl
    | inr Y => rw [qL_s h, qL_s h, ih]
end QX
