/-! the program's tables once more, quickly looked up -/
noncomputable def fx_lf {α : Type} (l : List (Nat × α)) (x : Nat) : Option α := List.rec (motive := fun _ => Option α) none (fun q _ ih => bif Nat.beq x q.1 then some q.2 else ih) l
noncomputable def fx_b2 {α : Type} (w : Nat) (B : List (List (List (Nat × α)))) (x : Nat) : Option α := match fx_nth B (x / (16 * w)) with
  | none => none
  | some u => match fx_nth u (x / w % 16) with
    | none => none
    | some l => fx_lf l x
noncomputable def fx_two {α : Type} (T : List (List α)) (f : Nat) : Option α := match fx_nth T (f / 10) with
  | none => none
  | some u => fx_nth u (f % 10)
/-- what is not found quickly is looked up slowly -/
def fx_el {α : Type} (o : Option α) (s : α) : α := match o with
  | some v => v
  | none => s
def fx_els {α : Type} (o s : Option α) : Option α := match o with
  | some v => some v
  | none => s
theorem fx_els_eq {α : Type} {o s : Option α} (h : ∀ v, o = some v → s = some v) : fx_els o s = s := by
  cases o with
  | none => rfl
  | some v => exact (h v rfl).symm
