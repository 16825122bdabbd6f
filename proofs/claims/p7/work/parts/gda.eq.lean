/-! two states are the same -/
def fl_a2 {α : Type} (r : α → α → Bool) : List α → List α → Bool
  | [], [] => true
  | a :: l, b :: m => r a b && fl_a2 r l m
  | _, _ => false
theorem fl_a2_ok {α : Type} {r : α → α → Bool} (hr : ∀ a b, r a b = true → a = b) : ∀ l m : List α, fl_a2 r l m = true → l = m := by
  intro l
  induction l with
  | nil => intro m h; cases m with
    | nil => rfl
    | cons b m => cases h
  | cons a l ih =>
    intro m h
    cases m with
    | nil => cases h
    | cons b m =>
      replace h : (r a b && fl_a2 r l m) = true := h
      rw [Bool.and_eq_true] at h
      rw [hr _ _ h.1, ih _ h.2]
def fl_eqC (a b : fx_C) : Bool := decide (a = b)
def fl_eqT (a b : fx_T) : Bool := fl_a2 (fl_a2 (fl_a2 fl_eqC)) a b
theorem fl_eqT_ok {a b : fx_T} (h : fl_eqT a b = true) : a = b := fl_a2_ok (fun _ _ h => fl_a2_ok (fun _ _ h => fl_a2_ok (fun _ _ h => of_decide_eq_true h) _ _ h) _ _ h) _ _ h
def fl_same (o : Option fx_R) (k : fx_K) : Bool := match o with
  | some (.inl k', []) => decide (k'.1 = k.1) && (decide (k'.2.1 = k.2.1) && (decide (k'.2.2.1 = k.2.2.1) && (decide (k'.2.2.2.1 = k.2.2.2.1) && (decide (k'.2.2.2.2.1 = k.2.2.2.2.1) && fl_eqT k'.2.2.2.2.2 k.2.2.2.2.2))))
  | _ => false
theorem fl_same_ok {o : Option fx_R} {k : fx_K} (h : fl_same o k = true) : o = some (.inl k, []) := by
  unfold fl_same at h
  split at h
  · rename_i k'
    rw [Bool.and_eq_true, Bool.and_eq_true, Bool.and_eq_true, Bool.and_eq_true, Bool.and_eq_true] at h
    obtain ⟨h1, h2, h3, h4, h5, h6⟩ := h
    obtain ⟨a1, a2, a3, a4, a5, a6⟩ := k'
    obtain ⟨b1, b2, b3, b4, b5, b6⟩ := k
    have e1 := of_decide_eq_true h1
    have e2 := of_decide_eq_true h2
    have e3 := of_decide_eq_true h3
    have e4 := of_decide_eq_true h4
    have e5 := of_decide_eq_true h5
    have e6 := fl_eqT_ok h6
    dsimp only at e1 e2 e3 e4 e5 e6
    rw [e1, e2, e3, e4, e5, e6]
  · cases h
noncomputable def fl_ke : fx_K := (0, mm_entry (mm_nl pg_G 281) [.ref mm_big], [], fx_S0)
