/-! from the law's entry over the constructors, and to its end -/
theorem fx_nth_rep {α : Type} (x : α) : ∀ (n i : Nat) (y : α), fx_nth (List.replicate n x) i = some y → y = x := by
  intro n
  induction n with
  | zero => intro i y h; cases h
  | succ n ih =>
    intro i y h
    cases i with
    | zero => cases h; rfl
    | succ i => exact ih i y h
theorem fx_mem_T0 : fx_mem fx_T0 = fun _ => .inr (0, []) := by
  funext a
  unfold fx_mem fx_look fx_T0
  cases h1 : fx_nth (List.replicate 16 (List.replicate 16 (List.replicate 16 (.inr (0, []) : fx_C)))) (a / 256) with
  | none => rfl
  | some u =>
    rw [fx_nth_rep _ _ _ _ h1]
    dsimp only
    cases h2 : fx_nth (List.replicate 16 (List.replicate 16 (.inr (0, []) : fx_C))) (a / 16 % 16) with
    | none => rfl
    | some w =>
      rw [fx_nth_rep _ _ _ _ h2]
      dsimp only
      cases h3 : fx_nth (List.replicate 16 (.inr (0, []) : fx_C)) (a % 16) with
      | none => rfl
      | some e =>
        rw [fx_nth_rep _ _ _ _ h3]
        rfl
theorem fx_Scr_none (scr : Nat × (Nat → Int32)) : fx_Scr (none, []) scr := ⟨fun _ h => (by cases h), fun _ _ h => (by cases h)⟩
def pg_S0 : mm_S := (0, 0, fun _ => .inr (0, []))
theorem fl_start {scr : Nat × (Nat → Int32)} {Q : mm_O → mm_S → Prop} (h : ∃ m, mm_wp pg_G pg_TT scr (mm_ex pg_G pg_TT scr 1000) 281 Q m (fx_mK fl_k1)) : mm_ex pg_G pg_TT scr 1001 281 [.ref mm_big] pg_S0 Q := by
  obtain ⟨m, h⟩ := h
  have h1 : mm_wp pg_G pg_TT scr (mm_ex pg_G pg_TT scr 1000) 281 Q (m + 8) (fx_mK fl_k0) := (fy_go_ok (Q := Q) fh_Cd (fx_Scr_none scr) (fy_ev_ok fh_Cd (fx_Scr_none scr) 1000) 8 fl_k0 [] _ _ (fl_same_ok fl_go1) (fun _ q => (by cases q)) m h).2
  have h0 : mm_wp pg_G pg_TT scr (mm_ex pg_G pg_TT scr 1000) 281 Q (m + 8 + 3) (fx_mK fl_ke) := (fy_go_ok (Q := Q) fh_Cd (fx_Scr_none scr) (fy_ev_ok fh_Cd (fx_Scr_none scr) 1000) 3 fl_ke [] _ _ (fl_same_ok fl_go0) (fun _ q => (by cases q)) (m + 8) h1).2
  refine ⟨rfl, m + 8 + 3, ?_⟩
  have e : fx_mK fl_ke = (0, mm_entry (mm_nl pg_G 281) [.ref mm_big], [], pg_S0) := by
    show (0, mm_entry (mm_nl pg_G 281) [.ref mm_big], [], (0, 0, fx_mem fx_T0)) = _
    rw [fx_mem_T0]
    rfl
  rw [e] at h0
  exact h0
