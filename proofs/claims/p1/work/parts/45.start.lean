/-! from the law's entry over the constructors, and to its end -/
theorem fx_nth_rep {α : Type} (x : α) : ∀ (n i : Nat) (y : α), fx_nth (List.replicate n x) i = some y → y = x := by
  intro n
  induction n with
  | zero => intro i y h; cases h
  | succ n ih =>
    intro i y h
    cases i with
    | zero => cases h; rfl
    | succ i => exact ih i y h
theorem fx_mem_T0 : fx_mem fx_T0 = fun _ => .inr (0, []) := by
  funext a
  unfold fx_mem fx_look fx_T0
  cases h1 : fx_nth (List.replicate 16 (List.replicate 16 (List.replicate 16 (.inr (0, []) : fx_C)))) (a / 256) with
  | none => rfl
  | some u =>
    rw [fx_nth_rep _ _ _ _ h1]
    dsimp only
    cases h2 : fx_nth (List.replicate 16 (List.replicate 16 (.inr (0, []) : fx_C))) (a / 16 % 16) with
    | none => rfl
    | some w =>
      rw [fx_nth_rep _ _ _ _ h2]
      dsimp only
      cases h3 : fx_nth (List.replicate 16 (.inr (0, []) : fx_C)) (a % 16) with
      | none => rfl
      | some e =>
        rw [fx_nth_rep _ _ _ _ h3]
        rfl
theorem fx_Scr_none (scr : Nat × (Nat → Int32)) : fx_Scr (none, []) scr := ⟨fun _ h => (by cases h), fun _ _ h => (by cases h)⟩
theorem fl_start {scr : Nat × (Nat → Int32)} {Q : mm_O → mm_S → Prop} (h : ∃ m, mm_wp fg_G fg_T scr (mm_ex fg_G fg_T scr 1000) 97 Q m (fx_mK fl_k1)) : mm_ex pg_G pg_TT scr 1001 97 [.ref mm_big] pg_S0 Q := by
  rw [← fg_G_eq, ← fg_T_eq]
  obtain ⟨m, h⟩ := h
  have h1 : mm_wp fg_G fg_T scr (mm_ex fg_G fg_T scr 1000) 97 Q (m + 8) (fx_mK fl_k0) := (fy_go_ok (Q := Q) fh_Cd (fx_Scr_none scr) (fy_ev_ok fh_Cd (fx_Scr_none scr) 1000) 8 fl_k0 [] _ _ (fl_same_ok fl_go1) (fun _ q => (by cases q)) m h).2
  have h0 : mm_wp fg_G fg_T scr (mm_ex fg_G fg_T scr 1000) 97 Q (m + 8 + 3) (fx_mK fl_k) := (fy_go_ok (Q := Q) fh_Cd (fx_Scr_none scr) (fy_ev_ok fh_Cd (fx_Scr_none scr) 1000) 3 fl_k [] _ _ (fl_same_ok fl_go0) (fun _ q => (by cases q)) (m + 8) h1).2
  refine ⟨rfl, m + 8 + 3, ?_⟩
  have e : fx_mK fl_k = (0, mm_entry (mm_nl fg_G 97) [.ref mm_big], [], pg_S0) := by
    show (0, mm_entry (mm_nl fg_G 97) [.ref mm_big], [], (0, 0, fx_mem fx_T0)) = _
    rw [fx_mem_T0]
    rfl
  rw [e] at h0
  exact h0
theorem fl_fin {scr : Nat × (Nat → Int32)} {sc : fx_sc} {os : fx_O} {n c s : Nat} {M : fx_T} {cs : List Bool} (hsc : fx_Scr sc scr)
    (h : fy_go fg_G fg_T fh_code sc os (fy_ev fg_G fg_T fh_code sc os 1000) 97 n fl_k1 [] = some (.inr (.inl (some (.int 1)), (c, s, M)), cs)) (hc : c ≤ 600002) (hs : s ≤ 7302232) (hcs : fx_All cs) :
    mm_ex pg_G pg_TT scr 1001 97 [.ref mm_big] pg_S0 (fun o S => o = .inl (some (.int 1)) ∧ S.1 ≤ 600002 ∧ S.2.1 ≤ 7302232) :=
  fl_start (fy_go_ok (m := 0) (Q := fun o S => o = .inl (some (.int 1)) ∧ S.1 ≤ 600002 ∧ S.2.1 ≤ 7302232) fh_Cd hsc (fy_ev_ok fh_Cd hsc 1000) n fl_k1 [] _ _ h (fx_All_ok _ hcs) ⟨rfl, hc, hs⟩).2
theorem fl_scr {xs : Nat → Int32} {a0 a1 a2 a3 a4 a5 : Int32} (h0 : xs 0 = a0) (h1 : xs 1 = a1) (h2 : xs 2 = a2) (h3 : xs 3 = a3) (h4 : xs 4 = a4) (h5 : xs 5 = a5) : fx_Scr (some 6, [a0, a1, a2, a3, a4, a5]) (6, xs) := by
  refine ⟨fun q h => (by cases h; rfl), fun j v h => ?_⟩
  match j, h with
  | 0, h => cases h; exact ⟨(by show 0 < 6; decide), h0⟩
  | 1, h => cases h; exact ⟨(by show 1 < 6; decide), h1⟩
  | 2, h => cases h; exact ⟨(by show 2 < 6; decide), h2⟩
  | 3, h => cases h; exact ⟨(by show 3 < 6; decide), h3⟩
  | 4, h => cases h; exact ⟨(by show 4 < 6; decide), h4⟩
  | 5, h => cases h; exact ⟨(by show 5 < 6; decide), h5⟩
  | j + 6, h => cases h
