/-! the class: end, and what the text says -/
section YJC
variable {scr : Nat × (Nat → Int32)} {d : Nat} {K : Option hw_V → hw_Z → Prop} {E : Nat → hw_Z → Prop} {Z : hw_Z} {kof : Nat → Nat × Int} {own : Nat → Prop} {f : Int} {g : Int → Int}
theorem q_end3 (hU : hw_U (hv_T kof own)) (hX : hw_U (hx_T kof own)) {m : Int} (hZ : hv_I f g Z) (hK : ∀ r Z', 0 ≤ m → m ≤ 8192 → m ≤ f → pText g m = some (r - 1) → hv_I 0 g Z' → K (some (hw_I r)) Z') (hE : (m < 0 ∨ 8192 < m ∨ f < m) → ∀ Z', hv_I f g Z' → E 17 Z') (hE1 : 0 ≤ m → m ≤ 8192 → m ≤ f → pText g m = none → ∀ Z', hv_I 0 g Z' → E 15 Z') : hw_C pg_G pg_TT scr (hv_T kof own) (d + 11) 25 [hw_R 2 0, hw_I m] Z K E := by
  have h1 := q_end (scr := scr) (d := d) (K := fun r Z' => ∃ x, r = some (hw_I x) ∧ (0 ≤ m ∧ m ≤ 8192 ∧ m ≤ f) ∧ hv_I 0 g Z') (E := fun ec Z' => (ec = 17 ∧ (m < 0 ∨ 8192 < m ∨ f < m) ∧ hv_I f g Z') ∨ (ec = 15 ∧ (0 ≤ m ∧ m ≤ 8192 ∧ m ≤ f) ∧ hv_I 0 g Z')) (m := m) hU hZ (fun r Z' a b c e => ⟨r, rfl, ⟨a, b, c⟩, e⟩) (fun a Z' e => Or.inl ⟨rfl, a, e⟩) (fun a b c Z' e => Or.inr ⟨rfl, ⟨a, b, c⟩, e⟩)
  obtain ⟨z_used, z_broken, z_textEnd, z_made, z_mready, z_modules, z_actions, z_target, z_variables, z_commands, z_updates, z_steps, z_waiting, z_nested, z_type, z_wantsOperand, z_variablesKnown, z_names, z_ownFrom, z_at, z_wrongAt, z_parties, z_states, z_choices, z_outcomes, z_sready, z_many, z_fc, z_role, z_holds, z_fu, z_taken, z_fo, z_home, z_row, z_fout, z_offer, z_oc, z_size, z_policies, z_found, z_told, z_policy, rfl, hinv, hoc⟩ := hZ
  refine jJ (T2 := hx_T kof own) (K2 := fun r _ => ∃ x, r = some (hw_I x) ∧ pText z_oc m = some (x - 1)) (E2 := fun ec _ => ec = 17 ∨ (ec = 15 ∧ pText z_oc m = none)) h1 (fun S hR => ?_) (fun as h => hw_st_m (K1 := hv_KT) (K2 := hx_KT) (R := (kof, own, hv_rm)) _ as h) (fun r1 r2 v Z' Z2' k1 k2 v1 v2 => ?_) (fun ec Z' Z2' k1 k2 => ?_)
  · obtain ⟨F, hF, hR2⟩ := hw_fine (K1 := hv_KT) (K2 := hx_KT) (R := (kof, own, hv_rm)) (N1 := 11) (N2 := 20) hx_fine hX rfl hR
    obtain ⟨v_tk, F0, e0, hF0⟩ := l_cons hF
    subst e0
    obtain ⟨v_pl, F1, e1, hF1⟩ := l_cons hF0
    subst e1
    obtain ⟨v_ln, F2, e2, hF2⟩ := l_cons hF1
    subst e2
    obtain ⟨v_nm, F3, e3, hF3⟩ := l_cons hF2
    subst e3
    obtain ⟨v_op, F4, e4, hF4⟩ := l_cons hF3
    subst e4
    obtain ⟨v_wi, F5, e5, hF5⟩ := l_cons hF4
    subst e5
    obtain ⟨v_st, F6, e6, hF6⟩ := l_cons hF5
    subst e6
    obtain ⟨v_ty, F7, e7, hF7⟩ := l_cons hF6
    subst e7
    obtain ⟨v_lo, F8, e8, hF8⟩ := l_cons hF7
    subst e8
    obtain ⟨v_hi, F9, e9, hF9⟩ := l_cons hF8
    subst e9
    obtain ⟨v_bg, F10, e10, hF10⟩ := l_cons hF9
    subst e10
    obtain ⟨v_nt, F11, e11, hF11⟩ := l_cons hF10
    subst e11
    obtain ⟨v_wk, F12, e12, hF12⟩ := l_cons hF11
    subst e12
    obtain ⟨v_wr, F13, e13, hF13⟩ := l_cons hF12
    subst e13
    obtain ⟨v_wt, F14, e14, hF14⟩ := l_cons hF13
    subst e14
    obtain ⟨v_wj, F15, e15, hF15⟩ := l_cons hF14
    subst e15
    obtain ⟨v_be, F16, e16, hF16⟩ := l_cons hF15
    subst e16
    obtain ⟨v_to, F17, e17, hF17⟩ := l_cons hF16
    subst e17
    obtain ⟨v_fs, F18, e18, hF18⟩ := l_cons hF17
    subst e18
    obtain ⟨v_sv, F19, e19, hF19⟩ := l_cons hF18
    subst e19
    have e_ := l_nil hF19
    subst e_
    refine ⟨_, hR2, ?_⟩
    refine x_end hX ?_ ?_ ?_
    all_goals intros
    all_goals (first | exact ⟨_, rfl, by assumption⟩ | exact Or.inl rfl | exact Or.inr ⟨rfl, by assumption⟩)
  · obtain ⟨x, rfl, ⟨a1, a2, a3⟩, a4⟩ := k1
    obtain ⟨y, rfl, b1⟩ := k2
    have e := j_vo v1 v2
    subst e
    refine hK x Z' a1 a2 a3 ?_ a4
    rw [← cg_pText (t := z_oc) ⟨a1, fun i i1 i2 => oc_at hoc i1 (by omega)⟩]
    exact b1
  · rcases k1 with ⟨e, a1, a2⟩ | ⟨e, ⟨a1, a2, a3⟩, a4⟩
    · subst e
      exact hE a1 Z' a2
    · subst e
      rcases k2 with b | ⟨_, b⟩
      · exact absurd b (by decide)
      · refine hE1 a1 a2 a3 ?_ Z' a4
        rw [← cg_pText (t := z_oc) ⟨a1, fun i i1 i2 => oc_at hoc i1 (by omega)⟩]
        exact b
end YJC
