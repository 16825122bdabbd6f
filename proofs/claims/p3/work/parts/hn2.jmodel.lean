/-! the model: end, and what the text says -/
theorem hy_fine : ∀ k, hy_KT k = hm_KT k ∨ ∃ (kk : Nat) (ln : Option Nat) (b : Option (Int × Int × Int)) (j : Nat), hm_KT k = .inr (kk, ln, .inl (none, b)) ∧ hy_KT k = .inr (kk, ln, .inl (some (.inl j), b)) ∧ 38 ≤ j ∧ j < 38 + 5 := by
  intro k
  match k with
  | 0 => exact Or.inl rfl
  | 1 => exact Or.inl rfl
  | 2 => exact Or.inl rfl
  | 3 => exact Or.inl rfl
  | 4 => exact Or.inl rfl
  | 5 => exact Or.inl rfl
  | 6 => exact Or.inl rfl
  | 7 => exact Or.inl rfl
  | 8 => exact Or.inl rfl
  | 9 => exact Or.inl rfl
  | 10 => exact Or.inl rfl
  | 11 => exact Or.inl rfl
  | 12 => exact Or.inl rfl
  | 13 => exact Or.inr ⟨_, _, _, _, rfl, rfl, by decide, by decide⟩
  | 14 => exact Or.inr ⟨_, _, _, _, rfl, rfl, by decide, by decide⟩
  | 15 => exact Or.inr ⟨_, _, _, _, rfl, rfl, by decide, by decide⟩
  | 16 => exact Or.inr ⟨_, _, _, _, rfl, rfl, by decide, by decide⟩
  | 17 => exact Or.inl rfl
  | 18 => exact Or.inl rfl
  | 19 => exact Or.inl rfl
  | 20 => exact Or.inl rfl
  | 21 => exact Or.inl rfl
  | 22 => exact Or.inl rfl
  | 23 => exact Or.inl rfl
  | 24 => exact Or.inr ⟨_, _, _, _, rfl, rfl, by decide, by decide⟩
  | 25 => exact Or.inl rfl
  | 26 => exact Or.inl rfl
  | 27 => exact Or.inl rfl
  | 28 => exact Or.inl rfl
  | 29 => exact Or.inl rfl
  | 30 => exact Or.inl rfl
  | 31 => exact Or.inl rfl
  | 32 => exact Or.inl rfl
  | 33 => exact Or.inl rfl
  | 34 => exact Or.inl rfl
  | 35 => exact Or.inl rfl
  | 36 => exact Or.inl rfl
  | 37 => exact Or.inl rfl
  | 38 => exact Or.inl rfl
  | 39 => exact Or.inl rfl
  | 40 => exact Or.inl rfl
  | 41 => exact Or.inl rfl
  | 42 => exact Or.inl rfl
  | 43 => exact Or.inl rfl
  | 44 => exact Or.inl rfl
  | 45 => exact Or.inl rfl
  | 46 => exact Or.inl rfl
  | 47 => exact Or.inl rfl
  | 48 => exact Or.inl rfl
  | 49 => exact Or.inl rfl
  | 50 => exact Or.inl rfl
  | 51 => exact Or.inl rfl
  | 52 => exact Or.inl rfl
  | 53 => exact Or.inl rfl
  | 54 => exact Or.inl rfl
  | 55 => exact Or.inl rfl
  | 56 => exact Or.inl rfl
  | 57 => exact Or.inl rfl
  | n + 58 => exact Or.inl rfl
theorem hy_rm_e : hy_rm = hm_rm := rfl
section YJM
variable {scr : Nat × (Nat → Int32)} {d : Nat} {K : Option hw_V → hw_Z → Prop} {E : Nat → hw_Z → Prop} {Z : hw_Z} {kof : Nat → Nat × Int} {own : Nat → Prop} {f er : Int} {g : Int → Int}
theorem r_end3 (hU : hw_U (hm_T kof own)) (hX : hw_U (hy_T kof own)) {q : Int} (hZ : hm_I f er g Z) (hK : (q < 0 ∨ 8192 < q ∨ f < q) → ∀ Z', hm_I f 1 g Z' → K (some (hw_I 0)) Z') (hK1 : 0 ≤ q → q ≤ 8192 → q ≤ f → pText g q = none → ∀ Z', hm_I 0 2 g Z' → K (some (hw_I 0)) Z') (hK2 : 0 ≤ q → q ≤ 8192 → q ≤ f → ∀ r Z', pText g q = some (r - 1) → hm_I 0 0 g Z' → K (some (hw_I r)) Z') : hw_C pg_G pg_TT scr (hm_T kof own) (d + 470) 191 [hw_R 2 0, hw_I q] Z K E := by
  have h1 := r_end4 (scr := scr) (d := d) (E := E) (K := fun r Z' => (r = some (hw_I 0) ∧ (q < 0 ∨ 8192 < q ∨ f < q) ∧ hm_I f 1 g Z') ∨ (r = some (hw_I 0) ∧ (0 ≤ q ∧ q ≤ 8192 ∧ q ≤ f) ∧ hm_I 0 2 g Z') ∨ (∃ x, r = some (hw_I x) ∧ (0 ≤ q ∧ q ≤ 8192 ∧ q ≤ f) ∧ 1 ≤ x ∧ hm_I 0 0 g Z')) (q := q) hU hZ (fun a Z' e => Or.inl ⟨rfl, a, e⟩) (fun a b c Z' e => Or.inr (Or.inl ⟨rfl, ⟨a, b, c⟩, e⟩)) (fun a b c r Z' h e => Or.inr (Or.inr ⟨r, rfl, ⟨a, b, c⟩, h, e⟩))
  obtain ⟨z_m_wrong, z_m_letters, z_m_there, z_m_kind, z_m_word, z_m_from, z_m_to, z_m_tokens, z_m_names, z_m_vars, z_m_modules, z_m_commands, z_m_actions, z_m_target, z_m_phase, z_m_codes, z_m_deep, z_m_bool, z_m_broken, z_m_explored, z_m_states, z_m_choices, z_m_outcomes, z_m_problem, z_m_text, z_m_nameFrom, z_m_nameSize, z_m_nameKind, z_m_nameValue, z_m_actionFrom, z_m_actionSize, z_m_commandModule, z_m_commandAction, z_m_guard, z_m_updates, z_m_over, z_m_under, z_m_setTo, z_m_code, z_m_firstChoice, z_m_firstOutcome, z_m_goesTo, z_m_taken, z_m_step, z_m_chosen, z_m_isTarget, z_m_holds, z_m_above, z_m_below, z_m_solved, z_m_known, z_m_zero, z_m_policy, z_m_unknown, z_m_index, z_m_got, z_m_set, z_m_stack, z_m_now, z_m_next, z_m_value, z_m_octets, z_nn, z_dg, va, rfl, hv, hi, hm, ha, hoc⟩ := hZ
  refine jJ (T2 := hy_T kof own) (E2 := E) (K2 := fun r _ => (r = some (hw_I 0) ∧ (q < 0 ∨ 8192 < q ∨ f < q)) ∨ (∃ tx, r = some (hw_I 0) ∧ pText tx q = none ∧ utq tx z_m_octets q ∧ 0 ≤ q ∧ q ≤ f) ∨ (∃ x tx, r = some (hw_I x) ∧ pText tx q = some (x - 1) ∧ utq tx z_m_octets q ∧ 1 ≤ x ∧ 0 ≤ q ∧ q ≤ f)) h1 (fun S hR => ?_) (fun as h => hw_st_m (K1 := hm_KT) (K2 := hy_KT) (R := (kof, own, hm_rm)) _ as h) (fun r1 r2 v Z' Z2' k1 k2 v1 v2 => ?_) (fun ec Z' Z2' k1 k2 => k1)
  · obtain ⟨F, hF, hR2⟩ := hw_fine (K1 := hm_KT) (K2 := hy_KT) (R := (kof, own, hm_rm)) (N1 := 38) (N2 := 5) hy_fine hX rfl hR
    obtain ⟨v_varModule, F0, e0, hF0⟩ := l_cons hF
    subst e0
    obtain ⟨v_low, F1, e1, hF1⟩ := l_cons hF0
    subst e1
    obtain ⟨v_high, F2, e2, hF2⟩ := l_cons hF1
    subst e2
    obtain ⟨v_first, F3, e3, hF3⟩ := l_cons hF2
    subst e3
    obtain ⟨v_isBool, F4, e4, hF4⟩ := l_cons hF3
    subst e4
    have e_ := l_nil hF4
    subst e_
    refine ⟨_, hR2, ?_⟩
    refine u_end hX ?_ ?_ ?_
    all_goals intros
    all_goals (first | exact Or.inl ⟨rfl, by assumption⟩ | exact Or.inr (Or.inl ⟨_, rfl, by assumption, by assumption, by assumption, by assumption⟩) | exact Or.inr (Or.inr ⟨_, _, rfl, by assumption, by assumption, by assumption, by assumption, by assumption⟩))
  · have cg : ∀ tx, utq tx z_m_octets q → 0 ≤ q → q ≤ f → pText tx q = pText g q := fun tx h h0 hf => h.elim fun _ h => cg_pText ⟨h0, fun i i1 i2 => (h i i1 i2).trans (oc_at hoc i1 (by omega))⟩
    rcases k1 with ⟨e1, a1, a2⟩ | ⟨e1, ⟨a1, a2, a3⟩, a4⟩ | ⟨x, e1, ⟨a1, a2, a3⟩, a5, a4⟩
    · subst e1
      exact hK a1 Z' a2
    · subst e1
      rcases k2 with ⟨e2, b1⟩ | ⟨tx, e2, b1, b2, b3, b4⟩ | ⟨y, tx, e2, b1, b2, b5, b3, b4⟩
      · omega
      · exact hK1 a1 a2 a3 ((cg tx b2 b3 b4).symm.trans b1) Z' a4
      · subst e2
        have e := j_vo v1 v2
        omega
    · subst e1
      rcases k2 with ⟨e2, b1⟩ | ⟨tx, e2, b1, b2, b3, b4⟩ | ⟨y, tx, e2, b1, b2, b5, b3, b4⟩
      · omega
      · subst e2
        have e := j_vo v1 v2
        omega
      · subst e2
        have e := j_vo v1 v2
        subst e
        exact hK2 a1 a2 a3 x Z' ((cg tx b2 b3 b4).symm.trans b1) a4
end YJM
