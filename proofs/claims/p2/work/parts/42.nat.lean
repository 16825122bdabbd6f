/-! the class: its numbers -/
section C42
variable {scr : Nat × (Nat → Int32)} {d : Nat} {K : Option hw_V → hw_Z → Prop} {E : Nat → hw_Z → Prop} {Z : hw_Z} {kof : Nat → Nat × Int} {own : Nat → Prop} {z_used z_broken z_fed z_textEnd z_made z_mready z_modules z_actions z_target z_variables z_commands z_updates z_steps z_waiting z_nested z_type z_wantsOperand z_variablesKnown z_names z_ownFrom z_at z_wrongAt z_parties z_states z_choices z_outcomes z_sready z_many : Int} {z_fc z_role z_holds z_fu z_taken z_fo z_home z_row z_size z_policies z_found z_told : Int → Int} {z_policy : Int → Int → Int}
theorem c_max (hU : hw_U (hv_T kof own)) {x y : Int} (hK : ∀ r, (r = x ∧ y ≤ x ∨ r = y ∧ x ≤ y) → K (some (hw_I r)) Z) : hw_C pg_G pg_TT scr (hv_T kof own) (d + 1) 10 [hw_I x, hw_I y] Z K E := by
  refine hw_meth hU hv_DG ⟨rfl, rfl⟩ (fun w X hs hX hF => ?_)
  repeat' (first | apply hK | refine And.intro ?_ ?_ | intro _ | refine hs [] _ rfl ?_)
  all_goals omega
theorem c_min (hU : hw_U (hv_T kof own)) {x y : Int} (hK : ∀ r, (r = x ∧ x ≤ y ∨ r = y ∧ y ≤ x) → K (some (hw_I r)) Z) : hw_C pg_G pg_TT scr (hv_T kof own) (d + 1) 34 [hw_I x, hw_I y] Z K E := by
  refine hw_meth hU hv_DG ⟨rfl, rfl⟩ (fun w X hs hX hF => ?_)
  repeat' (first | apply hK | refine And.intro ?_ ?_ | intro _ | refine hs [] _ rfl ?_)
  all_goals omega
theorem c_trim (hU : hw_U (hv_T kof own)) {i : Int} (hK : ∀ z, hw_ot i z_size z → z i ≤ z_size i → K none ([z_used, z_broken, z_fed, z_textEnd, z_made, z_mready, z_modules, z_actions, z_target, z_variables, z_commands, z_updates, z_steps, z_waiting, z_nested, z_type, z_wantsOperand, z_variablesKnown, z_names, z_ownFrom, z_at, z_wrongAt, z_parties, z_states, z_choices, z_outcomes, z_sready, z_many], [z_fc, z_role, z_holds, z_fu, z_taken, z_fo, z_home, z_row], [z, z_policies, z_found, z_told], [z_policy])) : hw_C pg_G pg_TT scr (hv_T kof own) (d + 1) 120 [hw_R 0 i] ([z_used, z_broken, z_fed, z_textEnd, z_made, z_mready, z_modules, z_actions, z_target, z_variables, z_commands, z_updates, z_steps, z_waiting, z_nested, z_type, z_wantsOperand, z_variablesKnown, z_names, z_ownFrom, z_at, z_wrongAt, z_parties, z_states, z_choices, z_outcomes, z_sready, z_many], [z_fc, z_role, z_holds, z_fu, z_taken, z_fo, z_home, z_row], [z_size, z_policies, z_found, z_told], [z_policy]) K E := by
  refine hw_meth hU hv_DG ⟨rfl, rfl⟩ (fun w X hs hX hF => ?_)
  have lp : ∀ (n : Nat) (z : Int → Int), hw_ot i z_size z → z i ≤ z_size i → (z i).toNat < n → w (0, [some (hw_R 0 i)], [], ([z_used, z_broken, z_fed, z_textEnd, z_made, z_mready, z_modules, z_actions, z_target, z_variables, z_commands, z_updates, z_steps, z_waiting, z_nested, z_type, z_wantsOperand, z_variablesKnown, z_names, z_ownFrom, z_at, z_wrongAt, z_parties, z_states, z_choices, z_outcomes, z_sready, z_many], [z_fc, z_role, z_holds, z_fu, z_taken, z_fo, z_home, z_row], [z, z_policies, z_found, z_told], [z_policy])) := by
    intro n
    induction n with
    | zero => intros; omega
    | succ n ih =>
      intros
      refine hs [] _ rfl ?_
      repeat' (first | apply ih | apply hK | refine And.intro ?_ ?_ | intro _ | refine hs [0] _ rfl ?_)
      all_goals (first | exact Nat.lt_succ_self _ | omega | assumption | exact hw_ot_rf | exact hw_ot_up (by assumption) | (simp only [hw_up_s] at *; omega) | (simp only [hw_up] at *; omega))
  repeat' (first | apply lp | apply hK | refine And.intro ?_ ?_ | intro _ | refine hs [0] _ rfl ?_)
  all_goals (first | exact Nat.lt_succ_self _ | omega | assumption | exact hw_ot_rf | exact hw_ot_up (by assumption) | (simp only [hw_up_s] at *; omega) | (simp only [hw_up] at *; omega))
theorem c_stretch (hU : hw_U (hv_T kof own)) {i m : Int} (hK : ∀ z, hw_ot i z_size z → m ≤ hv_rm i → m ≤ z i → K (some (hw_I 1)) ([z_used, z_broken, z_fed, z_textEnd, z_made, z_mready, z_modules, z_actions, z_target, z_variables, z_commands, z_updates, z_steps, z_waiting, z_nested, z_type, z_wantsOperand, z_variablesKnown, z_names, z_ownFrom, z_at, z_wrongAt, z_parties, z_states, z_choices, z_outcomes, z_sready, z_many], [z_fc, z_role, z_holds, z_fu, z_taken, z_fo, z_home, z_row], [z, z_policies, z_found, z_told], [z_policy])) (hK1 : hv_rm i < m → K (some (hw_I 0)) ([z_used, z_broken, z_fed, z_textEnd, z_made, z_mready, z_modules, z_actions, z_target, z_variables, z_commands, z_updates, z_steps, z_waiting, z_nested, z_type, z_wantsOperand, z_variablesKnown, z_names, z_ownFrom, z_at, z_wrongAt, z_parties, z_states, z_choices, z_outcomes, z_sready, z_many], [z_fc, z_role, z_holds, z_fu, z_taken, z_fo, z_home, z_row], [z_size, z_policies, z_found, z_told], [z_policy])) : hw_C pg_G pg_TT scr (hv_T kof own) (d + 1) 119 [hw_R 0 i, hw_I m] ([z_used, z_broken, z_fed, z_textEnd, z_made, z_mready, z_modules, z_actions, z_target, z_variables, z_commands, z_updates, z_steps, z_waiting, z_nested, z_type, z_wantsOperand, z_variablesKnown, z_names, z_ownFrom, z_at, z_wrongAt, z_parties, z_states, z_choices, z_outcomes, z_sready, z_many], [z_fc, z_role, z_holds, z_fu, z_taken, z_fo, z_home, z_row], [z_size, z_policies, z_found, z_told], [z_policy]) K E := by
  refine hw_meth hU hv_DG ⟨rfl, rfl⟩ (fun w X hs hX hF => ?_)
  have lp : ∀ (n : Nat) (z : Int → Int), hw_ot i z_size z → m ≤ hv_rm i → (m - z i).toNat < n → w (11, [some (hw_R 0 i), some (hw_I (m))], [], ([z_used, z_broken, z_fed, z_textEnd, z_made, z_mready, z_modules, z_actions, z_target, z_variables, z_commands, z_updates, z_steps, z_waiting, z_nested, z_type, z_wantsOperand, z_variablesKnown, z_names, z_ownFrom, z_at, z_wrongAt, z_parties, z_states, z_choices, z_outcomes, z_sready, z_many], [z_fc, z_role, z_holds, z_fu, z_taken, z_fo, z_home, z_row], [z, z_policies, z_found, z_told], [z_policy])) := by
    intro n
    induction n with
    | zero => intros; omega
    | succ n ih =>
      intros
      refine hs [] _ rfl ?_
      repeat' (first | apply ih | apply hK | apply hK1 | refine And.intro ?_ ?_ | intro _ | refine hs [11] _ rfl ?_)
      all_goals (first | exact Nat.lt_succ_self _ | omega | assumption | exact hw_ot_rf | exact hw_ot_up (by assumption) | (simp only [hw_up_s] at *; omega) | (simp only [hw_up] at *; omega))
  repeat' (first | apply lp | apply hK | apply hK1 | refine And.intro ?_ ?_ | intro _ | refine hs [11] _ rfl ?_)
  all_goals (first | exact Nat.lt_succ_self _ | omega | assumption | exact hw_ot_rf | exact hw_ot_up (by assumption) | (simp only [hw_up_s] at *; omega) | (simp only [hw_up] at *; omega))
end C42
