/-! what is called of the class, in one form -/
section C4k
variable {scr : Nat × (Nat → Int32)} {d : Nat} {K : Option hw_V → hw_Z → Prop} {E : Nat → hw_Z → Prop} {Z : hw_Z} {kof : Nat → Nat × Int} {own : Nat → Prop} {f : Int} {g : Int → Int}
/-- the first f octets are those of g -/
def oc_ok (f : Int) (g o : Int → Int) : Prop := ∃ _ : Unit, ∀ i, 0 ≤ i → i < f → o i = g i
theorem oc_at {f i : Int} {g o : Int → Int} (h : oc_ok f g o) (h1 : 0 ≤ i) (h2 : i < f) : o i = g i := h.elim fun _ h => h i h1 h2
theorem oc_0 {g o : Int → Int} : oc_ok 0 g o := ⟨(), fun i h1 h2 => absurd h1 (by omega)⟩
theorem oc_f {f a b c d e : Int} {g o p : Int → Int} (h : oc_ok f g o) (h1 : fg_ok o p f (f + 20) a b c d e) : oc_ok (f + 20) (fg g f a b c d e) p := by
  refine ⟨(), fun i i1 i2 => ?_⟩
  rw [fg_at h1 i1 i2]
  unfold fg
  by_cases c : i < f
  · rw [if_pos c, if_pos c]
    exact oc_at h i1 c
  · rw [if_neg c, if_neg c]
/-- the class between calls; f octets are fed -/
def hv_I (f : Int) (g : Int → Int) (Z : hw_Z) : Prop := ∃ (z_used z_broken z_textEnd z_made z_mready z_modules z_actions z_target z_variables z_commands z_updates z_steps z_waiting z_nested z_type z_wantsOperand z_variablesKnown z_names z_ownFrom z_at z_wrongAt z_parties z_states z_choices z_outcomes z_sready z_many : Int) (z_fc z_role z_holds z_fu z_taken z_fo z_home z_row z_fout z_offer z_oc z_size z_policies z_found z_told : Int → Int) (z_policy : Int → Int → Int), Z = ([z_used, z_broken, f, z_textEnd, z_made, z_mready, z_modules, z_actions, z_target, z_variables, z_commands, z_updates, z_steps, z_waiting, z_nested, z_type, z_wantsOperand, z_variablesKnown, z_names, z_ownFrom, z_at, z_wrongAt, z_parties, z_states, z_choices, z_outcomes, z_sready, z_many], [z_fc, z_role, z_holds, z_fu, z_taken, z_fo, z_home, z_row, z_fout, z_offer, z_oc], [z_size, z_policies, z_found, z_told], [z_policy]) ∧ hv_inv z_mready z_commands z_updates z_sready z_states z_fu z_fc z_found z_told z_policy ∧ oc_ok f g z_oc
theorem q_wrong (hU : hw_U (hv_T kof own)) (hZ : hv_I f g Z) (hK : ∀ r Z', hv_I f g Z' → K (some (hw_I r)) Z') : hw_C pg_G pg_TT scr (hv_T kof own) (d + 1) 15 [hw_R 2 0] Z K E := by
  obtain ⟨z_used, z_broken, z_textEnd, z_made, z_mready, z_modules, z_actions, z_target, z_variables, z_commands, z_updates, z_steps, z_waiting, z_nested, z_type, z_wantsOperand, z_variablesKnown, z_names, z_ownFrom, z_at, z_wrongAt, z_parties, z_states, z_choices, z_outcomes, z_sready, z_many, z_fc, z_role, z_holds, z_fu, z_taken, z_fo, z_home, z_row, z_fout, z_offer, z_oc, z_size, z_policies, z_found, z_told, z_policy, rfl, hinv, hoc⟩ := hZ
  apply p_wrong hU
  all_goals intros
  all_goals (first | assumption | (apply hK; exact ⟨_, _, _, _, _, _, _, _, _, _, _, _, _, _, _, _, _, _, _, _, _, _, _, _, _, _, _, _, _, _, _, _, _, _, _, _, _, _, _, _, _, _, _, rfl, by assumption, by assumption⟩))
theorem q_bits (hU : hw_U (hv_T kof own)) {x : Int} (hZ : hv_I f g Z) (hK : ∀ r Z', hv_I f g Z' → K (some (hw_I r)) Z') : hw_C pg_G pg_TT scr (hv_T kof own) (d + 3) 16 [hw_R 2 0, hw_I x] Z K E := by
  obtain ⟨z_used, z_broken, z_textEnd, z_made, z_mready, z_modules, z_actions, z_target, z_variables, z_commands, z_updates, z_steps, z_waiting, z_nested, z_type, z_wantsOperand, z_variablesKnown, z_names, z_ownFrom, z_at, z_wrongAt, z_parties, z_states, z_choices, z_outcomes, z_sready, z_many, z_fc, z_role, z_holds, z_fu, z_taken, z_fo, z_home, z_row, z_fout, z_offer, z_oc, z_size, z_policies, z_found, z_told, z_policy, rfl, hinv, hoc⟩ := hZ
  apply p_bits hU
  all_goals intros
  all_goals (first | assumption | (apply hK; exact ⟨_, _, _, _, _, _, _, _, _, _, _, _, _, _, _, _, _, _, _, _, _, _, _, _, _, _, _, _, _, _, _, _, _, _, _, _, _, _, _, _, _, _, _, rfl, by assumption, by assumption⟩))
theorem q_part (hU : hw_U (hv_T kof own)) {x y : Int} (hZ : hv_I f g Z) (hK : ∀ r Z', hv_I f g Z' → K (some (hw_I r)) Z') (hE : ∀ c Z', (c = 17) → hv_I f g Z' → E c Z') : hw_C pg_G pg_TT scr (hv_T kof own) (d + 2) 178 [hw_R 2 0, hw_I x, hw_I y] Z K E := by
  obtain ⟨z_used, z_broken, z_textEnd, z_made, z_mready, z_modules, z_actions, z_target, z_variables, z_commands, z_updates, z_steps, z_waiting, z_nested, z_type, z_wantsOperand, z_variablesKnown, z_names, z_ownFrom, z_at, z_wrongAt, z_parties, z_states, z_choices, z_outcomes, z_sready, z_many, z_fc, z_role, z_holds, z_fu, z_taken, z_fo, z_home, z_row, z_fout, z_offer, z_oc, z_size, z_policies, z_found, z_told, z_policy, rfl, hinv, hoc⟩ := hZ
  apply p_part hU
  all_goals intros
  all_goals (first | assumption | (apply hK; exact ⟨_, _, _, _, _, _, _, _, _, _, _, _, _, _, _, _, _, _, _, _, _, _, _, _, _, _, _, _, _, _, _, _, _, _, _, _, _, _, _, _, _, _, _, rfl, by assumption, by assumption⟩) | (refine hE _ _ ?_ ⟨_, _, _, _, _, _, _, _, _, _, _, _, _, _, _, _, _, _, _, _, _, _, _, _, _, _, _, _, _, _, _, _, _, _, _, _, _, _, _, _, _, _, _, rfl, by assumption, by assumption⟩; decide))
theorem q_count (hU : hw_U (hv_T kof own)) {x : Int} (hZ : hv_I f g Z) (hK : ∀ r Z', hv_I f g Z' → K (some (hw_I r)) Z') (hE : ∀ c Z', (c = 15) → hv_I f g Z' → E c Z') : hw_C pg_G pg_TT scr (hv_T kof own) (d + 2) 180 [hw_R 2 0, hw_I x] Z K E := by
  obtain ⟨z_used, z_broken, z_textEnd, z_made, z_mready, z_modules, z_actions, z_target, z_variables, z_commands, z_updates, z_steps, z_waiting, z_nested, z_type, z_wantsOperand, z_variablesKnown, z_names, z_ownFrom, z_at, z_wrongAt, z_parties, z_states, z_choices, z_outcomes, z_sready, z_many, z_fc, z_role, z_holds, z_fu, z_taken, z_fo, z_home, z_row, z_fout, z_offer, z_oc, z_size, z_policies, z_found, z_told, z_policy, rfl, hinv, hoc⟩ := hZ
  apply p_count hU
  all_goals intros
  all_goals (first | assumption | (apply hK; exact ⟨_, _, _, _, _, _, _, _, _, _, _, _, _, _, _, _, _, _, _, _, _, _, _, _, _, _, _, _, _, _, _, _, _, _, _, _, _, _, _, _, _, _, _, rfl, by assumption, by assumption⟩) | (refine hE _ _ ?_ ⟨_, _, _, _, _, _, _, _, _, _, _, _, _, _, _, _, _, _, _, _, _, _, _, _, _, _, _, _, _, _, _, _, _, _, _, _, _, _, _, _, _, _, _, rfl, by assumption, by assumption⟩; decide))
theorem q_state (hU : hw_U (hv_T kof own)) {s x k : Int} (hZ : hv_I f g Z) (hK : ∀ r Z', hv_I f g Z' → K (some (hw_I r)) Z') (hE : ∀ c Z', (c = 15 ∨ c = 16 ∨ c = 17) → hv_I f g Z' → E c Z') : hw_C pg_G pg_TT scr (hv_T kof own) (d + 2) 114 [hw_R 2 0, hw_I s, hw_I x, hw_I k] Z K E := by
  obtain ⟨z_used, z_broken, z_textEnd, z_made, z_mready, z_modules, z_actions, z_target, z_variables, z_commands, z_updates, z_steps, z_waiting, z_nested, z_type, z_wantsOperand, z_variablesKnown, z_names, z_ownFrom, z_at, z_wrongAt, z_parties, z_states, z_choices, z_outcomes, z_sready, z_many, z_fc, z_role, z_holds, z_fu, z_taken, z_fo, z_home, z_row, z_fout, z_offer, z_oc, z_size, z_policies, z_found, z_told, z_policy, rfl, hinv, hoc⟩ := hZ
  apply p_state hU
  all_goals intros
  all_goals (first | assumption | (apply hK; exact ⟨_, _, _, _, _, _, _, _, _, _, _, _, _, _, _, _, _, _, _, _, _, _, _, _, _, _, _, _, _, _, _, _, _, _, _, _, _, _, _, _, _, _, _, rfl, by assumption, by assumption⟩) | (refine hE _ _ ?_ ⟨_, _, _, _, _, _, _, _, _, _, _, _, _, _, _, _, _, _, _, _, _, _, _, _, _, _, _, _, _, _, _, _, _, _, _, _, _, _, _, _, _, _, _, rfl, by assumption, by assumption⟩; decide))
theorem q_outcome (hU : hw_U (hv_T kof own)) {s c o : Int} (hZ : hv_I f g Z) (hK : ∀ r Z', hv_I f g Z' → K (some (hw_I r)) Z') (hE : ∀ c Z', (c = 16 ∨ c = 17) → hv_I f g Z' → E c Z') : hw_C pg_G pg_TT scr (hv_T kof own) (d + 6) 120 [hw_R 2 0, hw_I s, hw_I c, hw_I o] Z K E := by
  obtain ⟨z_used, z_broken, z_textEnd, z_made, z_mready, z_modules, z_actions, z_target, z_variables, z_commands, z_updates, z_steps, z_waiting, z_nested, z_type, z_wantsOperand, z_variablesKnown, z_names, z_ownFrom, z_at, z_wrongAt, z_parties, z_states, z_choices, z_outcomes, z_sready, z_many, z_fc, z_role, z_holds, z_fu, z_taken, z_fo, z_home, z_row, z_fout, z_offer, z_oc, z_size, z_policies, z_found, z_told, z_policy, rfl, hinv, hoc⟩ := hZ
  apply p_outcome hU
  all_goals intros
  all_goals (first | assumption | (apply hK; exact ⟨_, _, _, _, _, _, _, _, _, _, _, _, _, _, _, _, _, _, _, _, _, _, _, _, _, _, _, _, _, _, _, _, _, _, _, _, _, _, _, _, _, _, _, rfl, by assumption, by assumption⟩) | (refine hE _ _ ?_ ⟨_, _, _, _, _, _, _, _, _, _, _, _, _, _, _, _, _, _, _, _, _, _, _, _, _, _, _, _, _, _, _, _, _, _, _, _, _, _, _, _, _, _, _, rfl, by assumption, by assumption⟩; decide))
theorem q_claim (hU : hw_U (hv_T kof own)) {s x y : Int} (hZ : hv_I f g Z) (hK : ∀ Z', hv_I f g Z' → K none Z') (hE : ∀ c Z', (c = 15 ∨ c = 16 ∨ c = 17) → hv_I f g Z' → E c Z') : hw_C pg_G pg_TT scr (hv_T kof own) (d + 3) 172 [hw_R 2 0, hw_I s, hw_J x, hw_J y] Z K E := by
  obtain ⟨z_used, z_broken, z_textEnd, z_made, z_mready, z_modules, z_actions, z_target, z_variables, z_commands, z_updates, z_steps, z_waiting, z_nested, z_type, z_wantsOperand, z_variablesKnown, z_names, z_ownFrom, z_at, z_wrongAt, z_parties, z_states, z_choices, z_outcomes, z_sready, z_many, z_fc, z_role, z_holds, z_fu, z_taken, z_fo, z_home, z_row, z_fout, z_offer, z_oc, z_size, z_policies, z_found, z_told, z_policy, rfl, hinv, hoc⟩ := hZ
  apply p_claim hU
  all_goals intros
  all_goals (first | assumption | (apply hK; exact ⟨_, _, _, _, _, _, _, _, _, _, _, _, _, _, _, _, _, _, _, _, _, _, _, _, _, _, _, _, _, _, _, _, _, _, _, _, _, _, _, _, _, _, _, rfl, by assumption, by assumption⟩) | (refine hE _ _ ?_ ⟨_, _, _, _, _, _, _, _, _, _, _, _, _, _, _, _, _, _, _, _, _, _, _, _, _, _, _, _, _, _, _, _, _, _, _, _, _, _, _, _, _, _, _, rfl, by assumption, by assumption⟩; decide))
theorem q_claimResult (hU : hw_U (hv_T kof own)) {s : Int} (hZ : hv_I f g Z) (hK : ∀ Z', hv_I f g Z' → K none Z') (hE : ∀ c Z', (c = 16 ∨ c = 17 ∨ c = 18) → hv_I f g Z' → E c Z') : hw_C pg_G pg_TT scr (hv_T kof own) (d + 3) 174 [hw_R 2 0, hw_I s] Z K E := by
  obtain ⟨z_used, z_broken, z_textEnd, z_made, z_mready, z_modules, z_actions, z_target, z_variables, z_commands, z_updates, z_steps, z_waiting, z_nested, z_type, z_wantsOperand, z_variablesKnown, z_names, z_ownFrom, z_at, z_wrongAt, z_parties, z_states, z_choices, z_outcomes, z_sready, z_many, z_fc, z_role, z_holds, z_fu, z_taken, z_fo, z_home, z_row, z_fout, z_offer, z_oc, z_size, z_policies, z_found, z_told, z_policy, rfl, hinv, hoc⟩ := hZ
  apply p_claimResult hU
  all_goals intros
  all_goals (first | assumption | (apply hK; exact ⟨_, _, _, _, _, _, _, _, _, _, _, _, _, _, _, _, _, _, _, _, _, _, _, _, _, _, _, _, _, _, _, _, _, _, _, _, _, _, _, _, _, _, _, rfl, by assumption, by assumption⟩) | (refine hE _ _ ?_ ⟨_, _, _, _, _, _, _, _, _, _, _, _, _, _, _, _, _, _, _, _, _, _, _, _, _, _, _, _, _, _, _, _, _, _, _, _, _, _, _, _, _, _, _, rfl, by assumption, by assumption⟩; decide))
theorem q_value (hU : hw_U (hv_T kof own)) {x s : Int} (hZ : hv_I f g Z) (hK : ∀ r Z', hv_I f g Z' → K (some (hw_I r)) Z') (hE : ∀ c Z', (c = 16 ∨ c = 17) → hv_I f g Z' → E c Z') : hw_C pg_G pg_TT scr (hv_T kof own) (d + 6) 162 [hw_R 2 0, hw_I x, hw_I s] Z K E := by
  obtain ⟨z_used, z_broken, z_textEnd, z_made, z_mready, z_modules, z_actions, z_target, z_variables, z_commands, z_updates, z_steps, z_waiting, z_nested, z_type, z_wantsOperand, z_variablesKnown, z_names, z_ownFrom, z_at, z_wrongAt, z_parties, z_states, z_choices, z_outcomes, z_sready, z_many, z_fc, z_role, z_holds, z_fu, z_taken, z_fo, z_home, z_row, z_fout, z_offer, z_oc, z_size, z_policies, z_found, z_told, z_policy, rfl, hinv, hoc⟩ := hZ
  apply p_value hU
  all_goals intros
  all_goals (first | assumption | (apply hK; exact ⟨_, _, _, _, _, _, _, _, _, _, _, _, _, _, _, _, _, _, _, _, _, _, _, _, _, _, _, _, _, _, _, _, _, _, _, _, _, _, _, _, _, _, _, rfl, by assumption, by assumption⟩) | (refine hE _ _ ?_ ⟨_, _, _, _, _, _, _, _, _, _, _, _, _, _, _, _, _, _, _, _, _, _, _, _, _, _, _, _, _, _, _, _, _, _, _, _, _, _, _, _, _, _, _, rfl, by assumption, by assumption⟩; decide))
theorem q_within (hU : hw_U (hv_T kof own)) {x s m : Int} (hZ : hv_I f g Z) (hK : ∀ r Z', hv_I f g Z' → K (some (hw_I r)) Z') (hE : ∀ c Z', (c = 15 ∨ c = 16 ∨ c = 17) → hv_I f g Z' → E c Z') : hw_C pg_G pg_TT scr (hv_T kof own) (d + 7) 166 [hw_R 2 0, hw_I x, hw_I s, hw_I m] Z K E := by
  obtain ⟨z_used, z_broken, z_textEnd, z_made, z_mready, z_modules, z_actions, z_target, z_variables, z_commands, z_updates, z_steps, z_waiting, z_nested, z_type, z_wantsOperand, z_variablesKnown, z_names, z_ownFrom, z_at, z_wrongAt, z_parties, z_states, z_choices, z_outcomes, z_sready, z_many, z_fc, z_role, z_holds, z_fu, z_taken, z_fo, z_home, z_row, z_fout, z_offer, z_oc, z_size, z_policies, z_found, z_told, z_policy, rfl, hinv, hoc⟩ := hZ
  apply p_within hU
  all_goals intros
  all_goals (first | assumption | (apply hK; exact ⟨_, _, _, _, _, _, _, _, _, _, _, _, _, _, _, _, _, _, _, _, _, _, _, _, _, _, _, _, _, _, _, _, _, _, _, _, _, _, _, _, _, _, _, rfl, by assumption, by assumption⟩) | (refine hE _ _ ?_ ⟨_, _, _, _, _, _, _, _, _, _, _, _, _, _, _, _, _, _, _, _, _, _, _, _, _, _, _, _, _, _, _, _, _, _, _, _, _, _, _, _, _, _, _, rfl, by assumption, by assumption⟩; decide))
theorem q_solve (hU : hw_U (hv_T kof own)) {x : Int} (hZ : hv_I f g Z) (hK : ∀ r Z', hv_I f g Z' → K (some (hw_I r)) Z') (hE : ∀ c Z', (c = 16) → hv_I f g Z' → E c Z') : hw_C pg_G pg_TT scr (hv_T kof own) (d + 8) 139 [hw_R 2 0, hw_I x] Z K E := by
  obtain ⟨z_used, z_broken, z_textEnd, z_made, z_mready, z_modules, z_actions, z_target, z_variables, z_commands, z_updates, z_steps, z_waiting, z_nested, z_type, z_wantsOperand, z_variablesKnown, z_names, z_ownFrom, z_at, z_wrongAt, z_parties, z_states, z_choices, z_outcomes, z_sready, z_many, z_fc, z_role, z_holds, z_fu, z_taken, z_fo, z_home, z_row, z_fout, z_offer, z_oc, z_size, z_policies, z_found, z_told, z_policy, rfl, hinv, hoc⟩ := hZ
  apply p_solve hU
  all_goals intros
  all_goals (first | assumption | (apply hK; exact ⟨_, _, _, _, _, _, _, _, _, _, _, _, _, _, _, _, _, _, _, _, _, _, _, _, _, _, _, _, _, _, _, _, _, _, _, _, _, _, _, _, _, _, _, rfl, by assumption, by assumption⟩) | (refine hE _ _ ?_ ⟨_, _, _, _, _, _, _, _, _, _, _, _, _, _, _, _, _, _, _, _, _, _, _, _, _, _, _, _, _, _, _, _, _, _, _, _, _, _, _, _, _, _, _, rfl, by assumption, by assumption⟩; decide))
theorem q_check (hU : hw_U (hv_T kof own)) {x : Int} (hZ : hv_I f g Z) (hK : ∀ r Z', hv_I f g Z' → K (some (hw_I r)) Z') (hE : ∀ c Z', (c = 16) → hv_I f g Z' → E c Z') : hw_C pg_G pg_TT scr (hv_T kof own) (d + 8) 176 [hw_R 2 0, hw_I x] Z K E := by
  obtain ⟨z_used, z_broken, z_textEnd, z_made, z_mready, z_modules, z_actions, z_target, z_variables, z_commands, z_updates, z_steps, z_waiting, z_nested, z_type, z_wantsOperand, z_variablesKnown, z_names, z_ownFrom, z_at, z_wrongAt, z_parties, z_states, z_choices, z_outcomes, z_sready, z_many, z_fc, z_role, z_holds, z_fu, z_taken, z_fo, z_home, z_row, z_fout, z_offer, z_oc, z_size, z_policies, z_found, z_told, z_policy, rfl, hinv, hoc⟩ := hZ
  apply p_check hU
  all_goals intros
  all_goals (first | assumption | (apply hK; exact ⟨_, _, _, _, _, _, _, _, _, _, _, _, _, _, _, _, _, _, _, _, _, _, _, _, _, _, _, _, _, _, _, _, _, _, _, _, _, _, _, _, _, _, _, rfl, by assumption, by assumption⟩) | (refine hE _ _ ?_ ⟨_, _, _, _, _, _, _, _, _, _, _, _, _, _, _, _, _, _, _, _, _, _, _, _, _, _, _, _, _, _, _, _, _, _, _, _, _, _, _, _, _, _, _, rfl, by assumption, by assumption⟩; decide))
theorem q_explore (hU : hw_U (hv_T kof own)) (hZ : hv_I f g Z) (hK : ∀ r Z', hv_I f g Z' → K (some (hw_I r)) Z') (hE : ∀ c Z', (c = 14 ∨ c = 16 ∨ c = 18) → hv_I f g Z' → E c Z') : hw_C pg_G pg_TT scr (hv_T kof own) (d + 9) 98 [hw_R 2 0] Z K E := by
  obtain ⟨z_used, z_broken, z_textEnd, z_made, z_mready, z_modules, z_actions, z_target, z_variables, z_commands, z_updates, z_steps, z_waiting, z_nested, z_type, z_wantsOperand, z_variablesKnown, z_names, z_ownFrom, z_at, z_wrongAt, z_parties, z_states, z_choices, z_outcomes, z_sready, z_many, z_fc, z_role, z_holds, z_fu, z_taken, z_fo, z_home, z_row, z_fout, z_offer, z_oc, z_size, z_policies, z_found, z_told, z_policy, rfl, hinv, hoc⟩ := hZ
  apply p_explore hU
  all_goals intros
  all_goals (first | assumption | (apply hK; exact ⟨_, _, _, _, _, _, _, _, _, _, _, _, _, _, _, _, _, _, _, _, _, _, _, _, _, _, _, _, _, _, _, _, _, _, _, _, _, _, _, _, _, _, _, rfl, by assumption, by assumption⟩) | (refine hE _ _ ?_ ⟨_, _, _, _, _, _, _, _, _, _, _, _, _, _, _, _, _, _, _, _, _, _, _, _, _, _, _, _, _, _, _, _, _, _, _, _, _, _, _, _, _, _, _, rfl, by assumption, by assumption⟩; decide))
theorem q_feed (hU : hw_U (hv_T kof own)) {x y t u v : Int} (hZ : hv_I f g Z) (hK : ∀ Z', f ≤ 8180 → hv_I (f + 20) (fg g f x y t u v) Z' → K (some (hw_I (f + 20))) Z') (hE : 8180 < f → ∀ Z', hv_I f g Z' → E 17 Z') : hw_C pg_G pg_TT scr (hv_T kof own) (d + 2) 21 [hw_R 2 0, hw_I x, hw_I y, hw_I t, hw_I u, hw_I v] Z K E := by
  obtain ⟨z_used, z_broken, z_textEnd, z_made, z_mready, z_modules, z_actions, z_target, z_variables, z_commands, z_updates, z_steps, z_waiting, z_nested, z_type, z_wantsOperand, z_variablesKnown, z_names, z_ownFrom, z_at, z_wrongAt, z_parties, z_states, z_choices, z_outcomes, z_sready, z_many, z_fc, z_role, z_holds, z_fu, z_taken, z_fo, z_home, z_row, z_fout, z_offer, z_oc, z_size, z_policies, z_found, z_told, z_policy, rfl, hinv, hoc⟩ := hZ
  refine p_feed hU (fun q v hq h hg => ?_) (fun h => hE h _ ⟨_, _, _, _, _, _, _, _, _, _, _, _, _, _, _, _, _, _, _, _, _, _, _, _, _, _, _, _, _, _, _, _, _, _, _, _, _, _, _, _, _, _, _, rfl, by assumption, by assumption⟩)
  subst hq
  exact hK _ h ⟨_, _, _, _, _, _, _, _, _, _, _, _, _, _, _, _, _, _, _, _, _, _, _, _, _, _, _, _, _, _, _, _, _, _, _, _, _, _, _, _, _, _, _, rfl, by assumption, oc_f hoc hg⟩
theorem q_end (hU : hw_U (hv_T kof own)) {m : Int} (hZ : hv_I f g Z) (hK : ∀ r Z', 0 ≤ m → m ≤ 8192 → m ≤ f → hv_I 0 g Z' → K (some (hw_I r)) Z') (hE : (m < 0 ∨ 8192 < m ∨ f < m) → ∀ Z', hv_I f g Z' → E 17 Z') (hE1 : 0 ≤ m → m ≤ 8192 → m ≤ f → ∀ Z', hv_I 0 g Z' → E 15 Z') : hw_C pg_G pg_TT scr (hv_T kof own) (d + 11) 25 [hw_R 2 0, hw_I m] Z K E := by
  obtain ⟨z_used, z_broken, z_textEnd, z_made, z_mready, z_modules, z_actions, z_target, z_variables, z_commands, z_updates, z_steps, z_waiting, z_nested, z_type, z_wantsOperand, z_variablesKnown, z_names, z_ownFrom, z_at, z_wrongAt, z_parties, z_states, z_choices, z_outcomes, z_sready, z_many, z_fc, z_role, z_holds, z_fu, z_taken, z_fo, z_home, z_row, z_fout, z_offer, z_oc, z_size, z_policies, z_found, z_told, z_policy, rfl, hinv, hoc⟩ := hZ
  apply p_end hU hinv
  · intros
    refine hK _ _ ?_ ?_ ?_ ⟨_, _, _, _, _, _, _, _, _, _, _, _, _, _, _, _, _, _, _, _, _, _, _, _, _, _, _, _, _, _, _, _, _, _, _, _, _, _, _, _, _, _, _, rfl, by assumption, oc_0⟩ <;> assumption
  · intro h
    exact hE h _ ⟨_, _, _, _, _, _, _, _, _, _, _, _, _, _, _, _, _, _, _, _, _, _, _, _, _, _, _, _, _, _, _, _, _, _, _, _, _, _, _, _, _, _, _, rfl, by assumption, by assumption⟩
  · intros
    refine hE1 ?_ ?_ ?_ _ ⟨_, _, _, _, _, _, _, _, _, _, _, _, _, _, _, _, _, _, _, _, _, _, _, _, _, _, _, _, _, _, _, _, _, _, _, _, _, _, _, _, _, _, _, rfl, by assumption, oc_0⟩ <;> assumption
end C4k
