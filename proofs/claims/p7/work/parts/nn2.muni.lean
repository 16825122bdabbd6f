/-! what is called of the model, in one form -/
section C85
variable {scr : Nat × (Nat → Int32)} {d : Nat} {K : Option hw_V → hw_Z → Prop} {E : Nat → hw_Z → Prop} {Z : hw_Z} {kof : Nat → Nat × Int} {own : Nat → Prop} {f er : Int} {g : Int → Int} {Do : Option dT} {Yo : Option qY}
/-- the description that the model holds, if it has one; what was explored, if it was -/
def mDo (D : Option dT) (th : Int) (cd gu up st cm ca lo hi fi : Int → Int) (cn vn md an tg : Int) : Prop := ∃ _ : Unit, (D = none → th = 0) ∧ ∀ D', D = some D' → ¬ th = 0 ∧ mH D' cd gu up st cm ca lo hi fi cn vn md an tg
def mYo (Y : Option qY) (vn ex : Int) (vl go fo fc tg : Int → Int) (ns oc nc : Int) : Prop := ∃ _ : Unit, (Y = none → ex = 0) ∧ ∀ Y', Y = some Y' → ¬ ex = 0 ∧ mYe vn.toNat vl go fo fc tg ns oc nc Y' ∧ yOK Y'
section MDO
variable {D : dT} {Y : qY} {cd gu up st cm ca lo hi fi vl go fo fc tga : Int → Int} {th cn vn md an tg ex ns oc nc b : Int}
theorem mDo_i (h : mH D cd gu up st cm ca lo hi fi cn vn md an tg) (ht : th = 1) : mDo (some D) th cd gu up st cm ca lo hi fi cn vn md an tg := ⟨(), fun z => (by cases z), fun D' e => by
  injection e with e
  subst e
  exact ⟨by omega, h⟩⟩
theorem mDo_n (ht : th = 0) : mDo none th cd gu up st cm ca lo hi fi cn vn md an tg := ⟨(), fun _ => ht, fun D' e => by cases e⟩
theorem mYo_n (hx : ex = 0) : mYo none vn ex vl go fo fc tga ns oc nc := ⟨(), fun _ => hx, fun D' e => by cases e⟩
theorem mYo_i (h : mYe b.toNat vl go fo fc tga ns oc nc Y) (hb : b = vn) (hk : yOK Y) : mYo (some Y) vn 1 vl go fo fc tga ns oc nc := ⟨(), fun z => (by cases z), fun D' e => by
  injection e with e
  subst e
  exact ⟨by decide, hb ▸ h, hk⟩⟩
end MDO
/-- the model between calls; f octets are fed (what was read left aside) -/
def hm_V (f er : Int) (g : Int → Int) (Z : hw_Z) : Prop := ∃ (z_m_wrong z_m_letters z_m_there z_m_kind z_m_word z_m_from z_m_to z_m_tokens z_m_names z_m_vars z_m_modules z_m_commands z_m_actions z_m_target z_m_phase z_m_codes z_m_deep z_m_bool z_m_broken z_m_explored z_m_states z_m_choices z_m_outcomes z_m_problem : Int) (z_m_text z_m_nameFrom z_m_nameSize z_m_nameKind z_m_nameValue z_m_actionFrom z_m_actionSize z_m_commandModule z_m_commandAction z_m_guard z_m_updates z_m_over z_m_under z_m_setTo z_m_code z_m_firstChoice z_m_firstOutcome z_m_goesTo z_m_taken z_m_step z_m_chosen z_m_isTarget z_m_holds z_m_above z_m_below z_m_solved z_m_known z_m_zero z_m_policy z_m_unknown z_m_index z_m_got z_m_set z_m_stack z_m_now z_m_next z_m_value z_m_octets z_m_varModule z_m_low z_m_high z_m_first z_m_isBool z_nn : Int → Int) (z_dg : Int → Int → Int) (va : Int → Int), Z = ([er, f, z_m_wrong, z_m_letters, z_m_there, z_m_kind, z_m_word, z_m_from, z_m_to, z_m_tokens, z_m_names, z_m_vars, z_m_modules, z_m_commands, z_m_actions, z_m_target, z_m_phase, z_m_codes, z_m_deep, z_m_bool, z_m_broken, z_m_explored, z_m_states, z_m_choices, z_m_outcomes, z_m_problem], [z_m_text, z_m_nameFrom, z_m_nameSize, z_m_nameKind, z_m_nameValue, z_m_actionFrom, z_m_actionSize, z_m_commandModule, z_m_commandAction, z_m_guard, z_m_updates, z_m_over, z_m_under, z_m_setTo, z_m_code, z_m_firstChoice, z_m_firstOutcome, z_m_goesTo, z_m_taken, z_m_step, z_m_chosen, z_m_isTarget, z_m_holds, z_m_above, z_m_below, z_m_solved, z_m_known, z_m_zero, z_m_policy, z_m_unknown, z_m_index, z_m_got, z_m_set, z_m_stack, z_m_now, z_m_next, z_m_value, z_m_octets, z_m_varModule, z_m_low, z_m_high, z_m_first, z_m_isBool], [z_nn], [z_dg]) ∧ wa_all z_nn z_dg va ∧ mi_ok z_m_firstOutcome z_m_goesTo z_m_above z_m_below z_m_firstChoice z_m_isTarget z_m_zero z_m_policy z_m_known z_m_solved z_m_explored z_m_states va ∧ (¬ z_m_there = 0 → mp_ok z_m_code z_m_guard z_m_updates z_m_over z_m_under z_m_setTo z_m_commandModule z_m_commandAction z_m_target z_m_vars z_m_modules z_m_commands z_m_actions) ∧ (aw_ok z_m_firstOutcome z_m_below z_m_firstChoice z_m_states z_m_explored) ∧ oc_ok f g z_m_octets
/-- the model between calls; f octets are fed; what it read, what it explored -/
def hm_I (f er : Int) (g : Int → Int) (Do : Option dT) (Yo : Option qY) (Z : hw_Z) : Prop := ∃ (z_m_wrong z_m_letters z_m_there z_m_kind z_m_word z_m_from z_m_to z_m_tokens z_m_names z_m_vars z_m_modules z_m_commands z_m_actions z_m_target z_m_phase z_m_codes z_m_deep z_m_bool z_m_broken z_m_explored z_m_states z_m_choices z_m_outcomes z_m_problem : Int) (z_m_text z_m_nameFrom z_m_nameSize z_m_nameKind z_m_nameValue z_m_actionFrom z_m_actionSize z_m_commandModule z_m_commandAction z_m_guard z_m_updates z_m_over z_m_under z_m_setTo z_m_code z_m_firstChoice z_m_firstOutcome z_m_goesTo z_m_taken z_m_step z_m_chosen z_m_isTarget z_m_holds z_m_above z_m_below z_m_solved z_m_known z_m_zero z_m_policy z_m_unknown z_m_index z_m_got z_m_set z_m_stack z_m_now z_m_next z_m_value z_m_octets z_m_varModule z_m_low z_m_high z_m_first z_m_isBool z_nn : Int → Int) (z_dg : Int → Int → Int) (va : Int → Int), Z = ([er, f, z_m_wrong, z_m_letters, z_m_there, z_m_kind, z_m_word, z_m_from, z_m_to, z_m_tokens, z_m_names, z_m_vars, z_m_modules, z_m_commands, z_m_actions, z_m_target, z_m_phase, z_m_codes, z_m_deep, z_m_bool, z_m_broken, z_m_explored, z_m_states, z_m_choices, z_m_outcomes, z_m_problem], [z_m_text, z_m_nameFrom, z_m_nameSize, z_m_nameKind, z_m_nameValue, z_m_actionFrom, z_m_actionSize, z_m_commandModule, z_m_commandAction, z_m_guard, z_m_updates, z_m_over, z_m_under, z_m_setTo, z_m_code, z_m_firstChoice, z_m_firstOutcome, z_m_goesTo, z_m_taken, z_m_step, z_m_chosen, z_m_isTarget, z_m_holds, z_m_above, z_m_below, z_m_solved, z_m_known, z_m_zero, z_m_policy, z_m_unknown, z_m_index, z_m_got, z_m_set, z_m_stack, z_m_now, z_m_next, z_m_value, z_m_octets, z_m_varModule, z_m_low, z_m_high, z_m_first, z_m_isBool], [z_nn], [z_dg]) ∧ wa_all z_nn z_dg va ∧ mi_ok z_m_firstOutcome z_m_goesTo z_m_above z_m_below z_m_firstChoice z_m_isTarget z_m_zero z_m_policy z_m_known z_m_solved z_m_explored z_m_states va ∧ (¬ z_m_there = 0 → mp_ok z_m_code z_m_guard z_m_updates z_m_over z_m_under z_m_setTo z_m_commandModule z_m_commandAction z_m_target z_m_vars z_m_modules z_m_commands z_m_actions) ∧ (aw_ok z_m_firstOutcome z_m_below z_m_firstChoice z_m_states z_m_explored) ∧ oc_ok f g z_m_octets ∧ mDo Do z_m_there z_m_code z_m_guard z_m_updates z_m_setTo z_m_commandModule z_m_commandAction z_m_low z_m_high z_m_first z_m_commands z_m_vars z_m_modules z_m_actions z_m_target ∧ mYo Yo z_m_vars z_m_explored z_m_value z_m_goesTo z_m_firstOutcome z_m_firstChoice z_m_isTarget z_m_states z_m_outcomes z_m_choices
def hm_D (Do : Option dT) (Z : hw_Z) : Prop := ∃ (z_m_err z_m_fed z_m_wrong z_m_letters z_m_there z_m_kind z_m_word z_m_from z_m_to z_m_tokens z_m_names z_m_vars z_m_modules z_m_commands z_m_actions z_m_target z_m_phase z_m_codes z_m_deep z_m_bool z_m_broken z_m_explored z_m_states z_m_choices z_m_outcomes z_m_problem : Int) (z_m_text z_m_nameFrom z_m_nameSize z_m_nameKind z_m_nameValue z_m_actionFrom z_m_actionSize z_m_commandModule z_m_commandAction z_m_guard z_m_updates z_m_over z_m_under z_m_setTo z_m_code z_m_firstChoice z_m_firstOutcome z_m_goesTo z_m_taken z_m_step z_m_chosen z_m_isTarget z_m_holds z_m_above z_m_below z_m_solved z_m_known z_m_zero z_m_policy z_m_unknown z_m_index z_m_got z_m_set z_m_stack z_m_now z_m_next z_m_value z_m_octets z_m_varModule z_m_low z_m_high z_m_first z_m_isBool z_nn : Int → Int) (z_dg : Int → Int → Int), Z = ([z_m_err, z_m_fed, z_m_wrong, z_m_letters, z_m_there, z_m_kind, z_m_word, z_m_from, z_m_to, z_m_tokens, z_m_names, z_m_vars, z_m_modules, z_m_commands, z_m_actions, z_m_target, z_m_phase, z_m_codes, z_m_deep, z_m_bool, z_m_broken, z_m_explored, z_m_states, z_m_choices, z_m_outcomes, z_m_problem], [z_m_text, z_m_nameFrom, z_m_nameSize, z_m_nameKind, z_m_nameValue, z_m_actionFrom, z_m_actionSize, z_m_commandModule, z_m_commandAction, z_m_guard, z_m_updates, z_m_over, z_m_under, z_m_setTo, z_m_code, z_m_firstChoice, z_m_firstOutcome, z_m_goesTo, z_m_taken, z_m_step, z_m_chosen, z_m_isTarget, z_m_holds, z_m_above, z_m_below, z_m_solved, z_m_known, z_m_zero, z_m_policy, z_m_unknown, z_m_index, z_m_got, z_m_set, z_m_stack, z_m_now, z_m_next, z_m_value, z_m_octets, z_m_varModule, z_m_low, z_m_high, z_m_first, z_m_isBool], [z_nn], [z_dg]) ∧ z_m_explored = 0 ∧ mDo Do z_m_there z_m_code z_m_guard z_m_updates z_m_setTo z_m_commandModule z_m_commandAction z_m_low z_m_high z_m_first z_m_commands z_m_vars z_m_modules z_m_actions z_m_target
theorem hm_i {z_m_wrong z_m_letters z_m_there z_m_kind z_m_word z_m_from z_m_to z_m_tokens z_m_names z_m_vars z_m_modules z_m_commands z_m_actions z_m_target z_m_phase z_m_codes z_m_deep z_m_bool z_m_broken z_m_explored z_m_states z_m_choices z_m_outcomes z_m_problem : Int} {z_m_text z_m_nameFrom z_m_nameSize z_m_nameKind z_m_nameValue z_m_actionFrom z_m_actionSize z_m_commandModule z_m_commandAction z_m_guard z_m_updates z_m_over z_m_under z_m_setTo z_m_code z_m_firstChoice z_m_firstOutcome z_m_goesTo z_m_taken z_m_step z_m_chosen z_m_isTarget z_m_holds z_m_above z_m_below z_m_solved z_m_known z_m_zero z_m_policy z_m_unknown z_m_index z_m_got z_m_set z_m_stack z_m_now z_m_next z_m_value z_m_octets z_m_varModule z_m_low z_m_high z_m_first z_m_isBool z_nn : Int → Int} {z_dg : Int → Int → Int} {va : Int → Int} (hv : wa_all z_nn z_dg va) (hi : mi_ok z_m_firstOutcome z_m_goesTo z_m_above z_m_below z_m_firstChoice z_m_isTarget z_m_zero z_m_policy z_m_known z_m_solved z_m_explored z_m_states va) (hm : (¬ z_m_there = 0 → mp_ok z_m_code z_m_guard z_m_updates z_m_over z_m_under z_m_setTo z_m_commandModule z_m_commandAction z_m_target z_m_vars z_m_modules z_m_commands z_m_actions)) (ha : aw_ok z_m_firstOutcome z_m_below z_m_firstChoice z_m_states z_m_explored) (hoc : oc_ok f g z_m_octets) (hdo : mDo Do z_m_there z_m_code z_m_guard z_m_updates z_m_setTo z_m_commandModule z_m_commandAction z_m_low z_m_high z_m_first z_m_commands z_m_vars z_m_modules z_m_actions z_m_target) (hyo : mYo Yo z_m_vars z_m_explored z_m_value z_m_goesTo z_m_firstOutcome z_m_firstChoice z_m_isTarget z_m_states z_m_outcomes z_m_choices) : hm_I f er g Do Yo ([er, f, z_m_wrong, z_m_letters, z_m_there, z_m_kind, z_m_word, z_m_from, z_m_to, z_m_tokens, z_m_names, z_m_vars, z_m_modules, z_m_commands, z_m_actions, z_m_target, z_m_phase, z_m_codes, z_m_deep, z_m_bool, z_m_broken, z_m_explored, z_m_states, z_m_choices, z_m_outcomes, z_m_problem], [z_m_text, z_m_nameFrom, z_m_nameSize, z_m_nameKind, z_m_nameValue, z_m_actionFrom, z_m_actionSize, z_m_commandModule, z_m_commandAction, z_m_guard, z_m_updates, z_m_over, z_m_under, z_m_setTo, z_m_code, z_m_firstChoice, z_m_firstOutcome, z_m_goesTo, z_m_taken, z_m_step, z_m_chosen, z_m_isTarget, z_m_holds, z_m_above, z_m_below, z_m_solved, z_m_known, z_m_zero, z_m_policy, z_m_unknown, z_m_index, z_m_got, z_m_set, z_m_stack, z_m_now, z_m_next, z_m_value, z_m_octets, z_m_varModule, z_m_low, z_m_high, z_m_first, z_m_isBool], [z_nn], [z_dg]) := ⟨z_m_wrong, z_m_letters, z_m_there, z_m_kind, z_m_word, z_m_from, z_m_to, z_m_tokens, z_m_names, z_m_vars, z_m_modules, z_m_commands, z_m_actions, z_m_target, z_m_phase, z_m_codes, z_m_deep, z_m_bool, z_m_broken, z_m_explored, z_m_states, z_m_choices, z_m_outcomes, z_m_problem, z_m_text, z_m_nameFrom, z_m_nameSize, z_m_nameKind, z_m_nameValue, z_m_actionFrom, z_m_actionSize, z_m_commandModule, z_m_commandAction, z_m_guard, z_m_updates, z_m_over, z_m_under, z_m_setTo, z_m_code, z_m_firstChoice, z_m_firstOutcome, z_m_goesTo, z_m_taken, z_m_step, z_m_chosen, z_m_isTarget, z_m_holds, z_m_above, z_m_below, z_m_solved, z_m_known, z_m_zero, z_m_policy, z_m_unknown, z_m_index, z_m_got, z_m_set, z_m_stack, z_m_now, z_m_next, z_m_value, z_m_octets, z_m_varModule, z_m_low, z_m_high, z_m_first, z_m_isBool, z_nn, z_dg, va, rfl, hv, hi, hm, ha, hoc, hdo, hyo⟩
theorem hm_e {P : hw_Z → Prop} (hZ : hm_I f er g Do Yo Z) (h : ∀ (z_m_wrong z_m_letters z_m_there z_m_kind z_m_word z_m_from z_m_to z_m_tokens z_m_names z_m_vars z_m_modules z_m_commands z_m_actions z_m_target z_m_phase z_m_codes z_m_deep z_m_bool z_m_broken z_m_explored z_m_states z_m_choices z_m_outcomes z_m_problem : Int) (z_m_text z_m_nameFrom z_m_nameSize z_m_nameKind z_m_nameValue z_m_actionFrom z_m_actionSize z_m_commandModule z_m_commandAction z_m_guard z_m_updates z_m_over z_m_under z_m_setTo z_m_code z_m_firstChoice z_m_firstOutcome z_m_goesTo z_m_taken z_m_step z_m_chosen z_m_isTarget z_m_holds z_m_above z_m_below z_m_solved z_m_known z_m_zero z_m_policy z_m_unknown z_m_index z_m_got z_m_set z_m_stack z_m_now z_m_next z_m_value z_m_octets z_m_varModule z_m_low z_m_high z_m_first z_m_isBool z_nn : Int → Int) (z_dg : Int → Int → Int) (va : Int → Int), (wa_all z_nn z_dg va) → (mi_ok z_m_firstOutcome z_m_goesTo z_m_above z_m_below z_m_firstChoice z_m_isTarget z_m_zero z_m_policy z_m_known z_m_solved z_m_explored z_m_states va) → ((¬ z_m_there = 0 → mp_ok z_m_code z_m_guard z_m_updates z_m_over z_m_under z_m_setTo z_m_commandModule z_m_commandAction z_m_target z_m_vars z_m_modules z_m_commands z_m_actions)) → (aw_ok z_m_firstOutcome z_m_below z_m_firstChoice z_m_states z_m_explored) → (oc_ok f g z_m_octets) → (mDo Do z_m_there z_m_code z_m_guard z_m_updates z_m_setTo z_m_commandModule z_m_commandAction z_m_low z_m_high z_m_first z_m_commands z_m_vars z_m_modules z_m_actions z_m_target) → (mYo Yo z_m_vars z_m_explored z_m_value z_m_goesTo z_m_firstOutcome z_m_firstChoice z_m_isTarget z_m_states z_m_outcomes z_m_choices) → P ([er, f, z_m_wrong, z_m_letters, z_m_there, z_m_kind, z_m_word, z_m_from, z_m_to, z_m_tokens, z_m_names, z_m_vars, z_m_modules, z_m_commands, z_m_actions, z_m_target, z_m_phase, z_m_codes, z_m_deep, z_m_bool, z_m_broken, z_m_explored, z_m_states, z_m_choices, z_m_outcomes, z_m_problem], [z_m_text, z_m_nameFrom, z_m_nameSize, z_m_nameKind, z_m_nameValue, z_m_actionFrom, z_m_actionSize, z_m_commandModule, z_m_commandAction, z_m_guard, z_m_updates, z_m_over, z_m_under, z_m_setTo, z_m_code, z_m_firstChoice, z_m_firstOutcome, z_m_goesTo, z_m_taken, z_m_step, z_m_chosen, z_m_isTarget, z_m_holds, z_m_above, z_m_below, z_m_solved, z_m_known, z_m_zero, z_m_policy, z_m_unknown, z_m_index, z_m_got, z_m_set, z_m_stack, z_m_now, z_m_next, z_m_value, z_m_octets, z_m_varModule, z_m_low, z_m_high, z_m_first, z_m_isBool], [z_nn], [z_dg])) : P Z := by
  obtain ⟨z_m_wrong, z_m_letters, z_m_there, z_m_kind, z_m_word, z_m_from, z_m_to, z_m_tokens, z_m_names, z_m_vars, z_m_modules, z_m_commands, z_m_actions, z_m_target, z_m_phase, z_m_codes, z_m_deep, z_m_bool, z_m_broken, z_m_explored, z_m_states, z_m_choices, z_m_outcomes, z_m_problem, z_m_text, z_m_nameFrom, z_m_nameSize, z_m_nameKind, z_m_nameValue, z_m_actionFrom, z_m_actionSize, z_m_commandModule, z_m_commandAction, z_m_guard, z_m_updates, z_m_over, z_m_under, z_m_setTo, z_m_code, z_m_firstChoice, z_m_firstOutcome, z_m_goesTo, z_m_taken, z_m_step, z_m_chosen, z_m_isTarget, z_m_holds, z_m_above, z_m_below, z_m_solved, z_m_known, z_m_zero, z_m_policy, z_m_unknown, z_m_index, z_m_got, z_m_set, z_m_stack, z_m_now, z_m_next, z_m_value, z_m_octets, z_m_varModule, z_m_low, z_m_high, z_m_first, z_m_isBool, z_nn, z_dg, va, rfl, hv, hi, hm, ha, hoc, hdo, hyo⟩ := hZ
  exact h z_m_wrong z_m_letters z_m_there z_m_kind z_m_word z_m_from z_m_to z_m_tokens z_m_names z_m_vars z_m_modules z_m_commands z_m_actions z_m_target z_m_phase z_m_codes z_m_deep z_m_bool z_m_broken z_m_explored z_m_states z_m_choices z_m_outcomes z_m_problem z_m_text z_m_nameFrom z_m_nameSize z_m_nameKind z_m_nameValue z_m_actionFrom z_m_actionSize z_m_commandModule z_m_commandAction z_m_guard z_m_updates z_m_over z_m_under z_m_setTo z_m_code z_m_firstChoice z_m_firstOutcome z_m_goesTo z_m_taken z_m_step z_m_chosen z_m_isTarget z_m_holds z_m_above z_m_below z_m_solved z_m_known z_m_zero z_m_policy z_m_unknown z_m_index z_m_got z_m_set z_m_stack z_m_now z_m_next z_m_value z_m_octets z_m_varModule z_m_low z_m_high z_m_first z_m_isBool z_nn z_dg va hv hi hm ha hoc hdo hyo
theorem hm_vi {z_m_wrong z_m_letters z_m_there z_m_kind z_m_word z_m_from z_m_to z_m_tokens z_m_names z_m_vars z_m_modules z_m_commands z_m_actions z_m_target z_m_phase z_m_codes z_m_deep z_m_bool z_m_broken z_m_explored z_m_states z_m_choices z_m_outcomes z_m_problem : Int} {z_m_text z_m_nameFrom z_m_nameSize z_m_nameKind z_m_nameValue z_m_actionFrom z_m_actionSize z_m_commandModule z_m_commandAction z_m_guard z_m_updates z_m_over z_m_under z_m_setTo z_m_code z_m_firstChoice z_m_firstOutcome z_m_goesTo z_m_taken z_m_step z_m_chosen z_m_isTarget z_m_holds z_m_above z_m_below z_m_solved z_m_known z_m_zero z_m_policy z_m_unknown z_m_index z_m_got z_m_set z_m_stack z_m_now z_m_next z_m_value z_m_octets z_m_varModule z_m_low z_m_high z_m_first z_m_isBool z_nn : Int → Int} {z_dg : Int → Int → Int} {va : Int → Int} (hv : wa_all z_nn z_dg va) (hi : mi_ok z_m_firstOutcome z_m_goesTo z_m_above z_m_below z_m_firstChoice z_m_isTarget z_m_zero z_m_policy z_m_known z_m_solved z_m_explored z_m_states va) (hm : (¬ z_m_there = 0 → mp_ok z_m_code z_m_guard z_m_updates z_m_over z_m_under z_m_setTo z_m_commandModule z_m_commandAction z_m_target z_m_vars z_m_modules z_m_commands z_m_actions)) (ha : aw_ok z_m_firstOutcome z_m_below z_m_firstChoice z_m_states z_m_explored) (hoc : oc_ok f g z_m_octets) : hm_V f er g ([er, f, z_m_wrong, z_m_letters, z_m_there, z_m_kind, z_m_word, z_m_from, z_m_to, z_m_tokens, z_m_names, z_m_vars, z_m_modules, z_m_commands, z_m_actions, z_m_target, z_m_phase, z_m_codes, z_m_deep, z_m_bool, z_m_broken, z_m_explored, z_m_states, z_m_choices, z_m_outcomes, z_m_problem], [z_m_text, z_m_nameFrom, z_m_nameSize, z_m_nameKind, z_m_nameValue, z_m_actionFrom, z_m_actionSize, z_m_commandModule, z_m_commandAction, z_m_guard, z_m_updates, z_m_over, z_m_under, z_m_setTo, z_m_code, z_m_firstChoice, z_m_firstOutcome, z_m_goesTo, z_m_taken, z_m_step, z_m_chosen, z_m_isTarget, z_m_holds, z_m_above, z_m_below, z_m_solved, z_m_known, z_m_zero, z_m_policy, z_m_unknown, z_m_index, z_m_got, z_m_set, z_m_stack, z_m_now, z_m_next, z_m_value, z_m_octets, z_m_varModule, z_m_low, z_m_high, z_m_first, z_m_isBool], [z_nn], [z_dg]) := ⟨z_m_wrong, z_m_letters, z_m_there, z_m_kind, z_m_word, z_m_from, z_m_to, z_m_tokens, z_m_names, z_m_vars, z_m_modules, z_m_commands, z_m_actions, z_m_target, z_m_phase, z_m_codes, z_m_deep, z_m_bool, z_m_broken, z_m_explored, z_m_states, z_m_choices, z_m_outcomes, z_m_problem, z_m_text, z_m_nameFrom, z_m_nameSize, z_m_nameKind, z_m_nameValue, z_m_actionFrom, z_m_actionSize, z_m_commandModule, z_m_commandAction, z_m_guard, z_m_updates, z_m_over, z_m_under, z_m_setTo, z_m_code, z_m_firstChoice, z_m_firstOutcome, z_m_goesTo, z_m_taken, z_m_step, z_m_chosen, z_m_isTarget, z_m_holds, z_m_above, z_m_below, z_m_solved, z_m_known, z_m_zero, z_m_policy, z_m_unknown, z_m_index, z_m_got, z_m_set, z_m_stack, z_m_now, z_m_next, z_m_value, z_m_octets, z_m_varModule, z_m_low, z_m_high, z_m_first, z_m_isBool, z_nn, z_dg, va, rfl, hv, hi, hm, ha, hoc⟩
theorem hm_di {z_m_err z_m_fed z_m_wrong z_m_letters z_m_there z_m_kind z_m_word z_m_from z_m_to z_m_tokens z_m_names z_m_vars z_m_modules z_m_commands z_m_actions z_m_target z_m_phase z_m_codes z_m_deep z_m_bool z_m_broken z_m_explored z_m_states z_m_choices z_m_outcomes z_m_problem : Int} {z_m_text z_m_nameFrom z_m_nameSize z_m_nameKind z_m_nameValue z_m_actionFrom z_m_actionSize z_m_commandModule z_m_commandAction z_m_guard z_m_updates z_m_over z_m_under z_m_setTo z_m_code z_m_firstChoice z_m_firstOutcome z_m_goesTo z_m_taken z_m_step z_m_chosen z_m_isTarget z_m_holds z_m_above z_m_below z_m_solved z_m_known z_m_zero z_m_policy z_m_unknown z_m_index z_m_got z_m_set z_m_stack z_m_now z_m_next z_m_value z_m_octets z_m_varModule z_m_low z_m_high z_m_first z_m_isBool z_nn : Int → Int} {z_dg : Int → Int → Int} (hx : z_m_explored = 0) (hdo : mDo Do z_m_there z_m_code z_m_guard z_m_updates z_m_setTo z_m_commandModule z_m_commandAction z_m_low z_m_high z_m_first z_m_commands z_m_vars z_m_modules z_m_actions z_m_target) : hm_D Do ([z_m_err, z_m_fed, z_m_wrong, z_m_letters, z_m_there, z_m_kind, z_m_word, z_m_from, z_m_to, z_m_tokens, z_m_names, z_m_vars, z_m_modules, z_m_commands, z_m_actions, z_m_target, z_m_phase, z_m_codes, z_m_deep, z_m_bool, z_m_broken, z_m_explored, z_m_states, z_m_choices, z_m_outcomes, z_m_problem], [z_m_text, z_m_nameFrom, z_m_nameSize, z_m_nameKind, z_m_nameValue, z_m_actionFrom, z_m_actionSize, z_m_commandModule, z_m_commandAction, z_m_guard, z_m_updates, z_m_over, z_m_under, z_m_setTo, z_m_code, z_m_firstChoice, z_m_firstOutcome, z_m_goesTo, z_m_taken, z_m_step, z_m_chosen, z_m_isTarget, z_m_holds, z_m_above, z_m_below, z_m_solved, z_m_known, z_m_zero, z_m_policy, z_m_unknown, z_m_index, z_m_got, z_m_set, z_m_stack, z_m_now, z_m_next, z_m_value, z_m_octets, z_m_varModule, z_m_low, z_m_high, z_m_first, z_m_isBool], [z_nn], [z_dg]) := ⟨z_m_err, z_m_fed, z_m_wrong, z_m_letters, z_m_there, z_m_kind, z_m_word, z_m_from, z_m_to, z_m_tokens, z_m_names, z_m_vars, z_m_modules, z_m_commands, z_m_actions, z_m_target, z_m_phase, z_m_codes, z_m_deep, z_m_bool, z_m_broken, z_m_explored, z_m_states, z_m_choices, z_m_outcomes, z_m_problem, z_m_text, z_m_nameFrom, z_m_nameSize, z_m_nameKind, z_m_nameValue, z_m_actionFrom, z_m_actionSize, z_m_commandModule, z_m_commandAction, z_m_guard, z_m_updates, z_m_over, z_m_under, z_m_setTo, z_m_code, z_m_firstChoice, z_m_firstOutcome, z_m_goesTo, z_m_taken, z_m_step, z_m_chosen, z_m_isTarget, z_m_holds, z_m_above, z_m_below, z_m_solved, z_m_known, z_m_zero, z_m_policy, z_m_unknown, z_m_index, z_m_got, z_m_set, z_m_stack, z_m_now, z_m_next, z_m_value, z_m_octets, z_m_varModule, z_m_low, z_m_high, z_m_first, z_m_isBool, z_nn, z_dg, rfl, hx, hdo⟩
theorem r_thrown (hU : hw_U (hm_T kof own)) (hZ : hm_I f er g Do Yo Z) (hK : ∀ Z', hm_I f er g Do Yo Z' → K (some (hw_I er)) Z') : hw_C pg_G pg_TT scr (hm_T kof own) (d + 1) 187 [hw_R 2 0] Z K E := by
  refine hm_e (P := fun Z => hw_C pg_G pg_TT scr (hm_T kof own) (d + 1) 187 [hw_R 2 0] Z K E) hZ (fun z_m_wrong z_m_letters z_m_there z_m_kind z_m_word z_m_from z_m_to z_m_tokens z_m_names z_m_vars z_m_modules z_m_commands z_m_actions z_m_target z_m_phase z_m_codes z_m_deep z_m_bool z_m_broken z_m_explored z_m_states z_m_choices z_m_outcomes z_m_problem z_m_text z_m_nameFrom z_m_nameSize z_m_nameKind z_m_nameValue z_m_actionFrom z_m_actionSize z_m_commandModule z_m_commandAction z_m_guard z_m_updates z_m_over z_m_under z_m_setTo z_m_code z_m_firstChoice z_m_firstOutcome z_m_goesTo z_m_taken z_m_step z_m_chosen z_m_isTarget z_m_holds z_m_above z_m_below z_m_solved z_m_known z_m_zero z_m_policy z_m_unknown z_m_index z_m_got z_m_set z_m_stack z_m_now z_m_next z_m_value z_m_octets z_m_varModule z_m_low z_m_high z_m_first z_m_isBool z_nn z_dg va hv hi hm ha hoc hdo hyo => ?_)
  refine a_thrown hU ?_
  exact hK _ (hm_i (hv) (hi) (hm) (ha) (hoc) hdo hyo)
theorem r_wrong (hU : hw_U (hm_T kof own)) (hZ : hm_I f er g Do Yo Z) (hK : ∀ r e Z', hm_I f e g Do Yo Z' → K (some (hw_I r)) Z') : hw_C pg_G pg_TT scr (hm_T kof own) (d + 1) 190 [hw_R 2 0] Z K E := by
  refine hm_e (P := fun Z => hw_C pg_G pg_TT scr (hm_T kof own) (d + 1) 190 [hw_R 2 0] Z K E) hZ (fun z_m_wrong z_m_letters z_m_there z_m_kind z_m_word z_m_from z_m_to z_m_tokens z_m_names z_m_vars z_m_modules z_m_commands z_m_actions z_m_target z_m_phase z_m_codes z_m_deep z_m_bool z_m_broken z_m_explored z_m_states z_m_choices z_m_outcomes z_m_problem z_m_text z_m_nameFrom z_m_nameSize z_m_nameKind z_m_nameValue z_m_actionFrom z_m_actionSize z_m_commandModule z_m_commandAction z_m_guard z_m_updates z_m_over z_m_under z_m_setTo z_m_code z_m_firstChoice z_m_firstOutcome z_m_goesTo z_m_taken z_m_step z_m_chosen z_m_isTarget z_m_holds z_m_above z_m_below z_m_solved z_m_known z_m_zero z_m_policy z_m_unknown z_m_index z_m_got z_m_set z_m_stack z_m_now z_m_next z_m_value z_m_octets z_m_varModule z_m_low z_m_high z_m_first z_m_isBool z_nn z_dg va hv hi hm ha hoc hdo hyo => ?_)
  refine a_wrong hU ?_
  exact hK _ _ _ (hm_i (hv) (hi) (hm) (ha) (hoc) hdo hyo)
theorem r_feed (hU : hw_U (hm_T kof own)) {a b c p q : Int} (hZ : hm_I f er g Do Yo Z) (hK : f ≤ 8180 → ∀ Z', hm_I (f + 20) 0 (fg g f a b c p q) Do Yo Z' → K (some (hw_I (f + 20))) Z') (hK1 : 8180 < f → ∀ Z', hm_I f 1 g Do Yo Z' → K (some (hw_I 0)) Z') : hw_C pg_G pg_TT scr (hm_T kof own) (d + 2) 188 [hw_R 2 0, hw_I a, hw_I b, hw_I c, hw_I p, hw_I q] Z K E := by
  refine hm_e (P := fun Z => hw_C pg_G pg_TT scr (hm_T kof own) (d + 2) 188 [hw_R 2 0, hw_I a, hw_I b, hw_I c, hw_I p, hw_I q] Z K E) hZ (fun z_m_wrong z_m_letters z_m_there z_m_kind z_m_word z_m_from z_m_to z_m_tokens z_m_names z_m_vars z_m_modules z_m_commands z_m_actions z_m_target z_m_phase z_m_codes z_m_deep z_m_bool z_m_broken z_m_explored z_m_states z_m_choices z_m_outcomes z_m_problem z_m_text z_m_nameFrom z_m_nameSize z_m_nameKind z_m_nameValue z_m_actionFrom z_m_actionSize z_m_commandModule z_m_commandAction z_m_guard z_m_updates z_m_over z_m_under z_m_setTo z_m_code z_m_firstChoice z_m_firstOutcome z_m_goesTo z_m_taken z_m_step z_m_chosen z_m_isTarget z_m_holds z_m_above z_m_below z_m_solved z_m_known z_m_zero z_m_policy z_m_unknown z_m_index z_m_got z_m_set z_m_stack z_m_now z_m_next z_m_value z_m_octets z_m_varModule z_m_low z_m_high z_m_first z_m_isBool z_nn z_dg va hv hi hm ha hoc hdo hyo => ?_)
  refine a_feed hU ?_ ?_
  · intro y vo h1 h2 hg
    subst h1
    exact hK h2 _ (hm_i (hv) (hi) (hm) (ha) (oc_f hoc hg) hdo hyo)
  · intro h1
    exact hK1 h1 _ (hm_i (hv) (hi) (hm) (ha) (hoc) hdo hyo)
theorem r_bits (hU : hw_U (hm_T kof own)) {b : Int} (hZ : hm_I f er g Do Yo Z) (hK : ∀ r e Z', hm_I f e g Do Yo Z' → K (some (hw_I r)) Z') : hw_C pg_G pg_TT scr (hm_T kof own) (d + 2) 277 [hw_R 2 0, hw_I b] Z K E := by
  refine hm_e (P := fun Z => hw_C pg_G pg_TT scr (hm_T kof own) (d + 2) 277 [hw_R 2 0, hw_I b] Z K E) hZ (fun z_m_wrong z_m_letters z_m_there z_m_kind z_m_word z_m_from z_m_to z_m_tokens z_m_names z_m_vars z_m_modules z_m_commands z_m_actions z_m_target z_m_phase z_m_codes z_m_deep z_m_bool z_m_broken z_m_explored z_m_states z_m_choices z_m_outcomes z_m_problem z_m_text z_m_nameFrom z_m_nameSize z_m_nameKind z_m_nameValue z_m_actionFrom z_m_actionSize z_m_commandModule z_m_commandAction z_m_guard z_m_updates z_m_over z_m_under z_m_setTo z_m_code z_m_firstChoice z_m_firstOutcome z_m_goesTo z_m_taken z_m_step z_m_chosen z_m_isTarget z_m_holds z_m_above z_m_below z_m_solved z_m_known z_m_zero z_m_policy z_m_unknown z_m_index z_m_got z_m_set z_m_stack z_m_now z_m_next z_m_value z_m_octets z_m_varModule z_m_low z_m_high z_m_first z_m_isBool z_nn z_dg va hv hi hm ha hoc hdo hyo => ?_)
  refine a_bits hU ?_
  intros
  exact hK _ _ _ (hm_i (hv) (hi) (hm) (ha) (hoc) hdo hyo)
theorem r_part (hU : hw_U (hm_T kof own)) {b k : Int} (hk : -2147483648 ≤ k ∧ k ≤ 2147483647) (hZ : hm_I f er g Do Yo Z) (hK : ∀ r e Z', hm_I f e g Do Yo Z' → K (some (hw_I r)) Z') : hw_C pg_G pg_TT scr (hm_T kof own) (d + 2) 278 [hw_R 2 0, hw_I b, hw_I k] Z K E := by
  refine hm_e (P := fun Z => hw_C pg_G pg_TT scr (hm_T kof own) (d + 2) 278 [hw_R 2 0, hw_I b, hw_I k] Z K E) hZ (fun z_m_wrong z_m_letters z_m_there z_m_kind z_m_word z_m_from z_m_to z_m_tokens z_m_names z_m_vars z_m_modules z_m_commands z_m_actions z_m_target z_m_phase z_m_codes z_m_deep z_m_bool z_m_broken z_m_explored z_m_states z_m_choices z_m_outcomes z_m_problem z_m_text z_m_nameFrom z_m_nameSize z_m_nameKind z_m_nameValue z_m_actionFrom z_m_actionSize z_m_commandModule z_m_commandAction z_m_guard z_m_updates z_m_over z_m_under z_m_setTo z_m_code z_m_firstChoice z_m_firstOutcome z_m_goesTo z_m_taken z_m_step z_m_chosen z_m_isTarget z_m_holds z_m_above z_m_below z_m_solved z_m_known z_m_zero z_m_policy z_m_unknown z_m_index z_m_got z_m_set z_m_stack z_m_now z_m_next z_m_value z_m_octets z_m_varModule z_m_low z_m_high z_m_first z_m_isBool z_nn z_dg va hv hi hm ha hoc hdo hyo => ?_)
  refine a_part hU hk ?_
  intros
  exact hK _ _ _ (hm_i (hv) (hi) (hm) (ha) (hoc) hdo hyo)
theorem r_count (hU : hw_U (hm_T kof own)) {x : Int} (hZ : hm_I f er g Do Yo Z) (hK : ∀ r e Z', hm_I f e g Do Yo Z' → K (some (hw_I r)) Z') : hw_C pg_G pg_TT scr (hm_T kof own) (d + 2) 280 [hw_R 2 0, hw_I x] Z K E := by
  refine hm_e (P := fun Z => hw_C pg_G pg_TT scr (hm_T kof own) (d + 2) 280 [hw_R 2 0, hw_I x] Z K E) hZ (fun z_m_wrong z_m_letters z_m_there z_m_kind z_m_word z_m_from z_m_to z_m_tokens z_m_names z_m_vars z_m_modules z_m_commands z_m_actions z_m_target z_m_phase z_m_codes z_m_deep z_m_bool z_m_broken z_m_explored z_m_states z_m_choices z_m_outcomes z_m_problem z_m_text z_m_nameFrom z_m_nameSize z_m_nameKind z_m_nameValue z_m_actionFrom z_m_actionSize z_m_commandModule z_m_commandAction z_m_guard z_m_updates z_m_over z_m_under z_m_setTo z_m_code z_m_firstChoice z_m_firstOutcome z_m_goesTo z_m_taken z_m_step z_m_chosen z_m_isTarget z_m_holds z_m_above z_m_below z_m_solved z_m_known z_m_zero z_m_policy z_m_unknown z_m_index z_m_got z_m_set z_m_stack z_m_now z_m_next z_m_value z_m_octets z_m_varModule z_m_low z_m_high z_m_first z_m_isBool z_nn z_dg va hv hi hm ha hoc hdo hyo => ?_)
  refine a_count hU ?_
  intros
  exact hK _ _ _ (hm_i (hv) (hi) (hm) (ha) (hoc) hdo hyo)
theorem r_state (hU : hw_U (hm_T kof own)) {s x c : Int} (hZ : hm_I f er g Do Yo Z) (hK : ∀ r e Z', hm_I f e g Do Yo Z' → K (some (hw_I r)) Z') : hw_C pg_G pg_TT scr (hm_T kof own) (d + 2) 275 [hw_R 2 0, hw_I s, hw_I x, hw_I c] Z K E := by
  refine hm_e (P := fun Z => hw_C pg_G pg_TT scr (hm_T kof own) (d + 2) 275 [hw_R 2 0, hw_I s, hw_I x, hw_I c] Z K E) hZ (fun z_m_wrong z_m_letters z_m_there z_m_kind z_m_word z_m_from z_m_to z_m_tokens z_m_names z_m_vars z_m_modules z_m_commands z_m_actions z_m_target z_m_phase z_m_codes z_m_deep z_m_bool z_m_broken z_m_explored z_m_states z_m_choices z_m_outcomes z_m_problem z_m_text z_m_nameFrom z_m_nameSize z_m_nameKind z_m_nameValue z_m_actionFrom z_m_actionSize z_m_commandModule z_m_commandAction z_m_guard z_m_updates z_m_over z_m_under z_m_setTo z_m_code z_m_firstChoice z_m_firstOutcome z_m_goesTo z_m_taken z_m_step z_m_chosen z_m_isTarget z_m_holds z_m_above z_m_below z_m_solved z_m_known z_m_zero z_m_policy z_m_unknown z_m_index z_m_got z_m_set z_m_stack z_m_now z_m_next z_m_value z_m_octets z_m_varModule z_m_low z_m_high z_m_first z_m_isBool z_nn z_dg va hv hi hm ha hoc hdo hyo => ?_)
  refine a_state hU hi ?_
  intros
  exact hK _ _ _ (hm_i (hv) (hi) (hm) (ha) (hoc) hdo hyo)
theorem r_outcome (hU : hw_U (hm_T kof own)) {s c o : Int} (ho : -2147483648 ≤ o ∧ o ≤ 2147483647) (hZ : hm_I f er g Do Yo Z) (hK : ∀ r e Z', hm_I f e g Do Yo Z' → K (some (hw_I r)) Z') : hw_C pg_G pg_TT scr (hm_T kof own) (d + 3) 276 [hw_R 2 0, hw_I s, hw_I c, hw_I o] Z K E := by
  refine hm_e (P := fun Z => hw_C pg_G pg_TT scr (hm_T kof own) (d + 3) 276 [hw_R 2 0, hw_I s, hw_I c, hw_I o] Z K E) hZ (fun z_m_wrong z_m_letters z_m_there z_m_kind z_m_word z_m_from z_m_to z_m_tokens z_m_names z_m_vars z_m_modules z_m_commands z_m_actions z_m_target z_m_phase z_m_codes z_m_deep z_m_bool z_m_broken z_m_explored z_m_states z_m_choices z_m_outcomes z_m_problem z_m_text z_m_nameFrom z_m_nameSize z_m_nameKind z_m_nameValue z_m_actionFrom z_m_actionSize z_m_commandModule z_m_commandAction z_m_guard z_m_updates z_m_over z_m_under z_m_setTo z_m_code z_m_firstChoice z_m_firstOutcome z_m_goesTo z_m_taken z_m_step z_m_chosen z_m_isTarget z_m_holds z_m_above z_m_below z_m_solved z_m_known z_m_zero z_m_policy z_m_unknown z_m_index z_m_got z_m_set z_m_stack z_m_now z_m_next z_m_value z_m_octets z_m_varModule z_m_low z_m_high z_m_first z_m_isBool z_nn z_dg va hv hi hm ha hoc hdo hyo => ?_)
  refine a_outcome hU hv hi ho ?_
  intros
  exact hK _ _ _ (hm_i (by assumption) (by assumption) (hm) (ha) (hoc) hdo hyo)
theorem r_solve (hU : hw_U (hm_T kof own)) {b : Int} (hZ : hm_I f er g Do Yo Z) (hK : ∀ r e Z', hm_I f e g Do Yo Z' → K (some (hw_I r)) Z') : hw_C pg_G pg_TT scr (hm_T kof own) (d + 9) 258 [hw_R 2 0, hw_I b] Z K E := by
  refine hm_e (P := fun Z => hw_C pg_G pg_TT scr (hm_T kof own) (d + 9) 258 [hw_R 2 0, hw_I b] Z K E) hZ (fun z_m_wrong z_m_letters z_m_there z_m_kind z_m_word z_m_from z_m_to z_m_tokens z_m_names z_m_vars z_m_modules z_m_commands z_m_actions z_m_target z_m_phase z_m_codes z_m_deep z_m_bool z_m_broken z_m_explored z_m_states z_m_choices z_m_outcomes z_m_problem z_m_text z_m_nameFrom z_m_nameSize z_m_nameKind z_m_nameValue z_m_actionFrom z_m_actionSize z_m_commandModule z_m_commandAction z_m_guard z_m_updates z_m_over z_m_under z_m_setTo z_m_code z_m_firstChoice z_m_firstOutcome z_m_goesTo z_m_taken z_m_step z_m_chosen z_m_isTarget z_m_holds z_m_above z_m_below z_m_solved z_m_known z_m_zero z_m_policy z_m_unknown z_m_index z_m_got z_m_set z_m_stack z_m_now z_m_next z_m_value z_m_octets z_m_varModule z_m_low z_m_high z_m_first z_m_isBool z_nn z_dg va hv hi hm ha hoc hdo hyo => ?_)
  refine a_solve hU hv hi ?_
  intros
  exact hK _ _ _ (hm_i (by assumption) (by assumption) (hm) (ha) (hoc) hdo hyo)
theorem r_value (hU : hw_U (hm_T kof own)) {b s : Int} (hZ : hm_I f er g Do Yo Z) (hK : ∀ r e Z', hm_I f e g Do Yo Z' → K (some (hw_I r)) Z') : hw_C pg_G pg_TT scr (hm_T kof own) (d + 6) 269 [hw_R 2 0, hw_I b, hw_I s] Z K E := by
  refine hm_e (P := fun Z => hw_C pg_G pg_TT scr (hm_T kof own) (d + 6) 269 [hw_R 2 0, hw_I b, hw_I s] Z K E) hZ (fun z_m_wrong z_m_letters z_m_there z_m_kind z_m_word z_m_from z_m_to z_m_tokens z_m_names z_m_vars z_m_modules z_m_commands z_m_actions z_m_target z_m_phase z_m_codes z_m_deep z_m_bool z_m_broken z_m_explored z_m_states z_m_choices z_m_outcomes z_m_problem z_m_text z_m_nameFrom z_m_nameSize z_m_nameKind z_m_nameValue z_m_actionFrom z_m_actionSize z_m_commandModule z_m_commandAction z_m_guard z_m_updates z_m_over z_m_under z_m_setTo z_m_code z_m_firstChoice z_m_firstOutcome z_m_goesTo z_m_taken z_m_step z_m_chosen z_m_isTarget z_m_holds z_m_above z_m_below z_m_solved z_m_known z_m_zero z_m_policy z_m_unknown z_m_index z_m_got z_m_set z_m_stack z_m_now z_m_next z_m_value z_m_octets z_m_varModule z_m_low z_m_high z_m_first z_m_isBool z_nn z_dg va hv hi hm ha hoc hdo hyo => ?_)
  refine a_value hU hv hi ?_
  intros
  exact hK _ _ _ (hm_i (by assumption) (by assumption) (hm) (ha) (hoc) hdo hyo)
theorem r_claim (hU : hw_U (hm_T kof own)) {s a b : Int} (h1 : -9223372036854775808 ≤ a ∧ a ≤ 9223372036854775807) (h2 : -9223372036854775808 ≤ b ∧ b ≤ 9223372036854775807) (hZ : hm_I f er g Do Yo Z) (hK : ∀ e Z', hm_I f e g Do Yo Z' → K none Z') : hw_C pg_G pg_TT scr (hm_T kof own) (d + 2) 271 [hw_R 2 0, hw_I s, hw_J a, hw_J b] Z K E := by
  refine hm_e (P := fun Z => hw_C pg_G pg_TT scr (hm_T kof own) (d + 2) 271 [hw_R 2 0, hw_I s, hw_J a, hw_J b] Z K E) hZ (fun z_m_wrong z_m_letters z_m_there z_m_kind z_m_word z_m_from z_m_to z_m_tokens z_m_names z_m_vars z_m_modules z_m_commands z_m_actions z_m_target z_m_phase z_m_codes z_m_deep z_m_bool z_m_broken z_m_explored z_m_states z_m_choices z_m_outcomes z_m_problem z_m_text z_m_nameFrom z_m_nameSize z_m_nameKind z_m_nameValue z_m_actionFrom z_m_actionSize z_m_commandModule z_m_commandAction z_m_guard z_m_updates z_m_over z_m_under z_m_setTo z_m_code z_m_firstChoice z_m_firstOutcome z_m_goesTo z_m_taken z_m_step z_m_chosen z_m_isTarget z_m_holds z_m_above z_m_below z_m_solved z_m_known z_m_zero z_m_policy z_m_unknown z_m_index z_m_got z_m_set z_m_stack z_m_now z_m_next z_m_value z_m_octets z_m_varModule z_m_low z_m_high z_m_first z_m_isBool z_nn z_dg va hv hi hm ha hoc hdo hyo => ?_)
  refine a_claim hU hv hi h1 h2 ?_
  intros
  exact hK _ _ (hm_i (by assumption) (by assumption) (hm) (ha) (hoc) hdo hyo)
theorem r_claimResult (hU : hw_U (hm_T kof own)) {s : Int} (hZ : hm_I f er g Do Yo Z) (hK : ∀ e Z', hm_I f e g Do Yo Z' → K none Z') : hw_C pg_G pg_TT scr (hm_T kof own) (d + 2) 272 [hw_R 2 0, hw_I s] Z K E := by
  refine hm_e (P := fun Z => hw_C pg_G pg_TT scr (hm_T kof own) (d + 2) 272 [hw_R 2 0, hw_I s] Z K E) hZ (fun z_m_wrong z_m_letters z_m_there z_m_kind z_m_word z_m_from z_m_to z_m_tokens z_m_names z_m_vars z_m_modules z_m_commands z_m_actions z_m_target z_m_phase z_m_codes z_m_deep z_m_bool z_m_broken z_m_explored z_m_states z_m_choices z_m_outcomes z_m_problem z_m_text z_m_nameFrom z_m_nameSize z_m_nameKind z_m_nameValue z_m_actionFrom z_m_actionSize z_m_commandModule z_m_commandAction z_m_guard z_m_updates z_m_over z_m_under z_m_setTo z_m_code z_m_firstChoice z_m_firstOutcome z_m_goesTo z_m_taken z_m_step z_m_chosen z_m_isTarget z_m_holds z_m_above z_m_below z_m_solved z_m_known z_m_zero z_m_policy z_m_unknown z_m_index z_m_got z_m_set z_m_stack z_m_now z_m_next z_m_value z_m_octets z_m_varModule z_m_low z_m_high z_m_first z_m_isBool z_nn z_dg va hv hi hm ha hoc hdo hyo => ?_)
  refine a_claimResult hU hv hi ?_
  intros
  exact hK _ _ (hm_i (by assumption) (by assumption) (hm) (ha) (hoc) hdo hyo)
theorem r_check (hU : hw_U (hm_T kof own)) {b : Int} (hZ : hm_I f er g Do Yo Z) (hK : ∀ r e Z', hm_I f e g Do Yo Z' → K (some (hw_I r)) Z') : hw_C pg_G pg_TT scr (hm_T kof own) (d + 9) 274 [hw_R 2 0, hw_I b] Z K E := by
  refine hm_e (P := fun Z => hw_C pg_G pg_TT scr (hm_T kof own) (d + 9) 274 [hw_R 2 0, hw_I b] Z K E) hZ (fun z_m_wrong z_m_letters z_m_there z_m_kind z_m_word z_m_from z_m_to z_m_tokens z_m_names z_m_vars z_m_modules z_m_commands z_m_actions z_m_target z_m_phase z_m_codes z_m_deep z_m_bool z_m_broken z_m_explored z_m_states z_m_choices z_m_outcomes z_m_problem z_m_text z_m_nameFrom z_m_nameSize z_m_nameKind z_m_nameValue z_m_actionFrom z_m_actionSize z_m_commandModule z_m_commandAction z_m_guard z_m_updates z_m_over z_m_under z_m_setTo z_m_code z_m_firstChoice z_m_firstOutcome z_m_goesTo z_m_taken z_m_step z_m_chosen z_m_isTarget z_m_holds z_m_above z_m_below z_m_solved z_m_known z_m_zero z_m_policy z_m_unknown z_m_index z_m_got z_m_set z_m_stack z_m_now z_m_next z_m_value z_m_octets z_m_varModule z_m_low z_m_high z_m_first z_m_isBool z_nn z_dg va hv hi hm ha hoc hdo hyo => ?_)
  refine a_check hU hv hi ?_
  intros
  exact hK _ _ _ (hm_i (by assumption) (by assumption) (hm) (ha) (hoc) hdo hyo)
theorem r_within (hU : hw_U (hm_T kof own)) {b s q : Int} (hZ : hm_I f er g Do Yo Z) (hK : ∀ r e Z', hm_I f e g Do Yo Z' → K (some (hw_I r)) Z') : hw_C pg_G pg_TT scr (hm_T kof own) (d + 6) 270 [hw_R 2 0, hw_I b, hw_I s, hw_I q] Z K E := by
  refine hm_e (P := fun Z => hw_C pg_G pg_TT scr (hm_T kof own) (d + 6) 270 [hw_R 2 0, hw_I b, hw_I s, hw_I q] Z K E) hZ (fun z_m_wrong z_m_letters z_m_there z_m_kind z_m_word z_m_from z_m_to z_m_tokens z_m_names z_m_vars z_m_modules z_m_commands z_m_actions z_m_target z_m_phase z_m_codes z_m_deep z_m_bool z_m_broken z_m_explored z_m_states z_m_choices z_m_outcomes z_m_problem z_m_text z_m_nameFrom z_m_nameSize z_m_nameKind z_m_nameValue z_m_actionFrom z_m_actionSize z_m_commandModule z_m_commandAction z_m_guard z_m_updates z_m_over z_m_under z_m_setTo z_m_code z_m_firstChoice z_m_firstOutcome z_m_goesTo z_m_taken z_m_step z_m_chosen z_m_isTarget z_m_holds z_m_above z_m_below z_m_solved z_m_known z_m_zero z_m_policy z_m_unknown z_m_index z_m_got z_m_set z_m_stack z_m_now z_m_next z_m_value z_m_octets z_m_varModule z_m_low z_m_high z_m_first z_m_isBool z_nn z_dg va hv hi hm ha hoc hdo hyo => ?_)
  refine a_within hU hv hi ha ?_
  intros
  exact hK _ _ _ (hm_i (by assumption) (by assumption) (hm) (ha) (hoc) hdo hyo)
theorem r_explore (hU : hw_U (hm_T kof own)) (hZ : hm_I f er g Do Yo Z) (hK0 : Do = none → ∀ Z', hm_I f 1 g Do Yo Z' → K (some (hw_I 0)) Z') (hK : ∀ D Y Z', Do = some D → qEx D = .inr Y → hm_I f 0 g Do (some Y) Z' → K (some (hw_I (Y.1.1.length : Int))) Z') (hK1 : ∀ D e Z', Do = some D → qEx D = .inl e → hm_I f e g Do none Z' → K (some (hw_I 0)) Z') : hw_C pg_G pg_TT scr (hm_T kof own) (d + 10) 237 [hw_R 2 0] Z K E := by
  refine hm_e (P := fun Z => hw_C pg_G pg_TT scr (hm_T kof own) (d + 10) 237 [hw_R 2 0] Z K E) hZ (fun z_m_wrong z_m_letters z_m_there z_m_kind z_m_word z_m_from z_m_to z_m_tokens z_m_names z_m_vars z_m_modules z_m_commands z_m_actions z_m_target z_m_phase z_m_codes z_m_deep z_m_bool z_m_broken z_m_explored z_m_states z_m_choices z_m_outcomes z_m_problem z_m_text z_m_nameFrom z_m_nameSize z_m_nameKind z_m_nameValue z_m_actionFrom z_m_actionSize z_m_commandModule z_m_commandAction z_m_guard z_m_updates z_m_over z_m_under z_m_setTo z_m_code z_m_firstChoice z_m_firstOutcome z_m_goesTo z_m_taken z_m_step z_m_chosen z_m_isTarget z_m_holds z_m_above z_m_below z_m_solved z_m_known z_m_zero z_m_policy z_m_unknown z_m_index z_m_got z_m_set z_m_stack z_m_now z_m_next z_m_value z_m_octets z_m_varModule z_m_low z_m_high z_m_first z_m_isBool z_nn z_dg va hv hi hm ha hoc hdo hyo => ?_)
  cases Do with
  | none =>
    refine e_explore0 hU (hdo.elim fun _ h => h.1 rfl) ?_
    exact hK0 rfl _ (hm_i (hv) (hi) (hm) (ha) (hoc) hdo hyo)
  | some D =>
    obtain ⟨ht, hmh⟩ := hdo.elim fun _ h => h.2 D rfl
    have hmn := mH_n hmh
    obtain ⟨cs, q1, q2, q3, q4, q5, q6, q7⟩ := hm ht
    refine e_explore hU hmh hv hi ht q7 q6 q2 q3 ⟨by omega, q4.2⟩ ⟨q5.1, by omega⟩ q1 ?_ ?_
    · intros
      rename_i Yn so kn u g2 vb w1 e1 e2 w2 w3 h5 h6 w4
      have q := (mY_n (mYe_y e2)).1
      subst q
      refine hK D Yn _ rfl e1 (hm_i (by assumption) (by assumption) (hm) (⟨(), fun _ k po hpo => al_i q7 rfl q6.1 q3.1 (mi_m w2 (by decide)) w3 w4 hpo⟩) hoc hdo (?_))
      exact mYo_i (b := (D.2.1.1.length : Int)) e2 hmn.2.1.symm (qEx_ok e1)
    · intros
      rename_i e3
      exact hK1 D _ _ rfl e3 (hm_i (by assumption) (by assumption) (hm) (⟨(), fun h => absurd rfl h⟩) hoc hdo (mYo_n rfl))
section HJ
variable {q : Int} {as : List Value}
theorem hm_join (hst : hw_st (hm_T kof own) [hw_R 2 0, hw_I q] as) {S' : mm_S} {Z2 : hw_Z} (h1 : hm_V f er g Z) (h2 : hm_D Do Z2) (R1 : hw_RS (hm_T kof own) Z S') (R2 : hw_RS (hm_T kof own) Z2 S') (hd : ∀ D, Do = some D → dOK D) : hm_I f er g Do none Z := by
  obtain ⟨u, us, -, ⟨a, -, hv | hv | hv⟩, -⟩ := hst
  case inr.inl => exact absurd hv.1 (by decide)
  case inr.inr => exact absurd hv.1 (by decide)
  obtain ⟨own1, kof1, -⟩ := hv
  have own1 : (hm_T kof own).2.2.1 a := own1
  have sh1 : hw_sh (hm_T kof own) a = hm_KT 2 := by show hm_KT (kof a).1 = _; rw [show kof a = (2, 0) from kof1]
  obtain ⟨z_m_wrong, z_m_letters, z_m_there, z_m_kind, z_m_word, z_m_from, z_m_to, z_m_tokens, z_m_names, z_m_vars, z_m_modules, z_m_commands, z_m_actions, z_m_target, z_m_phase, z_m_codes, z_m_deep, z_m_bool, z_m_broken, z_m_explored, z_m_states, z_m_choices, z_m_outcomes, z_m_problem, z_m_text, z_m_nameFrom, z_m_nameSize, z_m_nameKind, z_m_nameValue, z_m_actionFrom, z_m_actionSize, z_m_commandModule, z_m_commandAction, z_m_guard, z_m_updates, z_m_over, z_m_under, z_m_setTo, z_m_code, z_m_firstChoice, z_m_firstOutcome, z_m_goesTo, z_m_taken, z_m_step, z_m_chosen, z_m_isTarget, z_m_holds, z_m_above, z_m_below, z_m_solved, z_m_known, z_m_zero, z_m_policy, z_m_unknown, z_m_index, z_m_got, z_m_set, z_m_stack, z_m_now, z_m_next, z_m_value, z_m_octets, z_m_varModule, z_m_low, z_m_high, z_m_first, z_m_isBool, z_nn, z_dg, va, rfl, hv, hi, hm, ha, hoc⟩ := h1
  obtain ⟨y_m_err, y_m_fed, y_m_wrong, y_m_letters, y_m_there, y_m_kind, y_m_word, y_m_from, y_m_to, y_m_tokens, y_m_names, y_m_vars, y_m_modules, y_m_commands, y_m_actions, y_m_target, y_m_phase, y_m_codes, y_m_deep, y_m_bool, y_m_broken, y_m_explored, y_m_states, y_m_choices, y_m_outcomes, y_m_problem, y_m_text, y_m_nameFrom, y_m_nameSize, y_m_nameKind, y_m_nameValue, y_m_actionFrom, y_m_actionSize, y_m_commandModule, y_m_commandAction, y_m_guard, y_m_updates, y_m_over, y_m_under, y_m_setTo, y_m_code, y_m_firstChoice, y_m_firstOutcome, y_m_goesTo, y_m_taken, y_m_step, y_m_chosen, y_m_isTarget, y_m_holds, y_m_above, y_m_below, y_m_solved, y_m_known, y_m_zero, y_m_policy, y_m_unknown, y_m_index, y_m_got, y_m_set, y_m_stack, y_m_now, y_m_next, y_m_value, y_m_octets, y_m_varModule, y_m_low, y_m_high, y_m_first, y_m_isBool, y_nn, y_dg, rfl, hx, hdo⟩ := h2
  obtain ⟨b_ed, o_ed, k_ed⟩ := hw_refc (q := 25) (k := 39) R1 own1 sh1 rfl (by decide)
  obtain ⟨g1, g2, t1, t2, ed⟩ := hw_same (n := 8000) (j := 14) R1 R2 o_ed (by show hm_KT ((hm_T kof own).2.1 b_ed).1 = _; rw [k_ed]; rfl)
  have t1 : some z_m_code = some g1 := t1
  have t2 : some y_m_code = some g2 := t2
  injection t1 with t1
  injection t2 with t2
  subst t1 t2
  obtain ⟨b_eg, o_eg, k_eg⟩ := hw_refc (q := 19) (k := 31) R1 own1 sh1 rfl (by decide)
  obtain ⟨g1, g2, t1, t2, eg⟩ := hw_same (n := 40) (j := 9) R1 R2 o_eg (by show hm_KT ((hm_T kof own).2.1 b_eg).1 = _; rw [k_eg]; rfl)
  have t1 : some z_m_guard = some g1 := t1
  have t2 : some y_m_guard = some g2 := t2
  injection t1 with t1
  injection t2 with t2
  subst t1 t2
  obtain ⟨b_eu, o_eu, k_eu⟩ := hw_refc (q := 20) (k := 32) R1 own1 sh1 rfl (by decide)
  obtain ⟨g1, g2, t1, t2, eu⟩ := hw_same (n := 40) (j := 10) R1 R2 o_eu (by show hm_KT ((hm_T kof own).2.1 b_eu).1 = _; rw [k_eu]; rfl)
  have t1 : some z_m_updates = some g1 := t1
  have t2 : some y_m_updates = some g2 := t2
  injection t1 with t1
  injection t2 with t2
  subst t1 t2
  obtain ⟨b_es, o_es, k_es⟩ := hw_refc (q := 23) (k := 35) R1 own1 sh1 rfl (by decide)
  obtain ⟨g1, g2, t1, t2, es⟩ := hw_same (n := 1920) (j := 13) R1 R2 o_es (by show hm_KT ((hm_T kof own).2.1 b_es).1 = _; rw [k_es]; rfl)
  have t1 : some z_m_setTo = some g1 := t1
  have t2 : some y_m_setTo = some g2 := t2
  injection t1 with t1
  injection t2 with t2
  subst t1 t2
  obtain ⟨b_ec, o_ec, k_ec⟩ := hw_refc (q := 17) (k := 29) R1 own1 sh1 rfl (by decide)
  obtain ⟨g1, g2, t1, t2, ec⟩ := hw_same (n := 40) (j := 7) R1 R2 o_ec (by show hm_KT ((hm_T kof own).2.1 b_ec).1 = _; rw [k_ec]; rfl)
  have t1 : some z_m_commandModule = some g1 := t1
  have t2 : some y_m_commandModule = some g2 := t2
  injection t1 with t1
  injection t2 with t2
  subst t1 t2
  obtain ⟨b_ea, o_ea, k_ea⟩ := hw_refc (q := 18) (k := 30) R1 own1 sh1 rfl (by decide)
  obtain ⟨g1, g2, t1, t2, ea⟩ := hw_same (n := 40) (j := 8) R1 R2 o_ea (by show hm_KT ((hm_T kof own).2.1 b_ea).1 = _; rw [k_ea]; rfl)
  have t1 : some z_m_commandAction = some g1 := t1
  have t2 : some y_m_commandAction = some g2 := t2
  injection t1 with t1
  injection t2 with t2
  subst t1 t2
  obtain ⟨b_el, o_el, k_el⟩ := hw_refc (q := 14) (k := 26) R1 own1 sh1 rfl (by decide)
  obtain ⟨g1, g2, t1, t2, el⟩ := hw_same (n := 8) (j := 39) R1 R2 o_el (by show hm_KT ((hm_T kof own).2.1 b_el).1 = _; rw [k_el]; rfl)
  have t1 : some z_m_low = some g1 := t1
  have t2 : some y_m_low = some g2 := t2
  injection t1 with t1
  injection t2 with t2
  subst t1 t2
  obtain ⟨b_eh, o_eh, k_eh⟩ := hw_refc (q := 15) (k := 27) R1 own1 sh1 rfl (by decide)
  obtain ⟨g1, g2, t1, t2, eh⟩ := hw_same (n := 8) (j := 40) R1 R2 o_eh (by show hm_KT ((hm_T kof own).2.1 b_eh).1 = _; rw [k_eh]; rfl)
  have t1 : some z_m_high = some g1 := t1
  have t2 : some y_m_high = some g2 := t2
  injection t1 with t1
  injection t2 with t2
  subst t1 t2
  obtain ⟨b_ef, o_ef, k_ef⟩ := hw_refc (q := 16) (k := 28) R1 own1 sh1 rfl (by decide)
  obtain ⟨g1, g2, t1, t2, ef⟩ := hw_same (n := 8) (j := 41) R1 R2 o_ef (by show hm_KT ((hm_T kof own).2.1 b_ef).1 = _; rw [k_ef]; rfl)
  have t1 : some z_m_first = some g1 := t1
  have t2 : some y_m_first = some g2 := t2
  injection t1 with t1
  injection t2 with t2
  subst t1 t2
  have s_there := hw_samef (j := 4) (k := 6) R1 R2 own1 sh1 rfl
  have s_there : some z_m_there = some y_m_there := s_there
  injection s_there with s_there
  have s_explored := hw_samef (j := 21) (k := 46) R1 R2 own1 sh1 rfl
  have s_explored : some z_m_explored = some y_m_explored := s_explored
  injection s_explored with s_explored
  have s_commands := hw_samef (j := 13) (k := 17) R1 R2 own1 sh1 rfl
  have s_commands : some z_m_commands = some y_m_commands := s_commands
  injection s_commands with s_commands
  have s_vars := hw_samef (j := 11) (k := 15) R1 R2 own1 sh1 rfl
  have s_vars : some z_m_vars = some y_m_vars := s_vars
  injection s_vars with s_vars
  have s_modules := hw_samef (j := 12) (k := 16) R1 R2 own1 sh1 rfl
  have s_modules : some z_m_modules = some y_m_modules := s_modules
  injection s_modules with s_modules
  have s_actions := hw_samef (j := 14) (k := 18) R1 R2 own1 sh1 rfl
  have s_actions : some z_m_actions = some y_m_actions := s_actions
  injection s_actions with s_actions
  have s_target := hw_samef (j := 15) (k := 37) R1 R2 own1 sh1 rfl
  have s_target : some z_m_target = some y_m_target := s_target
  injection s_target with s_target
  refine ⟨_, _, _, _, _, _, _, _, _, _, _, _, _, _, _, _, _, _, _, _, _, _, _, _, _, _, _, _, _, _, _, _, _, _, _, _, _, _, _, _, _, _, _, _, _, _, _, _, _, _, _, _, _, _, _, _, _, _, _, _, _, _, _, _, _, _, _, _, _, _, rfl, hv, hi, hm, ha, hoc, ?_, mYo_n (s_explored.trans hx)⟩
  rw [s_there, s_commands, s_vars, s_modules, s_actions, s_target]
  cases Do with
  | none => exact mDo_n (hdo.elim fun _ h => h.1 rfl)
  | some D =>
    obtain ⟨d1, d2⟩ := hdo.elim fun _ h => h.2 D rfl
    obtain ⟨_, d3, d4⟩ := d2
    exact ⟨(), fun z => (by cases z), fun D' e => by
      injection e with e
      subst e
      exact ⟨d1, (), mD_g d3 d4 ed eg eu es ec ea el eh ef, d4⟩⟩
end HJ
theorem r_end (hU : hw_U (hm_T kof own)) {q : Int} (hZ : hm_I f er g Do Yo Z) (hK : (q < 0 ∨ 8192 < q ∨ f < q) → ∀ Z', hm_I f 1 g Do Yo Z' → K (some (hw_I 0)) Z') (hK1 : 0 ≤ q → q ≤ 8192 → q ≤ f → pText g q = none → ∀ Z', hm_I 0 2 g none none Z' → K (some (hw_I 0)) Z') (hK2 : 0 ≤ q → q ≤ 8192 → q ≤ f → ∀ D r Z', pText g q = some D → D.1 = r - 1 → hm_I 0 0 g (some D) none Z' → K (some (hw_I r)) Z') : hw_C pg_G pg_TT scr (hm_T kof own) (d + 470) 191 [hw_R 2 0, hw_I q] Z K E := by
  refine hm_e (P := fun Z => hw_C pg_G pg_TT scr (hm_T kof own) (d + 470) 191 [hw_R 2 0, hw_I q] Z K E) hZ (fun z_m_wrong z_m_letters z_m_there z_m_kind z_m_word z_m_from z_m_to z_m_tokens z_m_names z_m_vars z_m_modules z_m_commands z_m_actions z_m_target z_m_phase z_m_codes z_m_deep z_m_bool z_m_broken z_m_explored z_m_states z_m_choices z_m_outcomes z_m_problem z_m_text z_m_nameFrom z_m_nameSize z_m_nameKind z_m_nameValue z_m_actionFrom z_m_actionSize z_m_commandModule z_m_commandAction z_m_guard z_m_updates z_m_over z_m_under z_m_setTo z_m_code z_m_firstChoice z_m_firstOutcome z_m_goesTo z_m_taken z_m_step z_m_chosen z_m_isTarget z_m_holds z_m_above z_m_below z_m_solved z_m_known z_m_zero z_m_policy z_m_unknown z_m_index z_m_got z_m_set z_m_stack z_m_now z_m_next z_m_value z_m_octets z_m_varModule z_m_low z_m_high z_m_first z_m_isBool z_nn z_dg va hv hi hm ha hoc hdo hyo => ?_)
  refine jS (E1 := E) (E2 := E) (K1 := fun r Z' => (r = some (hw_I 0) ∧ (q < 0 ∨ 8192 < q ∨ f < q) ∧ hm_I f 1 g Do Yo Z') ∨ (r = some (hw_I 0) ∧ (0 ≤ q ∧ q ≤ 8192 ∧ q ≤ f) ∧ hm_V 0 2 g Z') ∨ (∃ x, r = some (hw_I x) ∧ (0 ≤ q ∧ q ≤ 8192 ∧ q ≤ f) ∧ 1 ≤ x ∧ hm_V 0 0 g Z')) (K2 := fun r Z2 => (r = some (hw_I 0) ∧ (q < 0 ∨ 8192 < q ∨ f < q)) ∨ (∃ tx, r = some (hw_I 0) ∧ pText tx q = none ∧ utq tx z_m_octets q ∧ (0 ≤ q ∧ q ≤ f) ∧ hm_D none Z2) ∨ (∃ x tx D, r = some (hw_I x) ∧ pText tx q = some D ∧ D.1 = x - 1 ∧ utq tx z_m_octets q ∧ 1 ≤ x ∧ (0 ≤ q ∧ q ≤ f) ∧ hm_D (some D) Z2)) ?_ ?_ (fun as S r1 r2 v Z' Z2' S' hst hR k1 k2 v1 v2 R1 R2 => ?_) (fun ec Z' Z2' k1 k2 => k1)
  · refine t_end hU ?_ ?_ ?_
    · intro h
      exact Or.inl ⟨rfl, h, (hm_i (hv) (hi) (hm) (ha) (hoc) hdo hyo)⟩
    · intros
      exact Or.inr (Or.inl ⟨rfl, ⟨by assumption, by assumption, by assumption⟩, (hm_vi hv (mi_0 hi fr_0) (fun h => absurd rfl h) ⟨(), fun h => absurd rfl h⟩ oc_0)⟩)
    · intros
      exact Or.inr (Or.inr ⟨_, rfl, ⟨by assumption, by assumption, by assumption⟩, by assumption, (hm_vi hv (mi_0 hi fr_0) (fun _ => by assumption) ⟨(), fun h => absurd rfl h⟩ oc_0)⟩)
  · refine u_end hU ?_ ?_ ?_
    · intro h
      exact Or.inl ⟨rfl, h⟩
    · intros
      exact Or.inr (Or.inl ⟨_, rfl, by assumption, by assumption, ⟨by assumption, by assumption⟩, (hm_di rfl (mDo_n rfl))⟩)
    · intros
      rename_i Dt p1 p2 p3 p4 p5 p6 p7 p8
      exact Or.inr (Or.inr ⟨_, _, Dt, rfl, p1, p2, p4, p5, ⟨by assumption, by assumption⟩, (hm_di rfl (mDo_i ⟨(), p3, pText_ok p1⟩ rfl))⟩)
  · have cg : ∀ tx, utq tx z_m_octets q → 0 ≤ q → q ≤ f → pText tx q = pText g q := fun tx h h0 hf => h.elim fun _ h => cg_pText ⟨h0, fun i i1 i2 => (h i i1 i2).trans (oc_at hoc i1 (by omega))⟩
    rcases k1 with ⟨e1, a1, a2⟩ | ⟨e1, ⟨a1, a2, a3⟩, a4⟩ | ⟨x, e1, ⟨a1, a2, a3⟩, a5, a4⟩
    · subst e1
      exact hK a1 Z' a2
    · subst e1
      rcases k2 with ⟨e2, b1⟩ | ⟨tx, e2, b1, b2, ⟨b3, b4⟩, b6⟩ | ⟨y, tx, D, e2, b1, b7, b2, b5, ⟨b3, b4⟩, b6⟩
      · omega
      · exact hK1 a1 a2 a3 ((cg tx b2 b3 b4).symm.trans b1) Z' (hm_join hst a4 b6 R1 R2 (fun D e => by cases e))
      · subst e2
        have e := j_vo v1 v2
        omega
    · subst e1
      rcases k2 with ⟨e2, b1⟩ | ⟨tx, e2, b1, b2, ⟨b3, b4⟩, b6⟩ | ⟨y, tx, D, e2, b1, b7, b2, b5, ⟨b3, b4⟩, b6⟩
      · omega
      · subst e2
        have e := j_vo v1 v2
        omega
      · subst e2
        have e := j_vo v1 v2
        subst e
        have ok : dOK D := pText_ok b1
        exact hK2 a1 a2 a3 D x Z' ((cg tx b2 b3 b4).symm.trans b1) b7 (hm_join hst a4 b6 R1 R2 (fun D' e => by injection e with e; subst e; exact ok))
end C85
