/-! the model: code that is put together -/
section C69
variable {scr : Nat × (Nat → Int32)} {d : Nat} {K : Option hw_V → hw_Z → Prop} {E : Nat → hw_Z → Prop} {Z : hw_Z} {kof : Nat → Nat × Int} {own : Nat → Prop} {z_m_err z_m_fed z_m_wrong z_m_letters z_m_there z_m_kind z_m_word z_m_from z_m_to z_m_tokens z_m_names z_m_vars z_m_modules z_m_commands z_m_actions z_m_target z_m_phase z_m_codes z_m_deep z_m_bool z_m_broken z_m_explored z_m_states z_m_choices z_m_outcomes z_m_problem : Int} {z_m_text z_m_nameFrom z_m_nameSize z_m_nameKind z_m_nameValue z_m_actionFrom z_m_actionSize z_m_commandModule z_m_commandAction z_m_guard z_m_updates z_m_over z_m_under z_m_setTo z_m_code z_m_firstChoice z_m_firstOutcome z_m_goesTo z_m_taken z_m_step z_m_chosen z_m_isTarget z_m_holds z_m_above z_m_below z_m_solved z_m_known z_m_zero z_m_policy z_m_unknown z_m_index z_m_got z_m_set z_m_stack z_m_now z_m_next z_m_value z_m_octets z_m_varModule z_m_low z_m_high z_m_first z_m_isBool z_nn : Int → Int} {z_dg : Int → Int → Int}
/-- g has code from a to b that leaves one value, and is as f was below a -/
def gx_ok (f g : Int → Int) (a b : Int) : Prop := ∃ _ : Unit, sc_ok g a b ∧ ∀ q : Int, q < a → g q = f q
theorem gx_p {f : Int → Int} {a b o v : Int} (h : o = 0 ∨ (o = 1 ∧ 0 ≤ v ∧ v ≤ 7)) (hb : b = a + 2) : gx_ok f (hw_up (hw_up f a o) (a + 1) v) a b := ⟨(), by
  refine sc_p ?_ hb
  rw [hw_up_n (by omega), hw_up_s, hw_up_s]; exact h, fun q hq => by rw [hw_up_n (by omega), hw_up_n (by omega)]⟩
theorem gx_u {f g : Int → Int} {a b c o v : Int} (h : gx_ok f g a b) (ho : o = 14 ∨ o = 15) (hc : c = b + 2) : gx_ok f (hw_up (hw_up g b o) (b + 1) v) a c := by
  obtain ⟨_, h1, h2⟩ := h
  have z := sc_n h1
  refine ⟨(), sc_u (b := b) (sc_k h1 (fun q _ h4 => by rw [hw_up_n (by omega), hw_up_n (by omega)])) ?_ hc, fun q hq => ?_⟩
  · rw [hw_up_n (by omega), hw_up_s]; exact ho
  · rw [hw_up_n (by omega), hw_up_n (by omega)]; exact h2 q hq
theorem gx_b {f g k : Int → Int} {a b c o v p : Int} (h : gx_ok f g a b) (h' : gx_ok g k b c) (ho : 2 ≤ o ∧ o ≤ 13) (hp : p = c + 2) : gx_ok f (hw_up (hw_up k c o) (c + 1) v) a p := by
  obtain ⟨_, h1, h2⟩ := h
  obtain ⟨_, h3, h4⟩ := h'
  have z := sc_n h1
  have z2 := sc_n h3
  refine ⟨(), sc_b (b := b) (c := c) (sc_k h1 (fun q _ h5 => ?_)) (sc_k h3 (fun q _ h5 => ?_)) ?_ hp, fun q hq => ?_⟩
  · rw [hw_up_n (by omega), hw_up_n (by omega)]; exact h4 q h5
  · rw [hw_up_n (by omega), hw_up_n (by omega)]
  · rw [hw_up_n (by omega), hw_up_s]; exact ho
  · rw [hw_up_n (by omega), hw_up_n (by omega), h4 q (by omega)]; exact h2 q hq
theorem gx_j {f g k : Int → Int} {a b c e o v x y : Int} (h : gx_ok f g a b) (h' : gx_ok (hw_up (hw_up g b o) (b + 1) v) k e c) (he : e = b + 2) (ho : 17 ≤ o ∧ o ≤ 19) (hy : y = b + 1) (hx : x = c) : gx_ok f (hw_up k y x) a c := by
  subst he
  subst hy
  subst hx
  obtain ⟨_, h1, h2⟩ := h
  obtain ⟨_, h3, h4⟩ := h'
  have z := sc_n h1
  have z2 := sc_n h3
  have e1 : ∀ q : Int, q < b → k q = g q := fun q hq => by rw [h4 q (by omega), hw_up_n (by omega), hw_up_n (by omega)]
  refine ⟨(), sc_j (b := b) (sc_k h1 (fun q _ h5 => ?_)) (sc_k h3 (fun q _ h5 => ?_)) ?_ ?_, fun q hq => ?_⟩
  · rw [hw_up_n (by omega)]; exact e1 q h5
  · rw [hw_up_n (by omega)]
  · rw [hw_up_n (by omega), h4 b (by omega), hw_up_n (by omega), hw_up_s]; exact ho
  · rw [hw_up_s]
  · rw [hw_up_n (by omega), e1 q (by omega)]; exact h2 q hq
theorem gx_i {f g k l : Int → Int} {a b c e v x y e2 v2 x2 y2 p : Int} (h : gx_ok f g a b) (h' : gx_ok (hw_up (hw_up g b 16) (b + 1) v) k e c) (he : e = b + 2) (h'' : gx_ok (hw_up (hw_up (hw_up k c 20) (c + 1) v2) y x) l e2 p) (he2 : e2 = c + 2) (hy : y = b + 1) (hx : x = c + 2) (hy2 : y2 = c + 1) (hx2 : x2 = p) : gx_ok f (hw_up l y2 x2) a p := by
  subst he
  subst he2
  subst hy
  subst hx
  subst hy2
  subst hx2
  obtain ⟨_, h1, h2⟩ := h
  obtain ⟨_, h3, h4⟩ := h'
  obtain ⟨_, h5, h6⟩ := h''
  have z := sc_n h1
  have z2 := sc_n h3
  have z3 := sc_n h5
  have e1 : ∀ q : Int, q < c → ¬ q = b + 1 → l q = k q := fun q hq hb => by rw [h6 q (by omega), hw_up_n hb, hw_up_n (by omega), hw_up_n (by omega)]
  have e2 : ∀ q : Int, q < b → l q = g q := fun q hq => by rw [e1 q (by omega) (by omega), h4 q (by omega), hw_up_n (by omega), hw_up_n (by omega)]
  refine ⟨(), sc_i (b := b) (c := c) (sc_k h1 (fun q _ h7 => ?_)) (sc_k h3 (fun q _ h7 => ?_)) (sc_k h5 (fun q _ h7 => ?_)) ?_ ?_ ?_ ?_, fun q hq => ?_⟩
  · rw [hw_up_n (by omega)]; exact e2 q h7
  · rw [hw_up_n (by omega)]; exact e1 q h7 (by omega)
  · rw [hw_up_n (by omega)]
  · rw [hw_up_n (by omega), e1 b (by omega) (by omega), h4 b (by omega), hw_up_n (by omega), hw_up_s]
  · rw [hw_up_n (by omega), h6 (b + 1) (by omega), hw_up_s]
  · rw [hw_up_n (by omega), h6 c (by omega), hw_up_n (by omega), hw_up_n (by omega), hw_up_s]
  · rw [hw_up_s]
  · rw [hw_up_n (by omega), e2 q (by omega)]; exact h2 q hq
/-- what each of the nine promises at a level of nesting, calls nested at most e deep -/
def eC (scr : Nat × (Nat → Int32)) (kof : Nat → Nat × Int) (own : Nat → Prop) (z_m_err z_m_fed z_m_letters z_m_there z_m_names z_m_vars z_m_modules z_m_commands z_m_actions z_m_target z_m_phase z_m_broken z_m_explored z_m_states z_m_choices z_m_outcomes z_m_problem : Int) (z_m_text z_m_nameFrom z_m_nameSize z_m_nameKind z_m_nameValue z_m_actionFrom z_m_actionSize z_m_commandModule z_m_commandAction z_m_guard z_m_updates z_m_over z_m_under z_m_setTo z_m_firstChoice z_m_firstOutcome z_m_goesTo z_m_taken z_m_step z_m_chosen z_m_isTarget z_m_holds z_m_above z_m_below z_m_solved z_m_known z_m_zero z_m_policy z_m_unknown z_m_index z_m_got z_m_set z_m_stack z_m_now z_m_next z_m_value z_m_octets z_m_varModule z_m_low z_m_high z_m_first z_m_isBool z_nn : Int → Int) (z_dg : Int → Int → Int) (g N : Nat) (M : Int) : Prop := ∀ (e : Nat), N ≤ e → ∀ {K : Option hw_V → hw_Z → Prop} {E : Nat → hw_Z → Prop} {z_m_kind z_m_word z_m_from z_m_to z_m_tokens z_m_codes z_m_deep z_m_bool z_m_wrong : Int} {z_m_code : Int → Int}, (41 ≤ z_m_deep + M ∧ 0 ≤ z_m_deep ∧ z_m_deep ≤ 40) → (tk_ok z_m_text z_m_letters z_m_kind z_m_word z_m_from z_m_to) → (0 ≤ z_m_tokens ∧ z_m_tokens ≤ 1500) → (0 ≤ z_m_codes ∧ z_m_codes ≤ 2 * z_m_tokens) → (∀ (kd wd fr t tn cs dq bl : Int) (cd : Int → Int), (z_m_tokens < tn) → (tn ≤ 1500) → (tk_ok z_m_text z_m_letters kd wd fr t) → (z_m_codes + 2 ≤ cs) → (cs - z_m_codes ≤ 2 * (tn - z_m_tokens)) → (dq = z_m_deep) → (gx_ok z_m_code cd z_m_codes cs) → K (some (hw_I 1)) ([z_m_err, z_m_fed, z_m_wrong, z_m_letters, z_m_there, kd, wd, fr, t, tn, z_m_names, z_m_vars, z_m_modules, z_m_commands, z_m_actions, z_m_target, z_m_phase, cs, dq, bl, z_m_broken, z_m_explored, z_m_states, z_m_choices, z_m_outcomes, z_m_problem], [z_m_text, z_m_nameFrom, z_m_nameSize, z_m_nameKind, z_m_nameValue, z_m_actionFrom, z_m_actionSize, z_m_commandModule, z_m_commandAction, z_m_guard, z_m_updates, z_m_over, z_m_under, z_m_setTo, cd, z_m_firstChoice, z_m_firstOutcome, z_m_goesTo, z_m_taken, z_m_step, z_m_chosen, z_m_isTarget, z_m_holds, z_m_above, z_m_below, z_m_solved, z_m_known, z_m_zero, z_m_policy, z_m_unknown, z_m_index, z_m_got, z_m_set, z_m_stack, z_m_now, z_m_next, z_m_value, z_m_octets, z_m_varModule, z_m_low, z_m_high, z_m_first, z_m_isBool], [z_nn], [z_dg])) → (∀ (kd wd fr t tn cs dq bl wr : Int) (cd : Int → Int), K (some (hw_I 0)) ([z_m_err, z_m_fed, wr, z_m_letters, z_m_there, kd, wd, fr, t, tn, z_m_names, z_m_vars, z_m_modules, z_m_commands, z_m_actions, z_m_target, z_m_phase, cs, dq, bl, z_m_broken, z_m_explored, z_m_states, z_m_choices, z_m_outcomes, z_m_problem], [z_m_text, z_m_nameFrom, z_m_nameSize, z_m_nameKind, z_m_nameValue, z_m_actionFrom, z_m_actionSize, z_m_commandModule, z_m_commandAction, z_m_guard, z_m_updates, z_m_over, z_m_under, z_m_setTo, cd, z_m_firstChoice, z_m_firstOutcome, z_m_goesTo, z_m_taken, z_m_step, z_m_chosen, z_m_isTarget, z_m_holds, z_m_above, z_m_below, z_m_solved, z_m_known, z_m_zero, z_m_policy, z_m_unknown, z_m_index, z_m_got, z_m_set, z_m_stack, z_m_now, z_m_next, z_m_value, z_m_octets, z_m_varModule, z_m_low, z_m_high, z_m_first, z_m_isBool], [z_nn], [z_dg])) → hw_C pg_G pg_TT scr (hm_T kof own) e g [hw_R 2 0] ([z_m_err, z_m_fed, z_m_wrong, z_m_letters, z_m_there, z_m_kind, z_m_word, z_m_from, z_m_to, z_m_tokens, z_m_names, z_m_vars, z_m_modules, z_m_commands, z_m_actions, z_m_target, z_m_phase, z_m_codes, z_m_deep, z_m_bool, z_m_broken, z_m_explored, z_m_states, z_m_choices, z_m_outcomes, z_m_problem], [z_m_text, z_m_nameFrom, z_m_nameSize, z_m_nameKind, z_m_nameValue, z_m_actionFrom, z_m_actionSize, z_m_commandModule, z_m_commandAction, z_m_guard, z_m_updates, z_m_over, z_m_under, z_m_setTo, z_m_code, z_m_firstChoice, z_m_firstOutcome, z_m_goesTo, z_m_taken, z_m_step, z_m_chosen, z_m_isTarget, z_m_holds, z_m_above, z_m_below, z_m_solved, z_m_known, z_m_zero, z_m_policy, z_m_unknown, z_m_index, z_m_got, z_m_set, z_m_stack, z_m_now, z_m_next, z_m_value, z_m_octets, z_m_varModule, z_m_low, z_m_high, z_m_first, z_m_isBool], [z_nn], [z_dg]) K E
end C69
