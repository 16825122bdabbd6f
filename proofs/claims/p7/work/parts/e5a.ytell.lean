/-! the model: the run of code that says a constant -/
section CY5a
variable {scr : Nat × (Nat → Int32)} {d : Nat} {K : Option hw_V → hw_Z → Prop} {E : Nat → hw_Z → Prop} {Z : hw_Z} {kof : Nat → Nat × Int} {own : Nat → Prop} {z_m_err z_m_fed z_m_wrong z_m_letters z_m_there z_m_kind z_m_word z_m_from z_m_to z_m_tokens z_m_names z_m_vars z_m_modules z_m_commands z_m_actions z_m_target z_m_phase z_m_codes z_m_deep z_m_bool z_m_broken z_m_explored z_m_states z_m_choices z_m_outcomes z_m_problem : Int} {z_m_text z_m_nameFrom z_m_nameSize z_m_nameKind z_m_nameValue z_m_actionFrom z_m_actionSize z_m_commandModule z_m_commandAction z_m_guard z_m_updates z_m_over z_m_under z_m_setTo z_m_code z_m_firstChoice z_m_firstOutcome z_m_goesTo z_m_taken z_m_step z_m_chosen z_m_isTarget z_m_holds z_m_above z_m_below z_m_solved z_m_known z_m_zero z_m_policy z_m_unknown z_m_index z_m_got z_m_set z_m_stack z_m_now z_m_next z_m_value z_m_octets z_m_varModule z_m_low z_m_high z_m_first z_m_isBool z_nn : Int → Int} {z_dg : Int → Int → Int}
theorem fit_s {v r : Int} (h : r = v) (hb : -2147483648 ≤ r ∧ r ≤ 2147483647) : yfitI v = some r := by
  subst h
  exact yfitI_s hb
section YJN
variable {x a b z r : Int} {Y : Option Int}
theorem yjm_add (h : yfitI z = Y) (hz : z = a + b) (hx : x = 2) : yjoin (opm x) a b = Y := by subst hx hz; exact h
theorem yjm_sub (h : yfitI z = Y) (hz : z = a - b) (hx : x = 3) : yjoin (opm x) a b = Y := by subst hx hz; exact h
theorem yjm_mul (h : yfitI z = Y) (hz : z = a * b) (hx : x = 4) : yjoin (opm x) a b = Y := by subst hx hz; exact h
theorem yjm_min (hx : x = 5) (hr : (a < b ∧ r = a) ∨ (¬ a < b ∧ r = b)) : yjoin (opm x) a b = some r := by
  subst hx
  show some (if a ≤ b then a else b) = some r
  congr 1
  split <;> omega
theorem yjm_max (hx : x = 6) (hr : (b < a ∧ r = a) ∨ (¬ b < a ∧ r = b)) : yjoin (opm x) a b = some r := by
  subst hx
  show some (if b ≤ a then a else b) = some r
  congr 1
  split <;> omega
theorem yjm_modn (hx : x = 7) (hb : b ≤ 0) : yjoin (opm x) a b = none := by
  subst hx
  show (if 0 < b then some (a % b) else none) = none
  exact if_neg (by omega)
theorem yjm_mod (hx : x = 7) (ha : -2147483648 ≤ a ∧ a ≤ 2147483647) (hb : 0 < b ∧ b ≤ 2147483647) (hr : (0 ≤ hb_rem a b ∧ r = hb_rem a b) ∨ (hb_rem a b < 0 ∧ r = hb_rem a b + b)) : yjoin (opm x) a b = some r := by
  subst hx
  show (if 0 < b then some (a % b) else none) = some r
  rw [if_pos hb.1]
  congr 1
  rw [hb_rem_t ha hb] at hr
  by_cases h0 : 0 ≤ a
  · have e := fm_p (x := a) (y := b) h0
    have e2 := Int.emod_nonneg a (show b ≠ 0 by omega)
    omega
  · have e := fm_n (x := a) (y := b) (by omega) hb.1
    have e2 := Int.emod_nonneg a (show b ≠ 0 by omega)
    by_cases z : Int.tmod a b = 0
    · have := e.1 z; omega
    · have := e.2 z; omega
theorem yjm_modb (ha : -2147483648 ≤ a ∧ a ≤ 2147483647) (hb : 0 < b ∧ b ≤ 2147483647) : -2147483648 < hb_rem a b + b ∧ hb_rem a b ≤ 2147483647 ∧ (hb_rem a b < 0 → hb_rem a b + b ≤ 2147483647) := by
  rw [hb_rem_t ha hb]
  by_cases h0 : 0 ≤ a
  · have e := fm_p (x := a) (y := b) h0
    have e2 := Int.emod_nonneg a (show b ≠ 0 by omega)
    have e3 := Int.emod_lt_of_pos a hb.1
    omega
  · have e := fm_n (x := a) (y := b) (by omega) hb.1
    by_cases z : Int.tmod a b = 0
    · omega
    · have := e.2 z; omega
theorem yjm_eq (hx : x = 8) (hr : (a = b ∧ r = 1) ∨ (¬ a = b ∧ r = 0)) : yjoin (opm x) a b = some r := by
  subst hx
  show some (if a = b then 1 else 0) = some r
  congr 1
  split <;> omega
theorem yjm_ne (hx : x = 9) (hr : (a = b ∧ r = 0) ∨ (¬ a = b ∧ r = 1)) : yjoin (opm x) a b = some r := by
  subst hx
  show some (if a = b then 0 else 1) = some r
  congr 1
  split <;> omega
theorem yjm_lt (hx : x = 10) (hr : (a < b ∧ r = 1) ∨ (¬ a < b ∧ r = 0)) : yjoin (opm x) a b = some r := by
  subst hx
  show some (if a < b then 1 else 0) = some r
  congr 1
  split <;> omega
theorem yjm_le (hx : x = 11) (hr : (a ≤ b ∧ r = 1) ∨ (¬ a ≤ b ∧ r = 0)) : yjoin (opm x) a b = some r := by
  subst hx
  show some (if a ≤ b then 1 else 0) = some r
  congr 1
  split <;> omega
theorem yjm_gt (hx : x = 12) (hr : (b < a ∧ r = 1) ∨ (¬ b < a ∧ r = 0)) : yjoin (opm x) a b = some r := by
  subst hx
  show some (if b < a then 1 else 0) = some r
  congr 1
  split <;> omega
theorem yjm_ge (hx : x = 13) (hr : (b ≤ a ∧ r = 1) ∨ (¬ b ≤ a ∧ r = 0)) : yjoin (opm x) a b = some r := by
  subst hx
  show some (if b ≤ a then 1 else 0) = some r
  congr 1
  split <;> omega
theorem yjm_neg (h : yfitI z = Y) (hz : z = -a) : yjoin 28 0 a = Y := by
  subst hz
  show yfitI (0 - a) = Y
  rw [show (0 : Int) - a = -a by omega]
  exact h
end YJN
section YTM
variable {f S : Int → Int} {a b k n k' n' p q o z : Int}
theorem utl_bs (h : utl f a b S k n) (hj : yjoin (opm o) (S p) (S q) = some z) (ho : o = f k) (hf : 2 ≤ f k ∧ f k ≤ 13) (hp : p = n - 2) (hq : q = n - 1) (hk : k' = k + 2) (hn : n' = n - 1) : utl f a b (hw_up S p z) k' n' := by
  subst ho hp hq hk hn
  exact (utl_2 h hf).2.1 z hj
theorem utl_bn (h : utl f a b S k n) (hj : yjoin (opm o) (S p) (S q) = none) (ho : o = f k) (hf : 2 ≤ f k ∧ f k ≤ 13) (hp : p = n - 2) (hq : q = n - 1) : yval (uC f a b) = none := by
  subst ho hp hq
  exact (utl_2 h hf).2.2 hj
theorem utl_16a (h : utl f a b S k n) (hf : f k = 16) (hp : p = n - 1) (hs : S p = 0) (hk : k' = f (k + 1)) (hn : n' = n - 1) : utl f a b S k' n' := by
  subst hp hk hn
  exact ((utl_j h (by omega)).2.2.1 hf).1 hs
theorem utl_16b (h : utl f a b S k n) (hf : f k = 16) (hp : p = n - 1) (hs : ¬ S p = 0) (hk : k' = k + 2) (hn : n' = n - 1) : utl f a b S k' n' := by
  subst hp hk hn
  exact ((utl_j h (by omega)).2.2.1 hf).2 hs
theorem utl_17a (h : utl f a b S k n) (hf : f k = 17) (hp : p = n - 1) (hs : S p = 0) (hk : k' = f (k + 1)) : utl f a b S k' n := by
  subst hp hk
  exact ((utl_j h (by omega)).2.2.2.1 hf).1 hs
theorem utl_17b (h : utl f a b S k n) (hf : f k = 17) (hp : p = n - 1) (hs : ¬ S p = 0) (hk : k' = k + 2) (hn : n' = n - 1) : utl f a b S k' n' := by
  subst hp hk hn
  exact ((utl_j h (by omega)).2.2.2.1 hf).2 hs
theorem utl_18a (h : utl f a b S k n) (hf : f k = 18) (hp : p = n - 1) (hs : S p = 1) (hk : k' = f (k + 1)) : utl f a b S k' n := by
  subst hp hk
  exact ((utl_j h (by omega)).2.2.2.2.1 hf).2.1 (by omega)
theorem utl_18b (h : utl f a b S k n) (hf : f k = 18) (hp : p = n - 1) (hs : ¬ S p = 1) (hk : k' = k + 2) (hn : n' = n - 1) : utl f a b S k' n' := by
  subst hp hk hn
  have z := (utl_j h (by omega)).2.2.2.2.1 hf
  exact z.2.2 (by omega)
theorem utl_19a (h : utl f a b S k n) (hf : f k = 19) (hp : p = n - 1) (hs : S p = 0) (hk : k' = f (k + 1)) : utl f a b (hw_up S p 1) k' n := by
  subst hp hk
  exact ((utl_j h (by omega)).2.2.2.2.2 hf).1 hs
theorem utl_19b (h : utl f a b S k n) (hf : f k = 19) (hp : p = n - 1) (hs : ¬ S p = 0) (hk : k' = k + 2) (hn : n' = n - 1) : utl f a b S k' n' := by
  subst hp hk hn
  exact ((utl_j h (by omega)).2.2.2.2.2 hf).2 hs
theorem utl_jb (h : utl f a b S k n) (hf : 16 ≤ f k ∧ f k ≤ 20) : k < f (k + 1) ∧ f (k + 1) ≤ b := by
  by_cases e : f k = 20
  · have z := utl_go h e rfl
    have z2 := utl_b z.1
    omega
  · have z := utl_j h (by omega)
    exact ⟨z.1, z.2.1⟩
theorem utl_not1 {v : Int} (h : utl f a b S k n) (hf : f k = 14) (hp : p = n - 1) (hv : v = 1 - S p) (hk : k' = k + 2) : utl f a b (hw_up S p v) k' n := (utl_not h hf hp hv hk).1
theorem utl_ops (h : utl f a b S k n) : f k = 0 ∨ f k = 21 ∨ (2 ≤ f k ∧ f k ≤ 20) := by
  by_cases e : f k = 21
  · exact Or.inr (Or.inl e)
  · have hlt := utl_lt h e
    obtain ⟨D, x, fu, i, st, ⟨h0, h1, h2, h3, h4⟩, h5, hT, hn2, hk, hkb, hv, hfu, hl, hn, hs, hu⟩ := h
    have hg := utl_g (f := f) ⟨h0, h1⟩ hk hlt h3
    have hy := hT.2.2.1 i _ _ hg
    have h2' := hn2.2 i _ _ hg
    refine Classical.byContradiction (fun q => ?_)
    have eo : opm (f k) = 44 ∨ opm (f k) = 2 := by
      by_cases w : f k = 1
      · rw [w]; decide
      · left
        unfold opm
        repeat' split
        all_goals omega
    unfold yok at hy
    rcases hy with ⟨z, _⟩ | ⟨z, _⟩ | ⟨z, _⟩ | ⟨z, _⟩ | ⟨z, _⟩ | ⟨z, _⟩ | ⟨z, _⟩ | ⟨z, _⟩ | ⟨z, _⟩ <;> omega
end YTM
theorem u_fit (hU : hw_U (hm_T kof own)) {v : Int} (hv : -9223372036854775808 ≤ v ∧ v ≤ 9223372036854775807) (hK : ∀ (r : Int), yfitI v = some r → K (some (hw_I r)) ([z_m_err, z_m_fed, z_m_wrong, z_m_letters, z_m_there, z_m_kind, z_m_word, z_m_from, z_m_to, z_m_tokens, z_m_names, z_m_vars, z_m_modules, z_m_commands, z_m_actions, z_m_target, z_m_phase, z_m_codes, z_m_deep, z_m_bool, z_m_broken, z_m_explored, z_m_states, z_m_choices, z_m_outcomes, z_m_problem], [z_m_text, z_m_nameFrom, z_m_nameSize, z_m_nameKind, z_m_nameValue, z_m_actionFrom, z_m_actionSize, z_m_commandModule, z_m_commandAction, z_m_guard, z_m_updates, z_m_over, z_m_under, z_m_setTo, z_m_code, z_m_firstChoice, z_m_firstOutcome, z_m_goesTo, z_m_taken, z_m_step, z_m_chosen, z_m_isTarget, z_m_holds, z_m_above, z_m_below, z_m_solved, z_m_known, z_m_zero, z_m_policy, z_m_unknown, z_m_index, z_m_got, z_m_set, z_m_stack, z_m_now, z_m_next, z_m_value, z_m_octets, z_m_varModule, z_m_low, z_m_high, z_m_first, z_m_isBool], [z_nn], [z_dg])) (hK1 : ∀ (r : Int), yfitI v = none → K (some (hw_I r)) ([z_m_err, z_m_fed, z_m_wrong, z_m_letters, z_m_there, z_m_kind, z_m_word, z_m_from, z_m_to, z_m_tokens, z_m_names, z_m_vars, z_m_modules, z_m_commands, z_m_actions, z_m_target, z_m_phase, z_m_codes, z_m_deep, z_m_bool, 1, z_m_explored, z_m_states, z_m_choices, z_m_outcomes, z_m_problem], [z_m_text, z_m_nameFrom, z_m_nameSize, z_m_nameKind, z_m_nameValue, z_m_actionFrom, z_m_actionSize, z_m_commandModule, z_m_commandAction, z_m_guard, z_m_updates, z_m_over, z_m_under, z_m_setTo, z_m_code, z_m_firstChoice, z_m_firstOutcome, z_m_goesTo, z_m_taken, z_m_step, z_m_chosen, z_m_isTarget, z_m_holds, z_m_above, z_m_below, z_m_solved, z_m_known, z_m_zero, z_m_policy, z_m_unknown, z_m_index, z_m_got, z_m_set, z_m_stack, z_m_now, z_m_next, z_m_value, z_m_octets, z_m_varModule, z_m_low, z_m_high, z_m_first, z_m_isBool], [z_nn], [z_dg])) : hw_C pg_G pg_TT scr (hm_T kof own) (d + 1) 225 [hw_R 2 0, hw_J v] ([z_m_err, z_m_fed, z_m_wrong, z_m_letters, z_m_there, z_m_kind, z_m_word, z_m_from, z_m_to, z_m_tokens, z_m_names, z_m_vars, z_m_modules, z_m_commands, z_m_actions, z_m_target, z_m_phase, z_m_codes, z_m_deep, z_m_bool, z_m_broken, z_m_explored, z_m_states, z_m_choices, z_m_outcomes, z_m_problem], [z_m_text, z_m_nameFrom, z_m_nameSize, z_m_nameKind, z_m_nameValue, z_m_actionFrom, z_m_actionSize, z_m_commandModule, z_m_commandAction, z_m_guard, z_m_updates, z_m_over, z_m_under, z_m_setTo, z_m_code, z_m_firstChoice, z_m_firstOutcome, z_m_goesTo, z_m_taken, z_m_step, z_m_chosen, z_m_isTarget, z_m_holds, z_m_above, z_m_below, z_m_solved, z_m_known, z_m_zero, z_m_policy, z_m_unknown, z_m_index, z_m_got, z_m_set, z_m_stack, z_m_now, z_m_next, z_m_value, z_m_octets, z_m_varModule, z_m_low, z_m_high, z_m_first, z_m_isBool], [z_nn], [z_dg]) K E := by
  refine hw_meth hU hv_DG ⟨rfl, rfl⟩ (fun w X hs hX hF => ?_)
  repeat' (first | refine hw_ex32 ⟨by omega, by omega⟩ ?_ | (intro h; exact absurd h (by decide)) | intro _ | refine And.intro ?_ ?_ | (refine hs [] _ rfl ?_; conv => whnf) | apply hK | apply hK1)
  all_goals (first | with_reducible exact Nat.lt_succ_self _ | with_reducible assumption | omega | (with_reducible exact fit_s (by omega) (by omega)) | (with_reducible exact yfitI_n (by omega)) | (clear hs hX hF hK hK1; fail))
theorem u_two (hU : hw_U (hm_T kof own)) {x a b : Int} (hx : 2 ≤ x ∧ x ≤ 13) (ha : -2147483648 ≤ a ∧ a ≤ 2147483647) (hb : -2147483648 ≤ b ∧ b ≤ 2147483647) (hK : ∀ (r : Int), yjoin (opm x) a b = some r → K (some (hw_I r)) ([z_m_err, z_m_fed, z_m_wrong, z_m_letters, z_m_there, z_m_kind, z_m_word, z_m_from, z_m_to, z_m_tokens, z_m_names, z_m_vars, z_m_modules, z_m_commands, z_m_actions, z_m_target, z_m_phase, z_m_codes, z_m_deep, z_m_bool, z_m_broken, z_m_explored, z_m_states, z_m_choices, z_m_outcomes, z_m_problem], [z_m_text, z_m_nameFrom, z_m_nameSize, z_m_nameKind, z_m_nameValue, z_m_actionFrom, z_m_actionSize, z_m_commandModule, z_m_commandAction, z_m_guard, z_m_updates, z_m_over, z_m_under, z_m_setTo, z_m_code, z_m_firstChoice, z_m_firstOutcome, z_m_goesTo, z_m_taken, z_m_step, z_m_chosen, z_m_isTarget, z_m_holds, z_m_above, z_m_below, z_m_solved, z_m_known, z_m_zero, z_m_policy, z_m_unknown, z_m_index, z_m_got, z_m_set, z_m_stack, z_m_now, z_m_next, z_m_value, z_m_octets, z_m_varModule, z_m_low, z_m_high, z_m_first, z_m_isBool], [z_nn], [z_dg])) (hK1 : ∀ (r : Int), yjoin (opm x) a b = none → K (some (hw_I r)) ([z_m_err, z_m_fed, z_m_wrong, z_m_letters, z_m_there, z_m_kind, z_m_word, z_m_from, z_m_to, z_m_tokens, z_m_names, z_m_vars, z_m_modules, z_m_commands, z_m_actions, z_m_target, z_m_phase, z_m_codes, z_m_deep, z_m_bool, 1, z_m_explored, z_m_states, z_m_choices, z_m_outcomes, z_m_problem], [z_m_text, z_m_nameFrom, z_m_nameSize, z_m_nameKind, z_m_nameValue, z_m_actionFrom, z_m_actionSize, z_m_commandModule, z_m_commandAction, z_m_guard, z_m_updates, z_m_over, z_m_under, z_m_setTo, z_m_code, z_m_firstChoice, z_m_firstOutcome, z_m_goesTo, z_m_taken, z_m_step, z_m_chosen, z_m_isTarget, z_m_holds, z_m_above, z_m_below, z_m_solved, z_m_known, z_m_zero, z_m_policy, z_m_unknown, z_m_index, z_m_got, z_m_set, z_m_stack, z_m_now, z_m_next, z_m_value, z_m_octets, z_m_varModule, z_m_low, z_m_high, z_m_first, z_m_isBool], [z_nn], [z_dg])) : hw_C pg_G pg_TT scr (hm_T kof own) (d + 2) 226 [hw_R 2 0, hw_I x, hw_I a, hw_I b] ([z_m_err, z_m_fed, z_m_wrong, z_m_letters, z_m_there, z_m_kind, z_m_word, z_m_from, z_m_to, z_m_tokens, z_m_names, z_m_vars, z_m_modules, z_m_commands, z_m_actions, z_m_target, z_m_phase, z_m_codes, z_m_deep, z_m_bool, z_m_broken, z_m_explored, z_m_states, z_m_choices, z_m_outcomes, z_m_problem], [z_m_text, z_m_nameFrom, z_m_nameSize, z_m_nameKind, z_m_nameValue, z_m_actionFrom, z_m_actionSize, z_m_commandModule, z_m_commandAction, z_m_guard, z_m_updates, z_m_over, z_m_under, z_m_setTo, z_m_code, z_m_firstChoice, z_m_firstOutcome, z_m_goesTo, z_m_taken, z_m_step, z_m_chosen, z_m_isTarget, z_m_holds, z_m_above, z_m_below, z_m_solved, z_m_known, z_m_zero, z_m_policy, z_m_unknown, z_m_index, z_m_got, z_m_set, z_m_stack, z_m_now, z_m_next, z_m_value, z_m_octets, z_m_varModule, z_m_low, z_m_high, z_m_first, z_m_isBool], [z_nn], [z_dg]) K E := by
  refine hw_meth hU hv_DG ⟨rfl, rfl⟩ (fun w X hs hX hF => ?_)
  have hab := mul_b31 ha hb
  repeat' (first | refine hw_ex32 ⟨by omega, by omega⟩ ?_ | (intro h; exact absurd h (by decide)) | intro _ | refine And.intro ?_ ?_ | (refine hs [] _ rfl ?_; conv => whnf) | apply hK | apply hK1 | (apply hX; refine u_fit hU ?_ ?_ ?_))
  all_goals (first | with_reducible exact Nat.lt_succ_self _ | with_reducible assumption | omega | (with_reducible exact yjm_add (by with_reducible assumption) (by omega) (by omega)) | (with_reducible exact yjm_sub (by with_reducible assumption) (by omega) (by omega)) | (with_reducible exact yjm_mul (by with_reducible assumption) (by omega) (by omega)) | (with_reducible exact yjm_min (by omega) (by omega)) | (with_reducible exact yjm_max (by omega) (by omega)) | (with_reducible exact yjm_modn (by omega) (by omega)) | (with_reducible exact yjm_eq (by omega) (by omega)) | (with_reducible exact yjm_ne (by omega) (by omega)) | (with_reducible exact yjm_lt (by omega) (by omega)) | (with_reducible exact yjm_le (by omega) (by omega)) | (with_reducible exact yjm_gt (by omega) (by omega)) | (with_reducible exact yjm_ge (by omega) (by omega)) | (with_reducible exact yjm_mod (by omega) ha (by omega) (by omega)) | (have MB := yjm_modb ha (b := b) (by omega); first | omega | (with_reducible exact yjm_mod (by omega) ha (by omega) (by omega))) | (exfalso; omega) | (clear hs hX hF hK hK1; fail))
set_option maxHeartbeats 8000000 in
theorem u_tell (hU : hw_U (hm_T kof own)) {a b : Int} (hA : 0 ≤ a ∧ a % 2 = 0 ∧ a ≤ b ∧ b % 2 = 0 ∧ b - a ≤ 3000) (hB : z_m_code b = 21) (hC : ycn (uC z_m_code a b)) (hb : b ≤ 7998) (hK : ∀ (r : Int) (sk : Int → Int), yval (uC z_m_code a b) = some r → K (some (hw_I r)) ([z_m_err, z_m_fed, z_m_wrong, z_m_letters, z_m_there, z_m_kind, z_m_word, z_m_from, z_m_to, z_m_tokens, z_m_names, z_m_vars, z_m_modules, z_m_commands, z_m_actions, z_m_target, z_m_phase, z_m_codes, z_m_deep, z_m_bool, 0, z_m_explored, z_m_states, z_m_choices, z_m_outcomes, z_m_problem], [z_m_text, z_m_nameFrom, z_m_nameSize, z_m_nameKind, z_m_nameValue, z_m_actionFrom, z_m_actionSize, z_m_commandModule, z_m_commandAction, z_m_guard, z_m_updates, z_m_over, z_m_under, z_m_setTo, z_m_code, z_m_firstChoice, z_m_firstOutcome, z_m_goesTo, z_m_taken, z_m_step, z_m_chosen, z_m_isTarget, z_m_holds, z_m_above, z_m_below, z_m_solved, z_m_known, z_m_zero, z_m_policy, z_m_unknown, z_m_index, z_m_got, z_m_set, sk, z_m_now, z_m_next, z_m_value, z_m_octets, z_m_varModule, z_m_low, z_m_high, z_m_first, z_m_isBool], [z_nn], [z_dg])) (hK1 : ∀ (sk : Int → Int), yval (uC z_m_code a b) = none → K (some (hw_I 0)) ([z_m_err, z_m_fed, z_m_wrong, z_m_letters, z_m_there, z_m_kind, z_m_word, z_m_from, z_m_to, z_m_tokens, z_m_names, z_m_vars, z_m_modules, z_m_commands, z_m_actions, z_m_target, z_m_phase, z_m_codes, z_m_deep, z_m_bool, 1, z_m_explored, z_m_states, z_m_choices, z_m_outcomes, z_m_problem], [z_m_text, z_m_nameFrom, z_m_nameSize, z_m_nameKind, z_m_nameValue, z_m_actionFrom, z_m_actionSize, z_m_commandModule, z_m_commandAction, z_m_guard, z_m_updates, z_m_over, z_m_under, z_m_setTo, z_m_code, z_m_firstChoice, z_m_firstOutcome, z_m_goesTo, z_m_taken, z_m_step, z_m_chosen, z_m_isTarget, z_m_holds, z_m_above, z_m_below, z_m_solved, z_m_known, z_m_zero, z_m_policy, z_m_unknown, z_m_index, z_m_got, z_m_set, sk, z_m_now, z_m_next, z_m_value, z_m_octets, z_m_varModule, z_m_low, z_m_high, z_m_first, z_m_isBool], [z_nn], [z_dg])) : hw_C pg_G pg_TT scr (hm_T kof own) (d + 3) 224 [hw_R 2 0, hw_I a] ([z_m_err, z_m_fed, z_m_wrong, z_m_letters, z_m_there, z_m_kind, z_m_word, z_m_from, z_m_to, z_m_tokens, z_m_names, z_m_vars, z_m_modules, z_m_commands, z_m_actions, z_m_target, z_m_phase, z_m_codes, z_m_deep, z_m_bool, z_m_broken, z_m_explored, z_m_states, z_m_choices, z_m_outcomes, z_m_problem], [z_m_text, z_m_nameFrom, z_m_nameSize, z_m_nameKind, z_m_nameValue, z_m_actionFrom, z_m_actionSize, z_m_commandModule, z_m_commandAction, z_m_guard, z_m_updates, z_m_over, z_m_under, z_m_setTo, z_m_code, z_m_firstChoice, z_m_firstOutcome, z_m_goesTo, z_m_taken, z_m_step, z_m_chosen, z_m_isTarget, z_m_holds, z_m_above, z_m_below, z_m_solved, z_m_known, z_m_zero, z_m_policy, z_m_unknown, z_m_index, z_m_got, z_m_set, z_m_stack, z_m_now, z_m_next, z_m_value, z_m_octets, z_m_varModule, z_m_low, z_m_high, z_m_first, z_m_isBool], [z_nn], [z_dg]) K E := by
  refine hw_meth hU hv_DG ⟨rfl, rfl⟩ (fun w X hs hX hF => ?_)
  have cuts : ∀ n : Nat, (∀ (k nn_ : Int) (sk : Int → Int) (ula0 ula1 : Option hw_V), utl z_m_code a b sk k nn_ → 0 ≤ k → k ≤ 7998 → 0 ≤ nn_ → nn_ ≤ 170 → (100000 - k).toNat < n → w (9, [some (hw_R 2 0), some (hw_I (a)), some (hw_I (k)), some (hw_I (nn_)), ula0, ula1], [], ([z_m_err, z_m_fed, z_m_wrong, z_m_letters, z_m_there, z_m_kind, z_m_word, z_m_from, z_m_to, z_m_tokens, z_m_names, z_m_vars, z_m_modules, z_m_commands, z_m_actions, z_m_target, z_m_phase, z_m_codes, z_m_deep, z_m_bool, 0, z_m_explored, z_m_states, z_m_choices, z_m_outcomes, z_m_problem], [z_m_text, z_m_nameFrom, z_m_nameSize, z_m_nameKind, z_m_nameValue, z_m_actionFrom, z_m_actionSize, z_m_commandModule, z_m_commandAction, z_m_guard, z_m_updates, z_m_over, z_m_under, z_m_setTo, z_m_code, z_m_firstChoice, z_m_firstOutcome, z_m_goesTo, z_m_taken, z_m_step, z_m_chosen, z_m_isTarget, z_m_holds, z_m_above, z_m_below, z_m_solved, z_m_known, z_m_zero, z_m_policy, z_m_unknown, z_m_index, z_m_got, z_m_set, sk, z_m_now, z_m_next, z_m_value, z_m_octets, z_m_varModule, z_m_low, z_m_high, z_m_first, z_m_isBool], [z_nn], [z_dg]))) ∧ (∀ (k nn_ : Int) (sk : Int → Int) (ulb0 ulb1 : Option hw_V), 0 ≤ k → k ≤ 7998 → yval (uC z_m_code a b) = none → ((7 : Int)).toNat < n → w (9, [some (hw_R 2 0), some (hw_I (a)), some (hw_I (k)), some (hw_I (nn_)), ulb0, ulb1], [], ([z_m_err, z_m_fed, z_m_wrong, z_m_letters, z_m_there, z_m_kind, z_m_word, z_m_from, z_m_to, z_m_tokens, z_m_names, z_m_vars, z_m_modules, z_m_commands, z_m_actions, z_m_target, z_m_phase, z_m_codes, z_m_deep, z_m_bool, 1, z_m_explored, z_m_states, z_m_choices, z_m_outcomes, z_m_problem], [z_m_text, z_m_nameFrom, z_m_nameSize, z_m_nameKind, z_m_nameValue, z_m_actionFrom, z_m_actionSize, z_m_commandModule, z_m_commandAction, z_m_guard, z_m_updates, z_m_over, z_m_under, z_m_setTo, z_m_code, z_m_firstChoice, z_m_firstOutcome, z_m_goesTo, z_m_taken, z_m_step, z_m_chosen, z_m_isTarget, z_m_holds, z_m_above, z_m_below, z_m_solved, z_m_known, z_m_zero, z_m_policy, z_m_unknown, z_m_index, z_m_got, z_m_set, sk, z_m_now, z_m_next, z_m_value, z_m_octets, z_m_varModule, z_m_low, z_m_high, z_m_first, z_m_isBool], [z_nn], [z_dg]))) := by
    intro n
    induction n with
    | zero =>
      repeat' (first | refine And.intro ?_ ?_ | intro _)
      all_goals omega
    | succ n ih =>
      obtain ⟨ih0, ih1⟩ := ih
      refine ⟨?_, ?_⟩
      · intro k nn_ sk
        intros
        refine hF (L' := [some _, some _, some _, some _, none, none]) (by repeat' (first | exact True.intro | refine And.intro rfl ?_)) ?_
        refine hs [] _ rfl ?_
        conv => whnf
        repeat' (first | refine hw_ex32 ⟨by omega, by omega⟩ ?_ | (intro h; exact absurd h (by decide)) | intro _ | refine And.intro ?_ ?_ | (refine hs [9, 9] _ rfl ?_; conv => whnf) | apply ih0 | apply ih1 | apply hK | apply hK1 | (apply hX; refine u_fit hU ?_ ?_ ?_) | (apply hX; refine u_two hU ?_ ?_ ?_ ?_ ?_))
        (all_goals clear ih0 ih1); all_goals (first | with_reducible exact Nat.lt_succ_self _ | with_reducible assumption | omega | (have B := utl_b (by with_reducible assumption); omega) | (have B := utl_b (by with_reducible assumption); have N1 := utl_n1 (by with_reducible assumption) (by omega); omega) | (have B := utl_b (by with_reducible assumption); have OP := utl_ops (by with_reducible assumption); first | omega | (have N2 := (utl_2 (by with_reducible assumption) (by omega)).1; omega)) | (have B := utl_b (by with_reducible assumption); have JB := utl_jb (by with_reducible assumption) (by omega); omega) | (exact (utl_no1 (by with_reducible assumption) (by omega)).elim) | (have NT := utl_not (by with_reducible assumption) (by omega) rfl rfl rfl; omega) | (with_reducible exact utl_0 hA hB hC) | (with_reducible exact (utl_e (by with_reducible assumption) (by omega)).1) | (with_reducible exact utl_p (by with_reducible assumption) (by omega) rfl (by omega) (by omega)) | (with_reducible exact utl_not1 (by with_reducible assumption) (by omega) (by omega) (by omega) (by omega)) | (with_reducible exact utl_neg (by with_reducible assumption) (by omega) (by omega) (yjm_neg (by with_reducible assumption) (by omega)) (by omega)) | (with_reducible exact utl_negn (by with_reducible assumption) (by omega) (p := _) rfl (yjm_neg (by with_reducible assumption) (by omega))) | (with_reducible exact (utl_go (by with_reducible assumption) (by omega) (by omega)).1) | (with_reducible exact utl_16a (by with_reducible assumption) (by omega) rfl (by omega) (by omega) (by omega)) | (with_reducible exact utl_16b (by with_reducible assumption) (by omega) rfl (by omega) (by omega) (by omega)) | (with_reducible exact utl_17b (by with_reducible assumption) (by omega) rfl (by omega) (by omega) (by omega)) | (with_reducible exact utl_18b (by with_reducible assumption) (by omega) rfl (by omega) (by omega) (by omega)) | (with_reducible exact utl_19b (by with_reducible assumption) (by omega) rfl (by omega) (by omega) (by omega)) | (with_reducible exact utl_17a (by with_reducible assumption) (by omega) rfl (by omega) (by omega)) | (with_reducible exact utl_18a (by with_reducible assumption) (by omega) rfl (by omega) (by omega)) | (with_reducible exact utl_19a (by with_reducible assumption) (by omega) rfl (by omega) (by omega)) | (have OP := utl_ops (by with_reducible assumption); with_reducible exact utl_bs (by with_reducible assumption) (by with_reducible assumption) rfl (by omega) (by omega) (by omega) (by omega) (by omega)) | (have OP := utl_ops (by with_reducible assumption); with_reducible exact utl_bn (by with_reducible assumption) (by with_reducible assumption) rfl (by omega) (by omega) (by omega)) | (exfalso; have OP := utl_ops (by with_reducible assumption); omega) | (with_reducible exact utl_16a (by with_reducible assumption) (by omega) (p := nn_ + -1) (by omega) (by omega) (by omega) (by omega)) | (with_reducible exact utl_16b (by with_reducible assumption) (by omega) (p := nn_ + -1) (by omega) (by omega) (by omega) (by omega)) | (have NT := utl_not (p := nn_ - 1) (by with_reducible assumption) (by omega) rfl rfl rfl; with_reducible exact utl_not1 (by with_reducible assumption) (by omega) rfl (by omega) (by omega)) | (have B := utl_b (utl_p (by with_reducible assumption) (by omega) rfl rfl rfl); omega) | (clear hs hX hF hK hK1; fail))
      · intro k nn_ sk
        intros
        refine hF (L' := [some _, some _, some _, some _, none, none]) (by repeat' (first | exact True.intro | refine And.intro rfl ?_)) ?_
        refine hs [] _ rfl ?_
        conv => whnf
        repeat' (first | refine hw_ex32 ⟨by omega, by omega⟩ ?_ | (intro h; exact absurd h (by decide)) | intro _ | refine And.intro ?_ ?_ | (refine hs [9, 9] _ rfl ?_; conv => whnf) | apply ih0 | apply ih1 | apply hK | apply hK1 | (apply hX; refine u_fit hU ?_ ?_ ?_) | (apply hX; refine u_two hU ?_ ?_ ?_ ?_ ?_))
        (all_goals clear ih0 ih1); all_goals (first | with_reducible exact Nat.lt_succ_self _ | with_reducible assumption | omega | (have B := utl_b (by with_reducible assumption); omega) | (have B := utl_b (by with_reducible assumption); have N1 := utl_n1 (by with_reducible assumption) (by omega); omega) | (have B := utl_b (by with_reducible assumption); have OP := utl_ops (by with_reducible assumption); first | omega | (have N2 := (utl_2 (by with_reducible assumption) (by omega)).1; omega)) | (have B := utl_b (by with_reducible assumption); have JB := utl_jb (by with_reducible assumption) (by omega); omega) | (exact (utl_no1 (by with_reducible assumption) (by omega)).elim) | (have NT := utl_not (by with_reducible assumption) (by omega) rfl rfl rfl; omega) | (with_reducible exact utl_0 hA hB hC) | (with_reducible exact (utl_e (by with_reducible assumption) (by omega)).1) | (with_reducible exact utl_p (by with_reducible assumption) (by omega) rfl (by omega) (by omega)) | (with_reducible exact utl_not1 (by with_reducible assumption) (by omega) (by omega) (by omega) (by omega)) | (with_reducible exact utl_neg (by with_reducible assumption) (by omega) (by omega) (yjm_neg (by with_reducible assumption) (by omega)) (by omega)) | (with_reducible exact utl_negn (by with_reducible assumption) (by omega) (p := _) rfl (yjm_neg (by with_reducible assumption) (by omega))) | (with_reducible exact (utl_go (by with_reducible assumption) (by omega) (by omega)).1) | (with_reducible exact utl_16a (by with_reducible assumption) (by omega) rfl (by omega) (by omega) (by omega)) | (with_reducible exact utl_16b (by with_reducible assumption) (by omega) rfl (by omega) (by omega) (by omega)) | (with_reducible exact utl_17b (by with_reducible assumption) (by omega) rfl (by omega) (by omega) (by omega)) | (with_reducible exact utl_18b (by with_reducible assumption) (by omega) rfl (by omega) (by omega) (by omega)) | (with_reducible exact utl_19b (by with_reducible assumption) (by omega) rfl (by omega) (by omega) (by omega)) | (with_reducible exact utl_17a (by with_reducible assumption) (by omega) rfl (by omega) (by omega)) | (with_reducible exact utl_18a (by with_reducible assumption) (by omega) rfl (by omega) (by omega)) | (with_reducible exact utl_19a (by with_reducible assumption) (by omega) rfl (by omega) (by omega)) | (have OP := utl_ops (by with_reducible assumption); with_reducible exact utl_bs (by with_reducible assumption) (by with_reducible assumption) rfl (by omega) (by omega) (by omega) (by omega) (by omega)) | (have OP := utl_ops (by with_reducible assumption); with_reducible exact utl_bn (by with_reducible assumption) (by with_reducible assumption) rfl (by omega) (by omega) (by omega)) | (exfalso; have OP := utl_ops (by with_reducible assumption); omega) | (with_reducible exact utl_16a (by with_reducible assumption) (by omega) (p := nn_ + -1) (by omega) (by omega) (by omega) (by omega)) | (with_reducible exact utl_16b (by with_reducible assumption) (by omega) (p := nn_ + -1) (by omega) (by omega) (by omega) (by omega)) | (have NT := utl_not (p := nn_ - 1) (by with_reducible assumption) (by omega) rfl rfl rfl; with_reducible exact utl_not1 (by with_reducible assumption) (by omega) rfl (by omega) (by omega)) | (have B := utl_b (utl_p (by with_reducible assumption) (by omega) rfl rfl rfl); omega) | (clear hs hX hF hK hK1; fail))
  repeat' (first | refine hw_ex32 ⟨by omega, by omega⟩ ?_ | (intro h; exact absurd h (by decide)) | intro _ | refine And.intro ?_ ?_ | (refine hs [9, 9] _ rfl ?_; conv => whnf) | apply (cuts _).1 | apply (cuts _).2 | apply hK | apply hK1 | (apply hX; refine u_fit hU ?_ ?_ ?_) | (apply hX; refine u_two hU ?_ ?_ ?_ ?_ ?_))
  all_goals (first | with_reducible exact Nat.lt_succ_self _ | with_reducible assumption | omega | (have B := utl_b (by with_reducible assumption); omega) | (have B := utl_b (by with_reducible assumption); have N1 := utl_n1 (by with_reducible assumption) (by omega); omega) | (have B := utl_b (by with_reducible assumption); have OP := utl_ops (by with_reducible assumption); first | omega | (have N2 := (utl_2 (by with_reducible assumption) (by omega)).1; omega)) | (have B := utl_b (by with_reducible assumption); have JB := utl_jb (by with_reducible assumption) (by omega); omega) | (exact (utl_no1 (by with_reducible assumption) (by omega)).elim) | (have NT := utl_not (by with_reducible assumption) (by omega) rfl rfl rfl; omega) | (with_reducible exact utl_0 hA hB hC) | (with_reducible exact (utl_e (by with_reducible assumption) (by omega)).1) | (with_reducible exact utl_p (by with_reducible assumption) (by omega) rfl (by omega) (by omega)) | (with_reducible exact utl_not1 (by with_reducible assumption) (by omega) (by omega) (by omega) (by omega)) | (with_reducible exact utl_neg (by with_reducible assumption) (by omega) (by omega) (yjm_neg (by with_reducible assumption) (by omega)) (by omega)) | (with_reducible exact utl_negn (by with_reducible assumption) (by omega) (p := _) rfl (yjm_neg (by with_reducible assumption) (by omega))) | (with_reducible exact (utl_go (by with_reducible assumption) (by omega) (by omega)).1) | (with_reducible exact utl_16a (by with_reducible assumption) (by omega) rfl (by omega) (by omega) (by omega)) | (with_reducible exact utl_16b (by with_reducible assumption) (by omega) rfl (by omega) (by omega) (by omega)) | (with_reducible exact utl_17b (by with_reducible assumption) (by omega) rfl (by omega) (by omega) (by omega)) | (with_reducible exact utl_18b (by with_reducible assumption) (by omega) rfl (by omega) (by omega) (by omega)) | (with_reducible exact utl_19b (by with_reducible assumption) (by omega) rfl (by omega) (by omega) (by omega)) | (with_reducible exact utl_17a (by with_reducible assumption) (by omega) rfl (by omega) (by omega)) | (with_reducible exact utl_18a (by with_reducible assumption) (by omega) rfl (by omega) (by omega)) | (with_reducible exact utl_19a (by with_reducible assumption) (by omega) rfl (by omega) (by omega)) | (have OP := utl_ops (by with_reducible assumption); with_reducible exact utl_bs (by with_reducible assumption) (by with_reducible assumption) rfl (by omega) (by omega) (by omega) (by omega) (by omega)) | (have OP := utl_ops (by with_reducible assumption); with_reducible exact utl_bn (by with_reducible assumption) (by with_reducible assumption) rfl (by omega) (by omega) (by omega)) | (exfalso; have OP := utl_ops (by with_reducible assumption); omega) | (with_reducible exact utl_16a (by with_reducible assumption) (by omega) (p := nn_ + -1) (by omega) (by omega) (by omega) (by omega)) | (with_reducible exact utl_16b (by with_reducible assumption) (by omega) (p := nn_ + -1) (by omega) (by omega) (by omega) (by omega)) | (have NT := utl_not (p := nn_ - 1) (by with_reducible assumption) (by omega) rfl rfl rfl; with_reducible exact utl_not1 (by with_reducible assumption) (by omega) rfl (by omega) (by omega)) | (have B := utl_b (utl_p (by with_reducible assumption) (by omega) rfl rfl rfl); omega) | (clear hs hX hF hK hK1; fail))
end CY5a
