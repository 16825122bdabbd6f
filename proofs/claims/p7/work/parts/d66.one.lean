/-! the model: the chances of a command are 1 together -/
section C66
variable {scr : Nat × (Nat → Int32)} {d : Nat} {K : Option hw_V → hw_Z → Prop} {E : Nat → hw_Z → Prop} {Z : hw_Z} {kof : Nat → Nat × Int} {own : Nat → Prop} {z_m_err z_m_fed z_m_wrong z_m_letters z_m_there z_m_kind z_m_word z_m_from z_m_to z_m_tokens z_m_names z_m_vars z_m_modules z_m_commands z_m_actions z_m_target z_m_phase z_m_codes z_m_deep z_m_bool z_m_broken z_m_explored z_m_states z_m_choices z_m_outcomes z_m_problem : Int} {z_m_text z_m_nameFrom z_m_nameSize z_m_nameKind z_m_nameValue z_m_actionFrom z_m_actionSize z_m_commandModule z_m_commandAction z_m_guard z_m_updates z_m_over z_m_under z_m_setTo z_m_code z_m_firstChoice z_m_firstOutcome z_m_goesTo z_m_taken z_m_step z_m_chosen z_m_isTarget z_m_holds z_m_above z_m_below z_m_solved z_m_known z_m_zero z_m_policy z_m_unknown z_m_index z_m_got z_m_set z_m_stack z_m_now z_m_next z_m_value z_m_octets z_m_varModule z_m_low z_m_high z_m_first z_m_isBool z_nn : Int → Int} {z_dg : Int → Int → Int}
def pu (f : Int → Int) (b : Int) : Nat → Int
  | 0 => 1
  | n + 1 => pu f b n * f (b + n)
def su (v f : Int → Int) (b A : Int) : Nat → Int
  | 0 => 0
  | n + 1 => su v f b A n + A / f (b + n) * v (b + n)
/-- chances, each a fraction of small numbers -/
def ch1 (v f : Int → Int) (b u : Int) : Prop := ∃ _ : Unit, ∀ j : Int, 0 ≤ j → j < u → 1 ≤ v (b + j) ∧ v (b + j) ≤ f (b + j) ∧ f (b + j) ≤ 1000
theorem c1_e {v f : Int → Int} {b u j : Int} (h : ch1 v f b u) (h1 : 0 ≤ j) (h2 : j < u) : 1 ≤ v (b + j) ∧ v (b + j) ≤ f (b + j) ∧ f (b + j) ≤ 1000 := h.elim fun _ h => h j h1 h2
theorem c1_u {v f : Int → Int} {b u j x y g : Int} (h : ch1 v f b u) (h1 : 0 ≤ j) (h2 : j < u) (hg : g = gd (v (b + j)) (f (b + j))) (hx : x = v (b + j) / g) (hy : y = f (b + j) / g) : ch1 (hw_up v (b + j) x) (hw_up f (b + j) y) b u := by
  have h3 := c1_e h h1 h2
  have g1 := gd_pos (a := v (b + j)) (b := f (b + j)) (by omega)
  have g2 := gd_le (a := v (b + j)) (b := f (b + j)) (by omega)
  rw [← hg] at g1 g2
  have h4 : 1 ≤ v (b + j) / g := Int.le_ediv_of_mul_le (by omega) (by omega)
  have h5 : v (b + j) / g ≤ f (b + j) / g := Int.ediv_le_ediv (by omega) h3.2.1
  have h6 := Int.ediv_le_self (a := f (b + j)) g (by omega)
  refine h.elim fun _ h => ⟨(), fun i q1 q2 => ?_⟩
  by_cases e : i = j
  · subst e
    rw [hw_up_s, hw_up_s]
    omega
  · rw [hw_up_n (by omega), hw_up_n (by omega)]
    exact h i q1 q2
def ov_ok (v f p q : Int → Int) (b : Int) : Prop := ∃ _ : Unit, ∀ i : Int, i < b ∨ b + 6 ≤ i → v i = p i ∧ f i = q i
theorem ov_0 {v f : Int → Int} {b : Int} : ov_ok v f v f b := ⟨(), fun _ _ => ⟨rfl, rfl⟩⟩
theorem ov_u {v f p q : Int → Int} {b j x y : Int} (h : ov_ok v f p q b) (hj : 0 ≤ j ∧ j < 6) : ov_ok (hw_up v (b + j) x) (hw_up f (b + j) y) p q b := h.elim fun _ h => ⟨(), fun i hi => ⟨(hw_up_n (by omega)).trans (h i hi).1, (hw_up_n (by omega)).trans (h i hi).2⟩⟩
/-- each divides what it was -/
def dv_ok (f g : Int → Int) : Prop := ∃ _ : Unit, ∀ i : Int, f i ∣ g i
theorem dv_0 {f : Int → Int} : dv_ok f f := ⟨(), fun i => Int.dvd_refl (f i)⟩
theorem dv_u {v f p : Int → Int} {b j y g : Int} (h : dv_ok f p) (hc : 1 ≤ v (b + j) ∧ v (b + j) ≤ f (b + j) ∧ f (b + j) ≤ 1000) (hg : g = gd (v (b + j)) (f (b + j))) (hy : y = f (b + j) / g) : dv_ok (hw_up f (b + j) y) p := h.elim fun _ h => ⟨(), fun i => by
  by_cases e : i = b + j
  · subst e
    have g1 := gd_pos (a := v (b + j)) (b := f (b + j)) hc.1
    have g2 := (gd_dl (a := v (b + j)) (b := f (b + j)) (by omega) (by omega)).2
    rw [← hg] at g1 g2
    obtain ⟨c, h1⟩ := g2
    have h2 : y = c := by rw [hy, h1]; exact Int.mul_ediv_cancel_left c (by omega)
    rw [hw_up_s, h2]
    exact Int.dvd_trans ⟨g, by rw [h1, Int.mul_comm]⟩ (h (b + j))
  · rw [hw_up_n e]; exact h i⟩
def pr1 (f : Int → Int) (b j A : Int) : Prop := ∃ n : Nat, j = n ∧ A = pu f b n ∧ 1 ≤ A ∧ A ≤ 1000 ^ n
theorem p1_0 {f : Int → Int} {b : Int} : pr1 f b 0 1 := ⟨0, rfl, rfl, by decide, by decide⟩
theorem p1_e {f : Int → Int} {b j A p : Int} (h : pr1 f b j A) (hp : p = j) : pr1 f b p A := hp ▸ h
theorem p1_b {f : Int → Int} {b j A : Int} (h : pr1 f b j A) (hj : j ≤ 6) : 1 ≤ A ∧ A ≤ 1000000000000000000 := by
  obtain ⟨n, h1, h2, h3, h4⟩ := h
  have h5 := (in_pow (B := 1000) (by decide) (show n ≤ 6 by omega)).1
  have e : (1000 : Int) ^ 6 = 1000000000000000000 := by decide
  omega
theorem p1_s {f : Int → Int} {b j A z q p : Int} (h : pr1 f b j A) (hz : z = A * f (b + j) + 18446744073709551616 * q) (hr : -9223372036854775808 ≤ z ∧ z ≤ 9223372036854775807) (hf : 1 ≤ f (b + j) ∧ f (b + j) ≤ 1000) (hj : j ≤ 5) (hp : p = j + 1) : pr1 f b p z := by
  subst hp
  obtain ⟨n, rfl, rfl, h3, h4⟩ := h
  have a1 := Int.mul_le_mul_of_nonneg_left hf.2 (by omega : 0 ≤ pu f b n)
  have a2 := Int.mul_le_mul_of_nonneg_left hf.1 (by omega : 0 ≤ pu f b n)
  have a3 := (in_pow (B := 1000) (by decide) (show n ≤ 5 by omega)).1
  have e : (1000 : Int) ^ 5 = 1000000000000000 := by decide
  have e2 : z = pu f b n * f (b + n) := by omega
  refine ⟨n + 1, by omega, e2, by omega, ?_⟩
  rw [Int.pow_succ]
  omega
def su1 (v f : Int → Int) (b A j S : Int) : Prop := ∃ n : Nat, j = n ∧ S = su v f b A n ∧ 0 ≤ S ∧ S ≤ n * 1000000000000000000
theorem s1_0 {v f : Int → Int} {b A : Int} : su1 v f b A 0 0 := ⟨0, rfl, rfl, by omega, by omega⟩
theorem s1_s {v f : Int → Int} {b A j S w x z q r p : Int} (h : su1 v f b A j S) (hw : 0 ≤ A → 0 < f (b + j) → w = A / f (b + j) ∧ 0 ≤ w ∧ w ≤ A) (hx : x = w * v (b + j) + 18446744073709551616 * q) (hxr : -9223372036854775808 ≤ x ∧ x ≤ 9223372036854775807) (hz : z = S + x + 18446744073709551616 * r) (hzr : -9223372036854775808 ≤ z ∧ z ≤ 9223372036854775807) (hA : 1 ≤ A ∧ A ≤ 1000000000000000000) (hv : 1 ≤ v (b + j) ∧ v (b + j) ≤ f (b + j)) (hj : j ≤ 5) (hp : p = j + 1) : su1 v f b A p z := by
  subst hp
  obtain ⟨n, rfl, rfl, h3, h4⟩ := h
  have h5 := hw (by omega) (by omega)
  have a1 := Int.mul_le_mul_of_nonneg_left hv.2 h5.2.1
  have a2 : w * f (b + n) ≤ A := by rw [h5.1]; exact Int.ediv_mul_le A (by omega)
  have a3 := Int.mul_nonneg h5.2.1 (by omega : 0 ≤ v (b + n))
  have e1 : x = w * v (b + n) := by omega
  have e2 : z = su v f b A n + w * v (b + n) := by omega
  refine ⟨n + 1, by omega, ?_, by omega, by omega⟩
  rw [e2, h5.1]
  rfl
theorem s1_b {v f : Int → Int} {b A j S : Int} (h : su1 v f b A j S) (hj : j ≤ 6) : 0 ≤ S ∧ S ≤ 6000000000000000000 := by
  obtain ⟨n, h1, h2, h3, h4⟩ := h
  omega
/-- the chances are 1 together -/
def on_ok (v f : Int → Int) (b u : Int) : Prop := ∃ n : Nat, u = n ∧ su v f b (pu f b n) n = pu f b n
theorem on_i {v f : Int → Int} {b u i j A S : Int} (h : su1 v f b A j S) (h1 : pr1 f b i A) (hj : j = u) (hi : i = u) (hS : S = A) : on_ok v f b u := by
  obtain ⟨n, e1, e2, _⟩ := h
  obtain ⟨m, e3, e4, _⟩ := h1
  obtain rfl : n = m := by omega
  refine ⟨n, by omega, ?_⟩
  rw [← e4, ← e2, hS]
set_option maxHeartbeats 4000000 in
theorem e_isOne (hU : hw_U (hm_T kof own)) {k : Int} (hk : 0 ≤ k ∧ k ≤ 39) (hu : 1 ≤ z_m_updates k ∧ z_m_updates k ≤ 6) (hc : ch1 z_m_over z_m_under (k * 6) (z_m_updates k)) (hK : ∀ (v f : Int → Int), ch1 v f (k * 6) (z_m_updates k) → ov_ok v f z_m_over z_m_under (k * 6) → dv_ok f z_m_under → on_ok v f (k * 6) (z_m_updates k) → K (some (hw_I 1)) ([z_m_err, z_m_fed, z_m_wrong, z_m_letters, z_m_there, z_m_kind, z_m_word, z_m_from, z_m_to, z_m_tokens, z_m_names, z_m_vars, z_m_modules, z_m_commands, z_m_actions, z_m_target, z_m_phase, z_m_codes, z_m_deep, z_m_bool, z_m_broken, z_m_explored, z_m_states, z_m_choices, z_m_outcomes, z_m_problem], [z_m_text, z_m_nameFrom, z_m_nameSize, z_m_nameKind, z_m_nameValue, z_m_actionFrom, z_m_actionSize, z_m_commandModule, z_m_commandAction, z_m_guard, z_m_updates, v, f, z_m_setTo, z_m_code, z_m_firstChoice, z_m_firstOutcome, z_m_goesTo, z_m_taken, z_m_step, z_m_chosen, z_m_isTarget, z_m_holds, z_m_above, z_m_below, z_m_solved, z_m_known, z_m_zero, z_m_policy, z_m_unknown, z_m_index, z_m_got, z_m_set, z_m_stack, z_m_now, z_m_next, z_m_value, z_m_octets, z_m_varModule, z_m_low, z_m_high, z_m_first, z_m_isBool], [z_nn], [z_dg])) (hK1 : ∀ (v f : Int → Int), ch1 v f (k * 6) (z_m_updates k) → ov_ok v f z_m_over z_m_under (k * 6) → dv_ok f z_m_under → K (some (hw_I 0)) ([z_m_err, z_m_fed, z_m_wrong, z_m_letters, z_m_there, z_m_kind, z_m_word, z_m_from, z_m_to, z_m_tokens, z_m_names, z_m_vars, z_m_modules, z_m_commands, z_m_actions, z_m_target, z_m_phase, z_m_codes, z_m_deep, z_m_bool, z_m_broken, z_m_explored, z_m_states, z_m_choices, z_m_outcomes, z_m_problem], [z_m_text, z_m_nameFrom, z_m_nameSize, z_m_nameKind, z_m_nameValue, z_m_actionFrom, z_m_actionSize, z_m_commandModule, z_m_commandAction, z_m_guard, z_m_updates, v, f, z_m_setTo, z_m_code, z_m_firstChoice, z_m_firstOutcome, z_m_goesTo, z_m_taken, z_m_step, z_m_chosen, z_m_isTarget, z_m_holds, z_m_above, z_m_below, z_m_solved, z_m_known, z_m_zero, z_m_policy, z_m_unknown, z_m_index, z_m_got, z_m_set, z_m_stack, z_m_now, z_m_next, z_m_value, z_m_octets, z_m_varModule, z_m_low, z_m_high, z_m_first, z_m_isBool], [z_nn], [z_dg])) : hw_C pg_G pg_TT scr (hm_T kof own) (d + 2) 235 [hw_R 2 0, hw_I k] ([z_m_err, z_m_fed, z_m_wrong, z_m_letters, z_m_there, z_m_kind, z_m_word, z_m_from, z_m_to, z_m_tokens, z_m_names, z_m_vars, z_m_modules, z_m_commands, z_m_actions, z_m_target, z_m_phase, z_m_codes, z_m_deep, z_m_bool, z_m_broken, z_m_explored, z_m_states, z_m_choices, z_m_outcomes, z_m_problem], [z_m_text, z_m_nameFrom, z_m_nameSize, z_m_nameKind, z_m_nameValue, z_m_actionFrom, z_m_actionSize, z_m_commandModule, z_m_commandAction, z_m_guard, z_m_updates, z_m_over, z_m_under, z_m_setTo, z_m_code, z_m_firstChoice, z_m_firstOutcome, z_m_goesTo, z_m_taken, z_m_step, z_m_chosen, z_m_isTarget, z_m_holds, z_m_above, z_m_below, z_m_solved, z_m_known, z_m_zero, z_m_policy, z_m_unknown, z_m_index, z_m_got, z_m_set, z_m_stack, z_m_now, z_m_next, z_m_value, z_m_octets, z_m_varModule, z_m_low, z_m_high, z_m_first, z_m_isBool], [z_nn], [z_dg]) K E := by
  refine hw_meth hU hv_DG ⟨rfl, rfl⟩ (fun w X hs hX hF => ?_)
  have cuts : ∀ n : Nat, (∀ (j : Int) (v f : Int → Int) (ula0 ula1 ula2 ula3 : Option hw_V), 0 ≤ j → j ≤ z_m_updates k → ch1 v f (k * 6) (z_m_updates k) → ov_ok v f z_m_over z_m_under (k * 6) → dv_ok f z_m_under → (5000 - j).toNat < n → w (2, [some (hw_R 2 0), some (hw_I (k)), some (hw_I (j)), ula0, ula1, ula2, ula3], [], ([z_m_err, z_m_fed, z_m_wrong, z_m_letters, z_m_there, z_m_kind, z_m_word, z_m_from, z_m_to, z_m_tokens, z_m_names, z_m_vars, z_m_modules, z_m_commands, z_m_actions, z_m_target, z_m_phase, z_m_codes, z_m_deep, z_m_bool, z_m_broken, z_m_explored, z_m_states, z_m_choices, z_m_outcomes, z_m_problem], [z_m_text, z_m_nameFrom, z_m_nameSize, z_m_nameKind, z_m_nameValue, z_m_actionFrom, z_m_actionSize, z_m_commandModule, z_m_commandAction, z_m_guard, z_m_updates, v, f, z_m_setTo, z_m_code, z_m_firstChoice, z_m_firstOutcome, z_m_goesTo, z_m_taken, z_m_step, z_m_chosen, z_m_isTarget, z_m_holds, z_m_above, z_m_below, z_m_solved, z_m_known, z_m_zero, z_m_policy, z_m_unknown, z_m_index, z_m_got, z_m_set, z_m_stack, z_m_now, z_m_next, z_m_value, z_m_octets, z_m_varModule, z_m_low, z_m_high, z_m_first, z_m_isBool], [z_nn], [z_dg]))) ∧ (∀ (A j : Int) (v f : Int → Int), 0 ≤ j → j ≤ z_m_updates k → ch1 v f (k * 6) (z_m_updates k) → ov_ok v f z_m_over z_m_under (k * 6) → dv_ok f z_m_under → pr1 f (k * 6) j A → (4000 - j).toNat < n → w (72, [some (hw_R 2 0), some (hw_I (k)), some (hw_J (A)), none, some (hw_J (0)), none, some (hw_I (j))], [], ([z_m_err, z_m_fed, z_m_wrong, z_m_letters, z_m_there, z_m_kind, z_m_word, z_m_from, z_m_to, z_m_tokens, z_m_names, z_m_vars, z_m_modules, z_m_commands, z_m_actions, z_m_target, z_m_phase, z_m_codes, z_m_deep, z_m_bool, z_m_broken, z_m_explored, z_m_states, z_m_choices, z_m_outcomes, z_m_problem], [z_m_text, z_m_nameFrom, z_m_nameSize, z_m_nameKind, z_m_nameValue, z_m_actionFrom, z_m_actionSize, z_m_commandModule, z_m_commandAction, z_m_guard, z_m_updates, v, f, z_m_setTo, z_m_code, z_m_firstChoice, z_m_firstOutcome, z_m_goesTo, z_m_taken, z_m_step, z_m_chosen, z_m_isTarget, z_m_holds, z_m_above, z_m_below, z_m_solved, z_m_known, z_m_zero, z_m_policy, z_m_unknown, z_m_index, z_m_got, z_m_set, z_m_stack, z_m_now, z_m_next, z_m_value, z_m_octets, z_m_varModule, z_m_low, z_m_high, z_m_first, z_m_isBool], [z_nn], [z_dg]))) ∧ (∀ (A S j : Int) (v f : Int → Int), 0 ≤ j → j ≤ z_m_updates k → ch1 v f (k * 6) (z_m_updates k) → ov_ok v f z_m_over z_m_under (k * 6) → dv_ok f z_m_under → pr1 f (k * 6) (z_m_updates k) A → 1 ≤ A → A ≤ 1000000000000000000 → su1 v f (k * 6) A j S → (3000 - j).toNat < n → w (108, [some (hw_R 2 0), some (hw_I (k)), some (hw_J (A)), none, some (hw_J (S)), none, some (hw_I (j))], [], ([z_m_err, z_m_fed, z_m_wrong, z_m_letters, z_m_there, z_m_kind, z_m_word, z_m_from, z_m_to, z_m_tokens, z_m_names, z_m_vars, z_m_modules, z_m_commands, z_m_actions, z_m_target, z_m_phase, z_m_codes, z_m_deep, z_m_bool, z_m_broken, z_m_explored, z_m_states, z_m_choices, z_m_outcomes, z_m_problem], [z_m_text, z_m_nameFrom, z_m_nameSize, z_m_nameKind, z_m_nameValue, z_m_actionFrom, z_m_actionSize, z_m_commandModule, z_m_commandAction, z_m_guard, z_m_updates, v, f, z_m_setTo, z_m_code, z_m_firstChoice, z_m_firstOutcome, z_m_goesTo, z_m_taken, z_m_step, z_m_chosen, z_m_isTarget, z_m_holds, z_m_above, z_m_below, z_m_solved, z_m_known, z_m_zero, z_m_policy, z_m_unknown, z_m_index, z_m_got, z_m_set, z_m_stack, z_m_now, z_m_next, z_m_value, z_m_octets, z_m_varModule, z_m_low, z_m_high, z_m_first, z_m_isBool], [z_nn], [z_dg]))) := by
    intro n
    induction n with
    | zero =>
      repeat' (first | refine And.intro ?_ ?_ | intro _)
      all_goals omega
    | succ n ih =>
      obtain ⟨ih0, ih1, ih2⟩ := ih
      refine ⟨?_, ?_, ?_⟩
      · intro j v f
        intros
        refine hF (L' := [some _, some _, some _, none, none, none, none]) (by repeat' (first | exact True.intro | refine And.intro rfl ?_)) ?_
        refine hs [] _ rfl ?_
        conv => whnf
        repeat' (first | refine hw_ex32 ⟨by omega, by omega⟩ ?_ | (intro h; exact absurd h (by decide)) | intro _ | refine And.intro ?_ ?_ | (refine hs [2, 72, 108] _ rfl ?_; conv => whnf) | apply ih0 | apply ih1 | apply ih2 | apply hK | apply hK1 | (apply hX; refine e_divisor hU ?_ ?_ ?_))
        (all_goals clear ih0 ih1 ih2); all_goals (first | with_reducible exact Nat.lt_succ_self _ | with_reducible assumption | omega | (with_reducible exact p1_e (by with_reducible assumption) (by omega)) | (with_reducible exact ov_0) | (with_reducible exact dv_0) | (with_reducible exact p1_0) | (with_reducible exact s1_0) | (have C := c1_e (j := j) (b := k * 6) (by with_reducible assumption) (by omega) (by omega); omega) | (with_reducible exact ov_u (by with_reducible assumption) (by omega)) | (have C := c1_e (j := j) (b := k * 6) (by with_reducible assumption) (by omega) (by omega); have g1 := gd_pos (a := v (k * 6 + j)) (b := f (k * 6 + j)) (by omega); first | omega | (have K1 : _ = gd (v (k * 6 + j)) (f (k * 6 + j)) := (by assumption); first | (with_reducible exact dv_u (by with_reducible assumption) C K1 (by omega)) | (with_reducible refine c1_u (j := j) (by with_reducible assumption) (by omega) (by omega) K1 ?_ ?_ <;> omega))) | (have PB := p1_b (by with_reducible assumption) (by omega); omega) | (have SB := s1_b (by with_reducible assumption) (by omega); omega) | (have C := c1_e (j := j) (b := k * 6) (by with_reducible assumption) (by omega) (by omega); with_reducible exact p1_s (by with_reducible assumption) (by with_reducible assumption) (by with_reducible assumption) (by omega) (by omega) (by omega)) | (have C := c1_e (j := j) (b := k * 6) (by with_reducible assumption) (by omega) (by omega); have T := p1_s (by with_reducible assumption) (by with_reducible assumption) (by with_reducible assumption) (by omega) (by omega) rfl; have PB := p1_b T (by omega); omega) | (have C := c1_e (j := j) (b := k * 6) (by with_reducible assumption) (by omega) (by omega); with_reducible exact s1_s (by with_reducible assumption) (by with_reducible assumption) (by with_reducible assumption) (by with_reducible assumption) (by with_reducible assumption) (by with_reducible assumption) (by omega) (by omega) (by omega) (by omega)) | (with_reducible exact on_i (by with_reducible assumption) (by with_reducible assumption) (by omega) (by omega) (by omega)) | (clear hs hX hF hK hK1; fail))
      · intro A j v f
        intros
        refine hs [] _ rfl ?_
        conv => whnf
        repeat' (first | refine hw_ex32 ⟨by omega, by omega⟩ ?_ | (intro h; exact absurd h (by decide)) | intro _ | refine And.intro ?_ ?_ | (refine hs [2, 72, 108] _ rfl ?_; conv => whnf) | apply ih0 | apply ih1 | apply ih2 | apply hK | apply hK1 | (apply hX; refine e_divisor hU ?_ ?_ ?_))
        (all_goals clear ih0 ih1 ih2); all_goals (first | with_reducible exact Nat.lt_succ_self _ | with_reducible assumption | omega | (with_reducible exact p1_e (by with_reducible assumption) (by omega)) | (with_reducible exact ov_0) | (with_reducible exact dv_0) | (with_reducible exact p1_0) | (with_reducible exact s1_0) | (have C := c1_e (j := j) (b := k * 6) (by with_reducible assumption) (by omega) (by omega); omega) | (with_reducible exact ov_u (by with_reducible assumption) (by omega)) | (have C := c1_e (j := j) (b := k * 6) (by with_reducible assumption) (by omega) (by omega); have g1 := gd_pos (a := v (k * 6 + j)) (b := f (k * 6 + j)) (by omega); first | omega | (have K1 : _ = gd (v (k * 6 + j)) (f (k * 6 + j)) := (by assumption); first | (with_reducible exact dv_u (by with_reducible assumption) C K1 (by omega)) | (with_reducible refine c1_u (j := j) (by with_reducible assumption) (by omega) (by omega) K1 ?_ ?_ <;> omega))) | (have PB := p1_b (by with_reducible assumption) (by omega); omega) | (have SB := s1_b (by with_reducible assumption) (by omega); omega) | (have C := c1_e (j := j) (b := k * 6) (by with_reducible assumption) (by omega) (by omega); with_reducible exact p1_s (by with_reducible assumption) (by with_reducible assumption) (by with_reducible assumption) (by omega) (by omega) (by omega)) | (have C := c1_e (j := j) (b := k * 6) (by with_reducible assumption) (by omega) (by omega); have T := p1_s (by with_reducible assumption) (by with_reducible assumption) (by with_reducible assumption) (by omega) (by omega) rfl; have PB := p1_b T (by omega); omega) | (have C := c1_e (j := j) (b := k * 6) (by with_reducible assumption) (by omega) (by omega); with_reducible exact s1_s (by with_reducible assumption) (by with_reducible assumption) (by with_reducible assumption) (by with_reducible assumption) (by with_reducible assumption) (by with_reducible assumption) (by omega) (by omega) (by omega) (by omega)) | (with_reducible exact on_i (by with_reducible assumption) (by with_reducible assumption) (by omega) (by omega) (by omega)) | (clear hs hX hF hK hK1; fail))
      · intro A S j v f
        intros
        refine hs [] _ rfl ?_
        conv => whnf
        repeat' (first | refine hw_ex32 ⟨by omega, by omega⟩ ?_ | (intro h; exact absurd h (by decide)) | intro _ | refine And.intro ?_ ?_ | (refine hs [2, 72, 108] _ rfl ?_; conv => whnf) | apply ih0 | apply ih1 | apply ih2 | apply hK | apply hK1 | (apply hX; refine e_divisor hU ?_ ?_ ?_))
        (all_goals clear ih0 ih1 ih2); all_goals (first | with_reducible exact Nat.lt_succ_self _ | with_reducible assumption | omega | (with_reducible exact p1_e (by with_reducible assumption) (by omega)) | (with_reducible exact ov_0) | (with_reducible exact dv_0) | (with_reducible exact p1_0) | (with_reducible exact s1_0) | (have C := c1_e (j := j) (b := k * 6) (by with_reducible assumption) (by omega) (by omega); omega) | (with_reducible exact ov_u (by with_reducible assumption) (by omega)) | (have C := c1_e (j := j) (b := k * 6) (by with_reducible assumption) (by omega) (by omega); have g1 := gd_pos (a := v (k * 6 + j)) (b := f (k * 6 + j)) (by omega); first | omega | (have K1 : _ = gd (v (k * 6 + j)) (f (k * 6 + j)) := (by assumption); first | (with_reducible exact dv_u (by with_reducible assumption) C K1 (by omega)) | (with_reducible refine c1_u (j := j) (by with_reducible assumption) (by omega) (by omega) K1 ?_ ?_ <;> omega))) | (have PB := p1_b (by with_reducible assumption) (by omega); omega) | (have SB := s1_b (by with_reducible assumption) (by omega); omega) | (have C := c1_e (j := j) (b := k * 6) (by with_reducible assumption) (by omega) (by omega); with_reducible exact p1_s (by with_reducible assumption) (by with_reducible assumption) (by with_reducible assumption) (by omega) (by omega) (by omega)) | (have C := c1_e (j := j) (b := k * 6) (by with_reducible assumption) (by omega) (by omega); have T := p1_s (by with_reducible assumption) (by with_reducible assumption) (by with_reducible assumption) (by omega) (by omega) rfl; have PB := p1_b T (by omega); omega) | (have C := c1_e (j := j) (b := k * 6) (by with_reducible assumption) (by omega) (by omega); with_reducible exact s1_s (by with_reducible assumption) (by with_reducible assumption) (by with_reducible assumption) (by with_reducible assumption) (by with_reducible assumption) (by with_reducible assumption) (by omega) (by omega) (by omega) (by omega)) | (with_reducible exact on_i (by with_reducible assumption) (by with_reducible assumption) (by omega) (by omega) (by omega)) | (clear hs hX hF hK hK1; fail))
  repeat' (first | refine hw_ex32 ⟨by omega, by omega⟩ ?_ | (intro h; exact absurd h (by decide)) | intro _ | refine And.intro ?_ ?_ | (refine hs [2, 72, 108] _ rfl ?_; conv => whnf) | apply (cuts _).1 | apply (cuts _).2.1 | apply (cuts _).2.2 | apply hK | apply hK1 | (apply hX; refine e_divisor hU ?_ ?_ ?_))
  all_goals (first | with_reducible exact Nat.lt_succ_self _ | with_reducible assumption | omega | (with_reducible exact p1_e (by with_reducible assumption) (by omega)) | (with_reducible exact ov_0) | (with_reducible exact dv_0) | (with_reducible exact p1_0) | (with_reducible exact s1_0) | (have C := c1_e (j := j) (b := k * 6) (by with_reducible assumption) (by omega) (by omega); omega) | (with_reducible exact ov_u (by with_reducible assumption) (by omega)) | (have C := c1_e (j := j) (b := k * 6) (by with_reducible assumption) (by omega) (by omega); have g1 := gd_pos (a := v (k * 6 + j)) (b := f (k * 6 + j)) (by omega); first | omega | (have K1 : _ = gd (v (k * 6 + j)) (f (k * 6 + j)) := (by assumption); first | (with_reducible exact dv_u (by with_reducible assumption) C K1 (by omega)) | (with_reducible refine c1_u (j := j) (by with_reducible assumption) (by omega) (by omega) K1 ?_ ?_ <;> omega))) | (have PB := p1_b (by with_reducible assumption) (by omega); omega) | (have SB := s1_b (by with_reducible assumption) (by omega); omega) | (have C := c1_e (j := j) (b := k * 6) (by with_reducible assumption) (by omega) (by omega); with_reducible exact p1_s (by with_reducible assumption) (by with_reducible assumption) (by with_reducible assumption) (by omega) (by omega) (by omega)) | (have C := c1_e (j := j) (b := k * 6) (by with_reducible assumption) (by omega) (by omega); have T := p1_s (by with_reducible assumption) (by with_reducible assumption) (by with_reducible assumption) (by omega) (by omega) rfl; have PB := p1_b T (by omega); omega) | (have C := c1_e (j := j) (b := k * 6) (by with_reducible assumption) (by omega) (by omega); with_reducible exact s1_s (by with_reducible assumption) (by with_reducible assumption) (by with_reducible assumption) (by with_reducible assumption) (by with_reducible assumption) (by with_reducible assumption) (by omega) (by omega) (by omega) (by omega)) | (with_reducible exact on_i (by with_reducible assumption) (by with_reducible assumption) (by omega) (by omega) (by omega)) | (clear hs hX hF hK hK1; fail))
end C66
