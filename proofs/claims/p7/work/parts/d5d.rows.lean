/-! the model: numbers kept in rows of digits -/
section C5d
variable {scr : Nat × (Nat → Int32)} {d : Nat} {K : Option hw_V → hw_Z → Prop} {E : Nat → hw_Z → Prop} {Z : hw_Z} {kof : Nat → Nat × Int} {own : Nat → Prop} {z_m_err z_m_fed z_m_wrong z_m_letters z_m_there z_m_kind z_m_word z_m_from z_m_to z_m_tokens z_m_names z_m_vars z_m_modules z_m_commands z_m_actions z_m_target z_m_phase z_m_codes z_m_deep z_m_bool z_m_broken z_m_explored z_m_states z_m_choices z_m_outcomes z_m_problem : Int} {z_m_text z_m_nameFrom z_m_nameSize z_m_nameKind z_m_nameValue z_m_actionFrom z_m_actionSize z_m_commandModule z_m_commandAction z_m_guard z_m_updates z_m_over z_m_under z_m_setTo z_m_code z_m_firstChoice z_m_firstOutcome z_m_goesTo z_m_taken z_m_step z_m_chosen z_m_isTarget z_m_holds z_m_above z_m_below z_m_solved z_m_known z_m_zero z_m_policy z_m_unknown z_m_index z_m_got z_m_set z_m_stack z_m_now z_m_next z_m_value z_m_octets z_m_varModule z_m_low z_m_high z_m_first z_m_isBool z_nn : Int → Int} {z_dg : Int → Int → Int}
theorem wa_i {p : Int → Int} {q : Int → Int → Int} {va : Int → Int} (h : wa_all p q va) (k : Int) : wh_is (p k) (q k) (va k) := h.elim fun _ h => h k
/-- the number kept at a place of a row of digits -/
def bw (A : Int → Int) (p : Int) : Int := wv (fun k => A (p + k)) 20
def ld_ok (A : Int → Int) (p : Int) (v : Int → Int) (k : Int) : Prop := ∃ t : Nat, k = t ∧ wd v t ∧ ∀ q : Int, 0 ≤ q → q < k → v q = A (p + q)
theorem ld_0 {A v : Int → Int} {p : Int} : ld_ok A p v 0 := ⟨0, rfl, fun i h => absurd h (Nat.not_lt_zero i), fun q h1 h2 => absurd h1 (by omega)⟩
theorem ld_s {A v : Int → Int} {p k x m : Int} (h : ld_ok A p v k) (hx : x = A (p + k)) (hb : 0 ≤ x ∧ x ≤ 65535) (hm : m = k + 1) : ld_ok A p (hw_up v k x) m := by
  subst hm
  obtain ⟨t, rfl, hd, h1⟩ := h
  refine ⟨t + 1, by omega, wd_up hd hb, fun q h2 h3 => ?_⟩
  by_cases e : q = t
  · rw [e, hw_up_s]; exact hx
  · rw [hw_up_n e]; exact h1 q h2 (by omega)
theorem ld_e {A v : Int → Int} {p k q m : Int} (h : ld_ok A p v k) (hk : k = 20) (ht : wt_ok v q m) (hm : m = 20) (h0 : 0 ≤ q) (h1 : q ≤ 20) (h2 : q ≤ 0 ∨ ¬ v (q - 1) = 0) : wh_is q v (bw A p) ∧ bw A p < wB 20 := by
  subst hk
  subst hm
  obtain ⟨t, e, hd, h3⟩ := h
  obtain rfl : t = 20 := by omega
  have e2 : wv v 20 = bw A p := wv_eq (fun i hi => h3 i (by omega) (by omega))
  refine ⟨?_, ?_⟩
  · rw [← e2]
    exact wt_is ht (by omega) h0 h1 h2 hd
  · rw [← e2]
    exact (wv_b hd).2
def st_ok (A B : Int → Int) (p n : Int) (f : Int → Int) (k : Int) : Prop := ∃ _ : Unit, (∀ q : Int, (q < p ∨ p + k ≤ q) → B q = A q) ∧ ∀ q : Int, 0 ≤ q → q < k → B (p + q) = wx f n q
theorem st_0 {A f : Int → Int} {p n : Int} : st_ok A A p n f 0 := ⟨(), fun _ _ => rfl, fun q h1 h2 => absurd h1 (by omega)⟩
theorem st_s {A B f : Int → Int} {p n k x y m : Int} (h : st_ok A B p n f k) (hk : 0 ≤ k) (hx : k < n → x = f k) (hy : n ≤ k → x = 0) (hp : y = p + k) (hm : m = k + 1) : st_ok A (hw_up B y x) p n f m := by
  subst hp
  subst hm
  refine h.elim fun _ h => ⟨(), fun q hq => ?_, fun q h1 h2 => ?_⟩
  · rw [hw_up_n (by omega)]; exact h.1 q (by omega)
  · by_cases e : q = k
    · rw [e, hw_up_s]
      rcases Int.lt_or_le k n with r | r
      · rw [wx_l r]; exact hx r
      · rw [wx_r r]; exact hy r
    · rw [hw_up_n (by omega)]; exact h.2 q h1 (by omega)
/-- a number kept: the rest stays, it reads as it was if it has room -/
def so_ok (A B : Int → Int) (p a : Int) : Prop := ∃ _ : Unit, (∀ q : Int, (q < p ∨ p + 20 ≤ q) → B q = A q) ∧ (a < wB 20 → bw B p = a)
theorem st_e {A B f : Int → Int} {p n k a : Int} (h : st_ok A B p n f k) (hk : k = 20) (hf : wh_is n f a) : so_ok A B p a := by
  subst hk
  refine h.elim fun _ h => ⟨(), h.1, fun ha => ?_⟩
  have h1 := wB_n hf ha
  rw [← wh_v (t := 20) hf (by omega)]
  exact wv_eq (fun i hi => h.2 i (by omega) (by omega))
theorem so_n {A B : Int → Int} {p a q : Int} (h : so_ok A B p a) (hq : q + 20 ≤ p ∨ p + 20 ≤ q) : bw B q = bw A q := h.elim fun _ h => wv_eq (fun i hi => h.1 _ (by omega))
theorem so_s {A B : Int → Int} {p a : Int} (h : so_ok A B p a) (ha : a < wB 20) : bw B p = a := h.elim fun _ h => h.2 ha
theorem m_load_above (hU : hw_U (hm_T kof own)) {va : Int → Int} {i p : Int} (hv : wa_all z_nn z_dg va) (hp : 0 ≤ p ∧ p + 20 ≤ 64000) (hK : ∀ (u : Int → Int) (g : Int → Int → Int), wa_all u g (hw_up va i (bw z_m_above p)) → bw z_m_above p < wB 20 → K none ([z_m_err, z_m_fed, z_m_wrong, z_m_letters, z_m_there, z_m_kind, z_m_word, z_m_from, z_m_to, z_m_tokens, z_m_names, z_m_vars, z_m_modules, z_m_commands, z_m_actions, z_m_target, z_m_phase, z_m_codes, z_m_deep, z_m_bool, z_m_broken, z_m_explored, z_m_states, z_m_choices, z_m_outcomes, z_m_problem], [z_m_text, z_m_nameFrom, z_m_nameSize, z_m_nameKind, z_m_nameValue, z_m_actionFrom, z_m_actionSize, z_m_commandModule, z_m_commandAction, z_m_guard, z_m_updates, z_m_over, z_m_under, z_m_setTo, z_m_code, z_m_firstChoice, z_m_firstOutcome, z_m_goesTo, z_m_taken, z_m_step, z_m_chosen, z_m_isTarget, z_m_holds, z_m_above, z_m_below, z_m_solved, z_m_known, z_m_zero, z_m_policy, z_m_unknown, z_m_index, z_m_got, z_m_set, z_m_stack, z_m_now, z_m_next, z_m_value, z_m_octets, z_m_varModule, z_m_low, z_m_high, z_m_first, z_m_isBool], [u], [g])) : hw_C pg_G pg_TT scr (hm_T kof own) (d + 2) 245 [hw_R 0 i, hw_R 38 0, hw_I p, hw_I 20] ([z_m_err, z_m_fed, z_m_wrong, z_m_letters, z_m_there, z_m_kind, z_m_word, z_m_from, z_m_to, z_m_tokens, z_m_names, z_m_vars, z_m_modules, z_m_commands, z_m_actions, z_m_target, z_m_phase, z_m_codes, z_m_deep, z_m_bool, z_m_broken, z_m_explored, z_m_states, z_m_choices, z_m_outcomes, z_m_problem], [z_m_text, z_m_nameFrom, z_m_nameSize, z_m_nameKind, z_m_nameValue, z_m_actionFrom, z_m_actionSize, z_m_commandModule, z_m_commandAction, z_m_guard, z_m_updates, z_m_over, z_m_under, z_m_setTo, z_m_code, z_m_firstChoice, z_m_firstOutcome, z_m_goesTo, z_m_taken, z_m_step, z_m_chosen, z_m_isTarget, z_m_holds, z_m_above, z_m_below, z_m_solved, z_m_known, z_m_zero, z_m_policy, z_m_unknown, z_m_index, z_m_got, z_m_set, z_m_stack, z_m_now, z_m_next, z_m_value, z_m_octets, z_m_varModule, z_m_low, z_m_high, z_m_first, z_m_isBool], [z_nn], [z_dg]) K E := by
  refine hw_meth hU hv_DG ⟨rfl, rfl⟩ (fun w X hs hX hF => ?_)
  have rm_i := hm_rm_b i
  have cuts : ∀ n : Nat, (∀ (k : Int) (v : Int → Int), 0 ≤ k → k ≤ 20 → ld_ok z_m_above p v k → (20 - k).toNat < n → w (3, [some (hw_R 0 i), some (hw_R 38 0), some (hw_I (p)), some (hw_I (20)), some (hw_I (k))], [], ([z_m_err, z_m_fed, z_m_wrong, z_m_letters, z_m_there, z_m_kind, z_m_word, z_m_from, z_m_to, z_m_tokens, z_m_names, z_m_vars, z_m_modules, z_m_commands, z_m_actions, z_m_target, z_m_phase, z_m_codes, z_m_deep, z_m_bool, z_m_broken, z_m_explored, z_m_states, z_m_choices, z_m_outcomes, z_m_problem], [z_m_text, z_m_nameFrom, z_m_nameSize, z_m_nameKind, z_m_nameValue, z_m_actionFrom, z_m_actionSize, z_m_commandModule, z_m_commandAction, z_m_guard, z_m_updates, z_m_over, z_m_under, z_m_setTo, z_m_code, z_m_firstChoice, z_m_firstOutcome, z_m_goesTo, z_m_taken, z_m_step, z_m_chosen, z_m_isTarget, z_m_holds, z_m_above, z_m_below, z_m_solved, z_m_known, z_m_zero, z_m_policy, z_m_unknown, z_m_index, z_m_got, z_m_set, z_m_stack, z_m_now, z_m_next, z_m_value, z_m_octets, z_m_varModule, z_m_low, z_m_high, z_m_first, z_m_isBool], [z_nn], [hw_up z_dg i v]))) := by
    intro n
    induction n with
    | zero =>
      repeat' (first | refine And.intro ?_ ?_ | intro _)
      all_goals omega
    | succ n ih =>
      intro k v
      intros
      refine hs [] _ rfl ?_
      conv => whnf
      repeat' (first | refine hw_ex32 ⟨by omega, by omega⟩ ?_ | (intro h; exact absurd h (by decide)) | intro _ | refine And.intro ?_ ?_ | (refine hs [3] _ rfl ?_; conv => whnf) | apply ih | (rw [hw_up_id z_dg i]; apply ih) | (rw [hw_up_up]; apply ih) | apply hK | (rw [hw_up_id z_dg i]; apply hK) | (rw [hw_up_up]; apply hK) | (apply hX; apply w_trim hU))
      (all_goals clear ih); all_goals (first | with_reducible exact Nat.lt_succ_self _ | with_reducible assumption | omega | exact ld_0 | (clear hs hX hF hK; (try simp only [hw_up_s, hw_up_up] at *); first | omega | (with_reducible refine ld_s (by with_reducible assumption) ?_ ?_ ?_ <;> first | rfl | omega) | (with_reducible exact wa_up hv (ld_e (by with_reducible assumption) (by omega) (by with_reducible assumption) rfl (by omega) (by omega) (by with_reducible assumption)).1) | (with_reducible exact (ld_e (by with_reducible assumption) (by omega) (by with_reducible assumption) rfl (by omega) (by omega) (by with_reducible assumption)).2)) | (clear hs hX hF hK; fail))
  repeat' (first | refine hw_ex32 ⟨by omega, by omega⟩ ?_ | (intro h; exact absurd h (by decide)) | intro _ | refine And.intro ?_ ?_ | (refine hs [3] _ rfl ?_; conv => whnf) | apply (cuts _) | (rw [hw_up_id z_dg i]; apply (cuts _)) | (rw [hw_up_up]; apply (cuts _)) | apply hK | (rw [hw_up_id z_dg i]; apply hK) | (rw [hw_up_up]; apply hK) | (apply hX; apply w_trim hU))
  all_goals (first | with_reducible exact Nat.lt_succ_self _ | with_reducible assumption | omega | exact ld_0 | (clear hs hX hF hK; (try simp only [hw_up_s, hw_up_up] at *); first | omega | (with_reducible refine ld_s (by with_reducible assumption) ?_ ?_ ?_ <;> first | rfl | omega) | (with_reducible exact wa_up hv (ld_e (by with_reducible assumption) (by omega) (by with_reducible assumption) rfl (by omega) (by omega) (by with_reducible assumption)).1) | (with_reducible exact (ld_e (by with_reducible assumption) (by omega) (by with_reducible assumption) rfl (by omega) (by omega) (by with_reducible assumption)).2)) | (clear hs hX hF hK; fail))
theorem m_store_above (hU : hw_U (hm_T kof own)) {va : Int → Int} {i p : Int} (hv : wa_all z_nn z_dg va) (hp : 0 ≤ p ∧ p + 20 ≤ 64000) (hK : ∀ (A : Int → Int), so_ok z_m_above A p (va i) → K none ([z_m_err, z_m_fed, z_m_wrong, z_m_letters, z_m_there, z_m_kind, z_m_word, z_m_from, z_m_to, z_m_tokens, z_m_names, z_m_vars, z_m_modules, z_m_commands, z_m_actions, z_m_target, z_m_phase, z_m_codes, z_m_deep, z_m_bool, z_m_broken, z_m_explored, z_m_states, z_m_choices, z_m_outcomes, z_m_problem], [z_m_text, z_m_nameFrom, z_m_nameSize, z_m_nameKind, z_m_nameValue, z_m_actionFrom, z_m_actionSize, z_m_commandModule, z_m_commandAction, z_m_guard, z_m_updates, z_m_over, z_m_under, z_m_setTo, z_m_code, z_m_firstChoice, z_m_firstOutcome, z_m_goesTo, z_m_taken, z_m_step, z_m_chosen, z_m_isTarget, z_m_holds, A, z_m_below, z_m_solved, z_m_known, z_m_zero, z_m_policy, z_m_unknown, z_m_index, z_m_got, z_m_set, z_m_stack, z_m_now, z_m_next, z_m_value, z_m_octets, z_m_varModule, z_m_low, z_m_high, z_m_first, z_m_isBool], [z_nn], [z_dg])) : hw_C pg_G pg_TT scr (hm_T kof own) (d + 1) 244 [hw_R 0 i, hw_R 38 0, hw_I p, hw_I 20] ([z_m_err, z_m_fed, z_m_wrong, z_m_letters, z_m_there, z_m_kind, z_m_word, z_m_from, z_m_to, z_m_tokens, z_m_names, z_m_vars, z_m_modules, z_m_commands, z_m_actions, z_m_target, z_m_phase, z_m_codes, z_m_deep, z_m_bool, z_m_broken, z_m_explored, z_m_states, z_m_choices, z_m_outcomes, z_m_problem], [z_m_text, z_m_nameFrom, z_m_nameSize, z_m_nameKind, z_m_nameValue, z_m_actionFrom, z_m_actionSize, z_m_commandModule, z_m_commandAction, z_m_guard, z_m_updates, z_m_over, z_m_under, z_m_setTo, z_m_code, z_m_firstChoice, z_m_firstOutcome, z_m_goesTo, z_m_taken, z_m_step, z_m_chosen, z_m_isTarget, z_m_holds, z_m_above, z_m_below, z_m_solved, z_m_known, z_m_zero, z_m_policy, z_m_unknown, z_m_index, z_m_got, z_m_set, z_m_stack, z_m_now, z_m_next, z_m_value, z_m_octets, z_m_varModule, z_m_low, z_m_high, z_m_first, z_m_isBool], [z_nn], [z_dg]) K E := by
  refine hw_meth hU hv_DG ⟨rfl, rfl⟩ (fun w X hs hX hF => ?_)
  have rm_i := hm_rm_b i
  have cuts : ∀ n : Nat, (∀ (k : Int) (A : Int → Int), 0 ≤ k → k ≤ 20 → st_ok z_m_above A p (z_nn i) (z_dg i) k → (20 - k).toNat < n → w (3, [some (hw_R 0 i), some (hw_R 38 0), some (hw_I (p)), some (hw_I (20)), some (hw_I (k))], [], ([z_m_err, z_m_fed, z_m_wrong, z_m_letters, z_m_there, z_m_kind, z_m_word, z_m_from, z_m_to, z_m_tokens, z_m_names, z_m_vars, z_m_modules, z_m_commands, z_m_actions, z_m_target, z_m_phase, z_m_codes, z_m_deep, z_m_bool, z_m_broken, z_m_explored, z_m_states, z_m_choices, z_m_outcomes, z_m_problem], [z_m_text, z_m_nameFrom, z_m_nameSize, z_m_nameKind, z_m_nameValue, z_m_actionFrom, z_m_actionSize, z_m_commandModule, z_m_commandAction, z_m_guard, z_m_updates, z_m_over, z_m_under, z_m_setTo, z_m_code, z_m_firstChoice, z_m_firstOutcome, z_m_goesTo, z_m_taken, z_m_step, z_m_chosen, z_m_isTarget, z_m_holds, A, z_m_below, z_m_solved, z_m_known, z_m_zero, z_m_policy, z_m_unknown, z_m_index, z_m_got, z_m_set, z_m_stack, z_m_now, z_m_next, z_m_value, z_m_octets, z_m_varModule, z_m_low, z_m_high, z_m_first, z_m_isBool], [z_nn], [z_dg]))) := by
    intro n
    induction n with
    | zero =>
      repeat' (first | refine And.intro ?_ ?_ | intro _)
      all_goals omega
    | succ n ih =>
      intro k A
      intros
      refine hs [] _ rfl ?_
      conv => whnf
      repeat' (first | refine hw_ex32 ⟨by omega, by omega⟩ ?_ | (intro h; exact absurd h (by decide)) | intro _ | refine And.intro ?_ ?_ | (refine hs [3] _ rfl ?_; conv => whnf) | apply ih | apply hK)
      (all_goals clear ih); all_goals (first | with_reducible exact Nat.lt_succ_self _ | with_reducible assumption | omega | exact st_0 | (with_reducible exact st_e (by with_reducible assumption) (by omega) (wa_i hv i)) | (with_reducible refine st_s (by with_reducible assumption) ?_ ?_ ?_ ?_ ?_ <;> first | omega | (intro; first | rfl | omega)) | (clear hs hX hF hK; fail))
  repeat' (first | refine hw_ex32 ⟨by omega, by omega⟩ ?_ | (intro h; exact absurd h (by decide)) | intro _ | refine And.intro ?_ ?_ | (refine hs [3] _ rfl ?_; conv => whnf) | apply (cuts _) | apply hK)
  all_goals (first | with_reducible exact Nat.lt_succ_self _ | with_reducible assumption | omega | exact st_0 | (with_reducible exact st_e (by with_reducible assumption) (by omega) (wa_i hv i)) | (with_reducible refine st_s (by with_reducible assumption) ?_ ?_ ?_ ?_ ?_ <;> first | omega | (intro; first | rfl | omega)) | (clear hs hX hF hK; fail))
theorem m_load_below (hU : hw_U (hm_T kof own)) {va : Int → Int} {i p : Int} (hv : wa_all z_nn z_dg va) (hp : 0 ≤ p ∧ p + 20 ≤ 64000) (hK : ∀ (u : Int → Int) (g : Int → Int → Int), wa_all u g (hw_up va i (bw z_m_below p)) → bw z_m_below p < wB 20 → K none ([z_m_err, z_m_fed, z_m_wrong, z_m_letters, z_m_there, z_m_kind, z_m_word, z_m_from, z_m_to, z_m_tokens, z_m_names, z_m_vars, z_m_modules, z_m_commands, z_m_actions, z_m_target, z_m_phase, z_m_codes, z_m_deep, z_m_bool, z_m_broken, z_m_explored, z_m_states, z_m_choices, z_m_outcomes, z_m_problem], [z_m_text, z_m_nameFrom, z_m_nameSize, z_m_nameKind, z_m_nameValue, z_m_actionFrom, z_m_actionSize, z_m_commandModule, z_m_commandAction, z_m_guard, z_m_updates, z_m_over, z_m_under, z_m_setTo, z_m_code, z_m_firstChoice, z_m_firstOutcome, z_m_goesTo, z_m_taken, z_m_step, z_m_chosen, z_m_isTarget, z_m_holds, z_m_above, z_m_below, z_m_solved, z_m_known, z_m_zero, z_m_policy, z_m_unknown, z_m_index, z_m_got, z_m_set, z_m_stack, z_m_now, z_m_next, z_m_value, z_m_octets, z_m_varModule, z_m_low, z_m_high, z_m_first, z_m_isBool], [u], [g])) : hw_C pg_G pg_TT scr (hm_T kof own) (d + 2) 245 [hw_R 0 i, hw_R 39 0, hw_I p, hw_I 20] ([z_m_err, z_m_fed, z_m_wrong, z_m_letters, z_m_there, z_m_kind, z_m_word, z_m_from, z_m_to, z_m_tokens, z_m_names, z_m_vars, z_m_modules, z_m_commands, z_m_actions, z_m_target, z_m_phase, z_m_codes, z_m_deep, z_m_bool, z_m_broken, z_m_explored, z_m_states, z_m_choices, z_m_outcomes, z_m_problem], [z_m_text, z_m_nameFrom, z_m_nameSize, z_m_nameKind, z_m_nameValue, z_m_actionFrom, z_m_actionSize, z_m_commandModule, z_m_commandAction, z_m_guard, z_m_updates, z_m_over, z_m_under, z_m_setTo, z_m_code, z_m_firstChoice, z_m_firstOutcome, z_m_goesTo, z_m_taken, z_m_step, z_m_chosen, z_m_isTarget, z_m_holds, z_m_above, z_m_below, z_m_solved, z_m_known, z_m_zero, z_m_policy, z_m_unknown, z_m_index, z_m_got, z_m_set, z_m_stack, z_m_now, z_m_next, z_m_value, z_m_octets, z_m_varModule, z_m_low, z_m_high, z_m_first, z_m_isBool], [z_nn], [z_dg]) K E := by
  refine hw_meth hU hv_DG ⟨rfl, rfl⟩ (fun w X hs hX hF => ?_)
  have rm_i := hm_rm_b i
  have cuts : ∀ n : Nat, (∀ (k : Int) (v : Int → Int), 0 ≤ k → k ≤ 20 → ld_ok z_m_below p v k → (20 - k).toNat < n → w (3, [some (hw_R 0 i), some (hw_R 39 0), some (hw_I (p)), some (hw_I (20)), some (hw_I (k))], [], ([z_m_err, z_m_fed, z_m_wrong, z_m_letters, z_m_there, z_m_kind, z_m_word, z_m_from, z_m_to, z_m_tokens, z_m_names, z_m_vars, z_m_modules, z_m_commands, z_m_actions, z_m_target, z_m_phase, z_m_codes, z_m_deep, z_m_bool, z_m_broken, z_m_explored, z_m_states, z_m_choices, z_m_outcomes, z_m_problem], [z_m_text, z_m_nameFrom, z_m_nameSize, z_m_nameKind, z_m_nameValue, z_m_actionFrom, z_m_actionSize, z_m_commandModule, z_m_commandAction, z_m_guard, z_m_updates, z_m_over, z_m_under, z_m_setTo, z_m_code, z_m_firstChoice, z_m_firstOutcome, z_m_goesTo, z_m_taken, z_m_step, z_m_chosen, z_m_isTarget, z_m_holds, z_m_above, z_m_below, z_m_solved, z_m_known, z_m_zero, z_m_policy, z_m_unknown, z_m_index, z_m_got, z_m_set, z_m_stack, z_m_now, z_m_next, z_m_value, z_m_octets, z_m_varModule, z_m_low, z_m_high, z_m_first, z_m_isBool], [z_nn], [hw_up z_dg i v]))) := by
    intro n
    induction n with
    | zero =>
      repeat' (first | refine And.intro ?_ ?_ | intro _)
      all_goals omega
    | succ n ih =>
      intro k v
      intros
      refine hs [] _ rfl ?_
      conv => whnf
      repeat' (first | refine hw_ex32 ⟨by omega, by omega⟩ ?_ | (intro h; exact absurd h (by decide)) | intro _ | refine And.intro ?_ ?_ | (refine hs [3] _ rfl ?_; conv => whnf) | apply ih | (rw [hw_up_id z_dg i]; apply ih) | (rw [hw_up_up]; apply ih) | apply hK | (rw [hw_up_id z_dg i]; apply hK) | (rw [hw_up_up]; apply hK) | (apply hX; apply w_trim hU))
      (all_goals clear ih); all_goals (first | with_reducible exact Nat.lt_succ_self _ | with_reducible assumption | omega | exact ld_0 | (clear hs hX hF hK; (try simp only [hw_up_s, hw_up_up] at *); first | omega | (with_reducible refine ld_s (by with_reducible assumption) ?_ ?_ ?_ <;> first | rfl | omega) | (with_reducible exact wa_up hv (ld_e (by with_reducible assumption) (by omega) (by with_reducible assumption) rfl (by omega) (by omega) (by with_reducible assumption)).1) | (with_reducible exact (ld_e (by with_reducible assumption) (by omega) (by with_reducible assumption) rfl (by omega) (by omega) (by with_reducible assumption)).2)) | (clear hs hX hF hK; fail))
  repeat' (first | refine hw_ex32 ⟨by omega, by omega⟩ ?_ | (intro h; exact absurd h (by decide)) | intro _ | refine And.intro ?_ ?_ | (refine hs [3] _ rfl ?_; conv => whnf) | apply (cuts _) | (rw [hw_up_id z_dg i]; apply (cuts _)) | (rw [hw_up_up]; apply (cuts _)) | apply hK | (rw [hw_up_id z_dg i]; apply hK) | (rw [hw_up_up]; apply hK) | (apply hX; apply w_trim hU))
  all_goals (first | with_reducible exact Nat.lt_succ_self _ | with_reducible assumption | omega | exact ld_0 | (clear hs hX hF hK; (try simp only [hw_up_s, hw_up_up] at *); first | omega | (with_reducible refine ld_s (by with_reducible assumption) ?_ ?_ ?_ <;> first | rfl | omega) | (with_reducible exact wa_up hv (ld_e (by with_reducible assumption) (by omega) (by with_reducible assumption) rfl (by omega) (by omega) (by with_reducible assumption)).1) | (with_reducible exact (ld_e (by with_reducible assumption) (by omega) (by with_reducible assumption) rfl (by omega) (by omega) (by with_reducible assumption)).2)) | (clear hs hX hF hK; fail))
theorem m_store_below (hU : hw_U (hm_T kof own)) {va : Int → Int} {i p : Int} (hv : wa_all z_nn z_dg va) (hp : 0 ≤ p ∧ p + 20 ≤ 64000) (hK : ∀ (A : Int → Int), so_ok z_m_below A p (va i) → K none ([z_m_err, z_m_fed, z_m_wrong, z_m_letters, z_m_there, z_m_kind, z_m_word, z_m_from, z_m_to, z_m_tokens, z_m_names, z_m_vars, z_m_modules, z_m_commands, z_m_actions, z_m_target, z_m_phase, z_m_codes, z_m_deep, z_m_bool, z_m_broken, z_m_explored, z_m_states, z_m_choices, z_m_outcomes, z_m_problem], [z_m_text, z_m_nameFrom, z_m_nameSize, z_m_nameKind, z_m_nameValue, z_m_actionFrom, z_m_actionSize, z_m_commandModule, z_m_commandAction, z_m_guard, z_m_updates, z_m_over, z_m_under, z_m_setTo, z_m_code, z_m_firstChoice, z_m_firstOutcome, z_m_goesTo, z_m_taken, z_m_step, z_m_chosen, z_m_isTarget, z_m_holds, z_m_above, A, z_m_solved, z_m_known, z_m_zero, z_m_policy, z_m_unknown, z_m_index, z_m_got, z_m_set, z_m_stack, z_m_now, z_m_next, z_m_value, z_m_octets, z_m_varModule, z_m_low, z_m_high, z_m_first, z_m_isBool], [z_nn], [z_dg])) : hw_C pg_G pg_TT scr (hm_T kof own) (d + 1) 244 [hw_R 0 i, hw_R 39 0, hw_I p, hw_I 20] ([z_m_err, z_m_fed, z_m_wrong, z_m_letters, z_m_there, z_m_kind, z_m_word, z_m_from, z_m_to, z_m_tokens, z_m_names, z_m_vars, z_m_modules, z_m_commands, z_m_actions, z_m_target, z_m_phase, z_m_codes, z_m_deep, z_m_bool, z_m_broken, z_m_explored, z_m_states, z_m_choices, z_m_outcomes, z_m_problem], [z_m_text, z_m_nameFrom, z_m_nameSize, z_m_nameKind, z_m_nameValue, z_m_actionFrom, z_m_actionSize, z_m_commandModule, z_m_commandAction, z_m_guard, z_m_updates, z_m_over, z_m_under, z_m_setTo, z_m_code, z_m_firstChoice, z_m_firstOutcome, z_m_goesTo, z_m_taken, z_m_step, z_m_chosen, z_m_isTarget, z_m_holds, z_m_above, z_m_below, z_m_solved, z_m_known, z_m_zero, z_m_policy, z_m_unknown, z_m_index, z_m_got, z_m_set, z_m_stack, z_m_now, z_m_next, z_m_value, z_m_octets, z_m_varModule, z_m_low, z_m_high, z_m_first, z_m_isBool], [z_nn], [z_dg]) K E := by
  refine hw_meth hU hv_DG ⟨rfl, rfl⟩ (fun w X hs hX hF => ?_)
  have rm_i := hm_rm_b i
  have cuts : ∀ n : Nat, (∀ (k : Int) (A : Int → Int), 0 ≤ k → k ≤ 20 → st_ok z_m_below A p (z_nn i) (z_dg i) k → (20 - k).toNat < n → w (3, [some (hw_R 0 i), some (hw_R 39 0), some (hw_I (p)), some (hw_I (20)), some (hw_I (k))], [], ([z_m_err, z_m_fed, z_m_wrong, z_m_letters, z_m_there, z_m_kind, z_m_word, z_m_from, z_m_to, z_m_tokens, z_m_names, z_m_vars, z_m_modules, z_m_commands, z_m_actions, z_m_target, z_m_phase, z_m_codes, z_m_deep, z_m_bool, z_m_broken, z_m_explored, z_m_states, z_m_choices, z_m_outcomes, z_m_problem], [z_m_text, z_m_nameFrom, z_m_nameSize, z_m_nameKind, z_m_nameValue, z_m_actionFrom, z_m_actionSize, z_m_commandModule, z_m_commandAction, z_m_guard, z_m_updates, z_m_over, z_m_under, z_m_setTo, z_m_code, z_m_firstChoice, z_m_firstOutcome, z_m_goesTo, z_m_taken, z_m_step, z_m_chosen, z_m_isTarget, z_m_holds, z_m_above, A, z_m_solved, z_m_known, z_m_zero, z_m_policy, z_m_unknown, z_m_index, z_m_got, z_m_set, z_m_stack, z_m_now, z_m_next, z_m_value, z_m_octets, z_m_varModule, z_m_low, z_m_high, z_m_first, z_m_isBool], [z_nn], [z_dg]))) := by
    intro n
    induction n with
    | zero =>
      repeat' (first | refine And.intro ?_ ?_ | intro _)
      all_goals omega
    | succ n ih =>
      intro k A
      intros
      refine hs [] _ rfl ?_
      conv => whnf
      repeat' (first | refine hw_ex32 ⟨by omega, by omega⟩ ?_ | (intro h; exact absurd h (by decide)) | intro _ | refine And.intro ?_ ?_ | (refine hs [3] _ rfl ?_; conv => whnf) | apply ih | apply hK)
      (all_goals clear ih); all_goals (first | with_reducible exact Nat.lt_succ_self _ | with_reducible assumption | omega | exact st_0 | (with_reducible exact st_e (by with_reducible assumption) (by omega) (wa_i hv i)) | (with_reducible refine st_s (by with_reducible assumption) ?_ ?_ ?_ ?_ ?_ <;> first | omega | (intro; first | rfl | omega)) | (clear hs hX hF hK; fail))
  repeat' (first | refine hw_ex32 ⟨by omega, by omega⟩ ?_ | (intro h; exact absurd h (by decide)) | intro _ | refine And.intro ?_ ?_ | (refine hs [3] _ rfl ?_; conv => whnf) | apply (cuts _) | apply hK)
  all_goals (first | with_reducible exact Nat.lt_succ_self _ | with_reducible assumption | omega | exact st_0 | (with_reducible exact st_e (by with_reducible assumption) (by omega) (wa_i hv i)) | (with_reducible refine st_s (by with_reducible assumption) ?_ ?_ ?_ ?_ ?_ <;> first | omega | (intro; first | rfl | omega)) | (clear hs hX hF hK; fail))
end C5d
