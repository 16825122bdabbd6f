/-! the model: a step of the elimination, the worth of a choice -/
section C5f
variable {scr : Nat × (Nat → Int32)} {d : Nat} {K : Option hw_V → hw_Z → Prop} {E : Nat → hw_Z → Prop} {Z : hw_Z} {kof : Nat → Nat × Int} {own : Nat → Prop} {z_m_err z_m_fed z_m_wrong z_m_letters z_m_there z_m_kind z_m_word z_m_from z_m_to z_m_tokens z_m_names z_m_vars z_m_modules z_m_commands z_m_actions z_m_target z_m_phase z_m_codes z_m_deep z_m_bool z_m_broken z_m_explored z_m_states z_m_choices z_m_outcomes z_m_problem : Int} {z_m_text z_m_nameFrom z_m_nameSize z_m_nameKind z_m_nameValue z_m_actionFrom z_m_actionSize z_m_commandModule z_m_commandAction z_m_guard z_m_updates z_m_over z_m_under z_m_setTo z_m_code z_m_firstChoice z_m_firstOutcome z_m_goesTo z_m_taken z_m_step z_m_chosen z_m_isTarget z_m_holds z_m_above z_m_below z_m_solved z_m_known z_m_zero z_m_policy z_m_unknown z_m_index z_m_got z_m_set z_m_stack z_m_now z_m_next z_m_value z_m_octets z_m_varModule z_m_low z_m_high z_m_first z_m_isBool z_nn : Int → Int} {z_dg : Int → Int → Int}
theorem hm_lo {k : Int} (h : k < 770) : 300 ≤ hm_rm k := by
  unfold hm_rm
  repeat' split
  all_goals omega
theorem wB_2 {m : Nat} : wB m + wB m ≤ wB (m + 1) := by
  have := wp_pos m
  unfold wB
  rw [wp_s]
  omega
/-- all numbers but one and four are as they were -/
def sf (va vb : Int → Int) (x : Int) : Prop := ∃ _ : Unit, ∀ k : Int, ¬ k = x → (k < 777 ∨ (778 < k ∧ k < 787) ∨ 788 < k) → vb k = va k
theorem sf_0 {va : Int → Int} {x : Int} : sf va va x := ⟨(), fun _ _ _ => rfl⟩
theorem sf_u {va vb : Int → Int} {x k y : Int} (h : sf va vb x) (hk : k = x ∨ k = 777 ∨ k = 778 ∨ k = 787 ∨ k = 788) : sf va (hw_up vb k y) x := h.elim fun _ h => ⟨(), fun q h1 h2 => (hw_up_n (by omega)).trans (h q h1 h2)⟩
theorem sf_e {va vb : Int → Int} {x k : Int} (h : sf va vb x) (h1 : ¬ k = x) (h2 : k < 777 ∨ (778 < k ∧ k < 787) ∨ 788 < k) : vb k = va k := h.elim fun _ h => h k h1 h2
/-- a step that comes out even -/
def rs_ok (f p q s t z r : Int) : Prop := ∃ _ : Unit, (f = 0 → p * q + s * t = z * r) ∧ (f = 1 → p * q - s * t = z * r ∧ s * t ≤ p * q) ∧ r < wB 151
theorem rs_0 {f p q s t z r : Int} (h : rs_ok f p q s t z r) (hz : 1 ≤ z) (hf : f = 0) : (p * q + s * t) / z = r := h.elim fun _ h => by
  rw [h.1 hf]
  exact Int.mul_ediv_cancel_left r (by omega)
theorem rs_1 {f p q s t z r : Int} (h : rs_ok f p q s t z r) (hz : 1 ≤ z) (hf : f = 1) : (p * q - s * t) / z = r := h.elim fun _ h => by
  rw [(h.2.1 hf).1]
  exact Int.mul_ediv_cancel_left r (by omega)
theorem rs_l {f p q s t z r : Int} (h : rs_ok f p q s t z r) (hf : f = 1) : s * t ≤ p * q := h.elim fun _ h => (h.2.1 hf).2
theorem rs_b {f p q s t z r : Int} (h : rs_ok f p q s t z r) : r < wB 151 := h.elim fun _ h => h.2.2
theorem m_step (hU : hw_U (hm_T kof own)) {va : Int → Int} {x y b e f r : Int} (hv : wa_all z_nn z_dg va) (hr : rs_ok f (va x) (va (650 + e)) (va y) (va b) (va 789) r) (hx : 0 ≤ x ∧ x < 770) (hy : 0 ≤ y ∧ y < 770) (hb : 0 ≤ b ∧ b < 770) (he : 0 ≤ e ∧ e < 24) (hf : f = 0 ∨ f = 1) (h1 : va x < wB 151) (h2 : va (650 + e) < wB 151) (h3 : va y < wB 151) (h4 : va b < wB 151) (h5 : 1 ≤ va 789) (h6 : va 789 < wB 151) (hK : ∀ (u : Int → Int) (g : Int → Int → Int) (vb : Int → Int), wa_all u g vb → sf va vb x → vb x = r → K none ([z_m_err, z_m_fed, z_m_wrong, z_m_letters, z_m_there, z_m_kind, z_m_word, z_m_from, z_m_to, z_m_tokens, z_m_names, z_m_vars, z_m_modules, z_m_commands, z_m_actions, z_m_target, z_m_phase, z_m_codes, z_m_deep, z_m_bool, z_m_broken, z_m_explored, z_m_states, z_m_choices, z_m_outcomes, z_m_problem], [z_m_text, z_m_nameFrom, z_m_nameSize, z_m_nameKind, z_m_nameValue, z_m_actionFrom, z_m_actionSize, z_m_commandModule, z_m_commandAction, z_m_guard, z_m_updates, z_m_over, z_m_under, z_m_setTo, z_m_code, z_m_firstChoice, z_m_firstOutcome, z_m_goesTo, z_m_taken, z_m_step, z_m_chosen, z_m_isTarget, z_m_holds, z_m_above, z_m_below, z_m_solved, z_m_known, z_m_zero, z_m_policy, z_m_unknown, z_m_index, z_m_got, z_m_set, z_m_stack, z_m_now, z_m_next, z_m_value, z_m_octets, z_m_varModule, z_m_low, z_m_high, z_m_first, z_m_isBool], [u], [g])) : hw_C pg_G pg_TT scr (hm_T kof own) (d + 4) 267 [hw_R 2 0, hw_R 0 x, hw_R 0 y, hw_R 0 b, hw_I e, hw_I f] ([z_m_err, z_m_fed, z_m_wrong, z_m_letters, z_m_there, z_m_kind, z_m_word, z_m_from, z_m_to, z_m_tokens, z_m_names, z_m_vars, z_m_modules, z_m_commands, z_m_actions, z_m_target, z_m_phase, z_m_codes, z_m_deep, z_m_bool, z_m_broken, z_m_explored, z_m_states, z_m_choices, z_m_outcomes, z_m_problem], [z_m_text, z_m_nameFrom, z_m_nameSize, z_m_nameKind, z_m_nameValue, z_m_actionFrom, z_m_actionSize, z_m_commandModule, z_m_commandAction, z_m_guard, z_m_updates, z_m_over, z_m_under, z_m_setTo, z_m_code, z_m_firstChoice, z_m_firstOutcome, z_m_goesTo, z_m_taken, z_m_step, z_m_chosen, z_m_isTarget, z_m_holds, z_m_above, z_m_below, z_m_solved, z_m_known, z_m_zero, z_m_policy, z_m_unknown, z_m_index, z_m_got, z_m_set, z_m_stack, z_m_now, z_m_next, z_m_value, z_m_octets, z_m_varModule, z_m_low, z_m_high, z_m_first, z_m_isBool], [z_nn], [z_dg]) K E := by
  refine hw_meth hU hv_DG ⟨rfl, rfl⟩ (fun w X hs hX hF => ?_)
  have r777 : hm_rm 777 = 1300 := by decide
  have r778 : hm_rm 778 = 1300 := by decide
  have r787 : hm_rm 787 = 900 := by decide
  have r788 : hm_rm 788 = 900 := by decide
  have r789 : hm_rm 789 = 300 := by decide
  have hx777 : ¬ x = 777 := by omega
  have hx778 : ¬ x = 778 := by omega
  have hx787 : ¬ x = 787 := by omega
  have hx788 : ¬ x = 788 := by omega
  have hx789 : ¬ x = 789 := by omega
  have hy777 : ¬ y = 777 := by omega
  have hy778 : ¬ y = 778 := by omega
  have hy787 : ¬ y = 787 := by omega
  have hy788 : ¬ y = 788 := by omega
  have hy789 : ¬ y = 789 := by omega
  have hb777 : ¬ b = 777 := by omega
  have hb778 : ¬ b = 778 := by omega
  have hb787 : ¬ b = 787 := by omega
  have hb788 : ¬ b = 788 := by omega
  have hb789 : ¬ b = 789 := by omega
  have he777 : ¬ 650 + e = 777 := by omega
  have he778 : ¬ 650 + e = 778 := by omega
  have he787 : ¬ 650 + e = 787 := by omega
  have he788 : ¬ 650 + e = 788 := by omega
  have he789 : ¬ 650 + e = 789 := by omega
  have g777 : ¬ (777 : Int) = x := by omega
  have g778 : ¬ (778 : Int) = x := by omega
  have g787 : ¬ (787 : Int) = x := by omega
  have g788 : ¬ (788 : Int) = x := by omega
  have g789 : ¬ (789 : Int) = x := by omega
  have wb1 : wB 302 + wB 302 ≤ wB 303 := wB_2 (m := 302)
  have wb2 := wB_le (show 151 ≤ 302 by omega)
  have rx := hm_lo (k := x) (by omega)
  have p1 : va x * va (650 + e) < wB 302 := wB_mul (wa_nn hv x) (wa_nn hv (650 + e)) h1 h2
  have p2 : va y * va b < wB 302 := wB_mul (wa_nn hv y) (wa_nn hv b) h3 h4
  have p3 := rs_b hr
  have p4 := Int.mul_nonneg (wa_nn hv x) (wa_nn hv (650 + e))
  have p5 := Int.mul_nonneg (wa_nn hv y) (wa_nn hv b)
  repeat' (first | refine hw_ex32 ⟨by omega, by omega⟩ ?_ | (intro h; exact absurd h (by decide)) | intro _ | refine And.intro ?_ ?_ | (refine hs [] _ rfl ?_; conv => whnf) | (refine hK _ _ _ (by with_reducible assumption) ?_ ?_) | (apply hX; refine v_times hU (m1 := 151) (m2 := 151) (by with_reducible assumption) ?_ ?_ ?_ ?_ ?_ ?_) | (apply hX; refine v_less hU (by with_reducible assumption) ?_ ?_ ?_) | (apply hX; refine v_add hU (m := 303) (by with_reducible assumption) ?_ ?_ ?_ ?_) | (apply hX; refine v_quotient hU (m1 := 303) (m2 := 151) (by with_reducible assumption) ?_ ?_ ?_ ?_ ?_ ?_ ?_ ?_ ?_ ?_ ?_) | (apply hX; refine v_copy hU (m := 151) (by with_reducible assumption) ?_ ?_ ?_ ?_))
  all_goals (first | with_reducible exact Nat.lt_succ_self _ | with_reducible assumption | omega | ((repeat' (first | with_reducible assumption | exact sf_0 | refine sf_u ?_ (by omega))); done) | (clear hs hX hF hK; (try simp only [hw_up_e, Int.reduceEq, reduceIte, if_neg hx777, if_neg hx778, if_neg hx787, if_neg hx788, if_neg hx789, if_neg hy777, if_neg hy778, if_neg hy787, if_neg hy788, if_neg hy789, if_neg hb777, if_neg hb778, if_neg hb787, if_neg hb788, if_neg hb789, if_neg he777, if_neg he778, if_neg he787, if_neg he788, if_neg he789, if_neg g777, if_neg g778, if_neg g787, if_neg g788, if_neg g789] at *); first | omega | with_reducible assumption | with_reducible exact rs_l hr (by omega) | with_reducible exact rs_0 hr h5 (by omega) | with_reducible exact rs_1 hr h5 (by omega) | (rw [rs_0 hr h5 (by omega)]; omega) | (rw [rs_1 hr h5 (by omega)]; omega)) | (clear hs hX hF hK; fail))
end C5f
