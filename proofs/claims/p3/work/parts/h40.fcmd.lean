/-! the class: a COMMAND -/
section CH40
variable {scr : Nat × (Nat → Int32)} {d : Nat} {K : Option hw_V → hw_Z → Prop} {E : Nat → hw_Z → Prop} {Z : hw_Z} {kof : Nat → Nat × Int} {own : Nat → Prop} {z_used z_broken z_fed z_textEnd z_made z_mready z_modules z_actions z_target z_variables z_commands z_updates z_steps z_waiting z_nested z_type z_wantsOperand z_variablesKnown z_names z_ownFrom z_at z_wrongAt z_parties z_states z_choices z_outcomes z_sready z_many : Int} {z_fc z_role z_holds z_fu z_taken z_fo z_home z_row z_fout z_offer z_oc z_tk z_pl z_ln z_nm z_op z_wi z_st z_ty z_lo z_hi z_bg z_nt z_wk z_wr z_wt z_wj z_be z_to z_fs z_sv z_size z_policies z_found z_told : Int → Int} {z_policy : Int → Int → Int}
theorem x_sameA (hU : hw_U (hx_T kof own)) {i j : Int} (hK : ∀ (r : Int), 0 ≤ r → r ≤ 1 → K (some (hw_I r)) ([z_used, z_broken, z_fed, z_textEnd, z_made, z_mready, z_modules, z_actions, z_target, z_variables, z_commands, z_updates, z_steps, z_waiting, z_nested, z_type, z_wantsOperand, z_variablesKnown, z_names, z_ownFrom, z_at, z_wrongAt, z_parties, z_states, z_choices, z_outcomes, z_sready, z_many], [z_fc, z_role, z_holds, z_fu, z_taken, z_fo, z_home, z_row, z_fout, z_offer, z_oc, z_tk, z_pl, z_ln, z_nm, z_op, z_wi, z_st, z_ty, z_lo, z_hi, z_bg, z_nt, z_wk, z_wr, z_wt, z_wj, z_be, z_to, z_fs, z_sv], [z_size, z_policies, z_found, z_told], [z_policy])) : hw_C pg_G pg_TT scr (hx_T kof own) (d + 1) 66 [hw_R 7 0, hw_I i, hw_I j] ([z_used, z_broken, z_fed, z_textEnd, z_made, z_mready, z_modules, z_actions, z_target, z_variables, z_commands, z_updates, z_steps, z_waiting, z_nested, z_type, z_wantsOperand, z_variablesKnown, z_names, z_ownFrom, z_at, z_wrongAt, z_parties, z_states, z_choices, z_outcomes, z_sready, z_many], [z_fc, z_role, z_holds, z_fu, z_taken, z_fo, z_home, z_row, z_fout, z_offer, z_oc, z_tk, z_pl, z_ln, z_nm, z_op, z_wi, z_st, z_ty, z_lo, z_hi, z_bg, z_nt, z_wk, z_wr, z_wt, z_wj, z_be, z_to, z_fs, z_sv], [z_size, z_policies, z_found, z_told], [z_policy]) K E := by
  refine hw_meth hU hv_DG ⟨rfl, rfl⟩ (fun w X hs hX hF => ?_)
  have cuts : ∀ n : Nat, (∀ (k : Int) (ulp0 ulp1 : Option hw_V), 0 ≤ k → 0 ≤ i → i ≤ 1500 → 0 ≤ j → j ≤ 1500 → (17000 - k).toNat < n → w (43, [some (hw_R 7 0), some (hw_I (i)), some (hw_I (j)), some (hw_I (k)), ulp0, ulp1], [], ([z_used, z_broken, z_fed, z_textEnd, z_made, z_mready, z_modules, z_actions, z_target, z_variables, z_commands, z_updates, z_steps, z_waiting, z_nested, z_type, z_wantsOperand, z_variablesKnown, z_names, z_ownFrom, z_at, z_wrongAt, z_parties, z_states, z_choices, z_outcomes, z_sready, z_many], [z_fc, z_role, z_holds, z_fu, z_taken, z_fo, z_home, z_row, z_fout, z_offer, z_oc, z_tk, z_pl, z_ln, z_nm, z_op, z_wi, z_st, z_ty, z_lo, z_hi, z_bg, z_nt, z_wk, z_wr, z_wt, z_wj, z_be, z_to, z_fs, z_sv], [z_size, z_policies, z_found, z_told], [z_policy]))) := by
    intro n
    induction n with
    | zero =>
      repeat' (first | refine And.intro ?_ ?_ | intro _)
      all_goals omega
    | succ n ih =>
      intros
      refine hF (L' := [some _, some _, some _, some _, none, none]) (by repeat' (first | exact True.intro | refine And.intro rfl ?_)) ?_
      refine hs [] _ rfl ?_
      conv => whnf
      repeat' (first | refine hw_ex32 ⟨by omega, by omega⟩ ?_ | (intro h; exact absurd h (by decide)) | intro _ | refine And.intro ?_ ?_ | (refine hs [43] _ rfl ?_; conv => whnf) | apply ih | apply hK)
      (all_goals clear ih); all_goals (first | exact Nat.lt_succ_self _ | assumption | omega | (clear hs hX hF hK; fail))
  repeat' (first | refine hw_ex32 ⟨by omega, by omega⟩ ?_ | (intro h; exact absurd h (by decide)) | intro _ | refine And.intro ?_ ?_ | (refine hs [43] _ rfl ?_; conv => whnf) | apply (cuts _) | apply hK)
  all_goals (first | exact Nat.lt_succ_self _ | assumption | omega | (clear hs hX hF hK; fail))
theorem x_actionOf (hU : hw_U (hx_T kof own)) {x : Int} (hK : ∀ (r v_a : Int), K (some (hw_I r)) ([z_used, z_broken, z_fed, z_textEnd, z_made, z_mready, z_modules, v_a, z_target, z_variables, z_commands, z_updates, z_steps, z_waiting, z_nested, z_type, z_wantsOperand, z_variablesKnown, z_names, z_ownFrom, z_at, z_wrongAt, z_parties, z_states, z_choices, z_outcomes, z_sready, z_many], [z_fc, z_role, z_holds, z_fu, z_taken, z_fo, z_home, z_row, z_fout, z_offer, z_oc, z_tk, z_pl, z_ln, z_nm, z_op, z_wi, z_st, z_ty, z_lo, z_hi, z_bg, z_nt, z_wk, z_wr, z_wt, z_wj, z_be, z_to, z_fs, z_sv], [z_size, z_policies, z_found, z_told], [z_policy])) : hw_C pg_G pg_TT scr (hx_T kof own) (d + 2) 89 [hw_R 27 0, hw_I x] ([z_used, z_broken, z_fed, z_textEnd, z_made, z_mready, z_modules, z_actions, z_target, z_variables, z_commands, z_updates, z_steps, z_waiting, z_nested, z_type, z_wantsOperand, z_variablesKnown, z_names, z_ownFrom, z_at, z_wrongAt, z_parties, z_states, z_choices, z_outcomes, z_sready, z_many], [z_fc, z_role, z_holds, z_fu, z_taken, z_fo, z_home, z_row, z_fout, z_offer, z_oc, z_tk, z_pl, z_ln, z_nm, z_op, z_wi, z_st, z_ty, z_lo, z_hi, z_bg, z_nt, z_wk, z_wr, z_wt, z_wj, z_be, z_to, z_fs, z_sv], [z_size, z_policies, z_found, z_told], [z_policy]) K E := by
  refine hw_meth hU hv_DG ⟨rfl, rfl⟩ (fun w X hs hX hF => ?_)
  have cuts : ∀ n : Nat, (∀ (i : Int), 0 ≤ i → (z_actions - i).toNat < n → w (2, [some (hw_R 27 0), some (hw_I (x)), some (hw_I (i))], [], ([z_used, z_broken, z_fed, z_textEnd, z_made, z_mready, z_modules, z_actions, z_target, z_variables, z_commands, z_updates, z_steps, z_waiting, z_nested, z_type, z_wantsOperand, z_variablesKnown, z_names, z_ownFrom, z_at, z_wrongAt, z_parties, z_states, z_choices, z_outcomes, z_sready, z_many], [z_fc, z_role, z_holds, z_fu, z_taken, z_fo, z_home, z_row, z_fout, z_offer, z_oc, z_tk, z_pl, z_ln, z_nm, z_op, z_wi, z_st, z_ty, z_lo, z_hi, z_bg, z_nt, z_wk, z_wr, z_wt, z_wj, z_be, z_to, z_fs, z_sv], [z_size, z_policies, z_found, z_told], [z_policy]))) := by
    intro n
    induction n with
    | zero =>
      repeat' (first | refine And.intro ?_ ?_ | intro _)
      all_goals omega
    | succ n ih =>
      intros
      refine hs [] _ rfl ?_
      conv => whnf
      repeat' (first | refine hw_ex32 ⟨by omega, by omega⟩ ?_ | (intro h; exact absurd h (by decide)) | intro _ | refine And.intro ?_ ?_ | (refine hs [2] _ rfl ?_; conv => whnf) | apply ih | apply hK | (apply hX; apply x_sameA hU))
      (all_goals clear ih); all_goals (first | exact Nat.lt_succ_self _ | assumption | omega | (clear hs hX hF hK; fail))
  repeat' (first | refine hw_ex32 ⟨by omega, by omega⟩ ?_ | (intro h; exact absurd h (by decide)) | intro _ | refine And.intro ?_ ?_ | (refine hs [2] _ rfl ?_; conv => whnf) | apply (cuts _) | apply hK | (apply hX; apply x_sameA hU))
  all_goals (first | exact Nat.lt_succ_self _ | assumption | omega | (clear hs hX hF hK; fail))
end CH40
