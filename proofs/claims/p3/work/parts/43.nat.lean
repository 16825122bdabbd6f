/-! the class: its numbers -/
section C43
variable {scr : Nat × (Nat → Int32)} {d : Nat} {K : Option hw_V → hw_Z → Prop} {E : Nat → hw_Z → Prop} {Z : hw_Z} {kof : Nat → Nat × Int} {own : Nat → Prop} {z_used z_broken z_fed z_textEnd z_made z_mready z_modules z_actions z_target z_variables z_commands z_updates z_steps z_waiting z_nested z_type z_wantsOperand z_variablesKnown z_names z_ownFrom z_at z_wrongAt z_parties z_states z_choices z_outcomes z_sready z_many : Int} {z_fc z_role z_holds z_fu z_taken z_fo z_home z_row z_fout z_offer z_oc z_size z_policies z_found z_told : Int → Int} {z_policy : Int → Int → Int}
theorem c_cdiv (hU : hw_U (hv_T kof own)) {x y : Int} (hK : ∀ r, ¬ r = 0 → (0 ≤ x → 0 < y → 1 ≤ r ∧ r ≤ y) → K (some (hw_J r)) ([z_used, z_broken, z_fed, z_textEnd, z_made, z_mready, z_modules, z_actions, z_target, z_variables, z_commands, z_updates, z_steps, z_waiting, z_nested, z_type, z_wantsOperand, z_variablesKnown, z_names, z_ownFrom, z_at, z_wrongAt, z_parties, z_states, z_choices, z_outcomes, z_sready, z_many], [z_fc, z_role, z_holds, z_fu, z_taken, z_fo, z_home, z_row, z_fout, z_offer, z_oc], [z_size, z_policies, z_found, z_told], [z_policy])) : hw_C pg_G pg_TT scr (hv_T kof own) (d + 1) 94 [hw_J x, hw_J y] ([z_used, z_broken, z_fed, z_textEnd, z_made, z_mready, z_modules, z_actions, z_target, z_variables, z_commands, z_updates, z_steps, z_waiting, z_nested, z_type, z_wantsOperand, z_variablesKnown, z_names, z_ownFrom, z_at, z_wrongAt, z_parties, z_states, z_choices, z_outcomes, z_sready, z_many], [z_fc, z_role, z_holds, z_fu, z_taken, z_fo, z_home, z_row, z_fout, z_offer, z_oc], [z_size, z_policies, z_found, z_told], [z_policy]) K E := by
  refine hw_meth hU hv_DG ⟨rfl, rfl⟩ (fun w X hs hX hF => ?_)
  have cuts : ∀ n : Nat, (∀ (a b k : Int) (ulp0 ulp1 : Option hw_V), 0 ≤ k → k ≤ 100 → (0 ≤ x → 0 < y → (k = 0 ∧ a = x ∧ b = y) ∨ (1 ≤ a ∧ a ≤ y ∧ 0 ≤ b ∧ b ≤ y)) → (100 - k).toNat < n → w (9, [some (hw_J (x)), none, some (hw_J (y)), none, some (hw_J (a)), none, some (hw_J (b)), none, some (hw_I (k)), ulp0, ulp1], [], ([z_used, z_broken, z_fed, z_textEnd, z_made, z_mready, z_modules, z_actions, z_target, z_variables, z_commands, z_updates, z_steps, z_waiting, z_nested, z_type, z_wantsOperand, z_variablesKnown, z_names, z_ownFrom, z_at, z_wrongAt, z_parties, z_states, z_choices, z_outcomes, z_sready, z_many], [z_fc, z_role, z_holds, z_fu, z_taken, z_fo, z_home, z_row, z_fout, z_offer, z_oc], [z_size, z_policies, z_found, z_told], [z_policy]))) := by
    intro n
    induction n with
    | zero =>
      repeat' (first | refine And.intro ?_ ?_ | intro _)
      all_goals omega
    | succ n ih =>
      intros
      refine hF (L' := [some _, none, some _, none, some _, none, some _, none, some _, none, none]) (by repeat' (first | exact True.intro | refine And.intro rfl ?_)) ?_
      refine hs [] _ rfl ?_
      conv => whnf
      repeat' (first | refine hw_ex32 ⟨by omega, by omega⟩ ?_ | (intro h; exact absurd h (by decide)) | intro _ | refine And.intro ?_ ?_ | (refine hs [9] _ rfl ?_; conv => whnf) | apply ih | apply hK)
      (all_goals clear ih); all_goals (first | exact Nat.lt_succ_self _ | omega | (clear hs hX hF hK; simp only [hw_up, hw_lqe, if_true] at *; omega) | skip)
  repeat' (first | refine hw_ex32 ⟨by omega, by omega⟩ ?_ | (intro h; exact absurd h (by decide)) | intro _ | refine And.intro ?_ ?_ | (refine hs [9] _ rfl ?_; conv => whnf) | apply (cuts _) | apply hK)
  all_goals (first | exact Nat.lt_succ_self _ | omega | (clear hs hX hF hK; simp only [hw_up, hw_lqe, if_true] at *; omega) | skip)
theorem c_trim (hU : hw_U (hv_T kof own)) {i : Int} (hK : ∀ q, q ≤ z_size i → K none ([z_used, z_broken, z_fed, z_textEnd, z_made, z_mready, z_modules, z_actions, z_target, z_variables, z_commands, z_updates, z_steps, z_waiting, z_nested, z_type, z_wantsOperand, z_variablesKnown, z_names, z_ownFrom, z_at, z_wrongAt, z_parties, z_states, z_choices, z_outcomes, z_sready, z_many], [z_fc, z_role, z_holds, z_fu, z_taken, z_fo, z_home, z_row, z_fout, z_offer, z_oc], [hw_up z_size i q, z_policies, z_found, z_told], [z_policy])) : hw_C pg_G pg_TT scr (hv_T kof own) (d + 1) 132 [hw_R 0 i] ([z_used, z_broken, z_fed, z_textEnd, z_made, z_mready, z_modules, z_actions, z_target, z_variables, z_commands, z_updates, z_steps, z_waiting, z_nested, z_type, z_wantsOperand, z_variablesKnown, z_names, z_ownFrom, z_at, z_wrongAt, z_parties, z_states, z_choices, z_outcomes, z_sready, z_many], [z_fc, z_role, z_holds, z_fu, z_taken, z_fo, z_home, z_row, z_fout, z_offer, z_oc], [z_size, z_policies, z_found, z_told], [z_policy]) K E := by
  refine hw_meth hU hv_DG ⟨rfl, rfl⟩ (fun w X hs hX hF => ?_)
  have rm_i := hv_rm_b (i)
  have cuts : ∀ n : Nat, (∀ (q : Int), q ≤ z_size i → (q).toNat < n → w (0, [some (hw_R 0 i)], [], ([z_used, z_broken, z_fed, z_textEnd, z_made, z_mready, z_modules, z_actions, z_target, z_variables, z_commands, z_updates, z_steps, z_waiting, z_nested, z_type, z_wantsOperand, z_variablesKnown, z_names, z_ownFrom, z_at, z_wrongAt, z_parties, z_states, z_choices, z_outcomes, z_sready, z_many], [z_fc, z_role, z_holds, z_fu, z_taken, z_fo, z_home, z_row, z_fout, z_offer, z_oc], [hw_up z_size i q, z_policies, z_found, z_told], [z_policy]))) := by
    intro n
    induction n with
    | zero =>
      repeat' (first | refine And.intro ?_ ?_ | intro _)
      all_goals omega
    | succ n ih =>
      intros
      refine hs [] _ rfl ?_
      conv => whnf
      repeat' (first | refine hw_ex32 ⟨by omega, by omega⟩ ?_ | (intro h; exact absurd h (by decide)) | intro _ | refine And.intro ?_ ?_ | (refine hs [0] _ rfl ?_; conv => whnf) | apply ih | (rw [hw_up_up]; apply ih) | apply hK | (rw [hw_up_up]; apply hK))
      (all_goals clear ih); all_goals (first | exact Nat.lt_succ_self _ | omega | (clear hs hX hF hK; simp only [hw_up, hw_lqe, if_true] at *; omega) | skip)
  rw [hw_up_id z_size i]
  repeat' (first | refine hw_ex32 ⟨by omega, by omega⟩ ?_ | (intro h; exact absurd h (by decide)) | intro _ | refine And.intro ?_ ?_ | (refine hs [0] _ rfl ?_; conv => whnf) | apply (cuts _) | (rw [hw_up_up]; apply (cuts _)) | apply hK | (rw [hw_up_up]; apply hK))
  all_goals (first | exact Nat.lt_succ_self _ | omega | (clear hs hX hF hK; simp only [hw_up, hw_lqe, if_true] at *; omega) | skip)
theorem c_stretch (hU : hw_U (hv_T kof own)) {i m : Int} (hK : ∀ q, m ≤ hv_rm i → m ≤ q → z_size i ≤ q → K (some (hw_I 1)) ([z_used, z_broken, z_fed, z_textEnd, z_made, z_mready, z_modules, z_actions, z_target, z_variables, z_commands, z_updates, z_steps, z_waiting, z_nested, z_type, z_wantsOperand, z_variablesKnown, z_names, z_ownFrom, z_at, z_wrongAt, z_parties, z_states, z_choices, z_outcomes, z_sready, z_many], [z_fc, z_role, z_holds, z_fu, z_taken, z_fo, z_home, z_row, z_fout, z_offer, z_oc], [hw_up z_size i q, z_policies, z_found, z_told], [z_policy])) (hK1 : hv_rm i < m → K (some (hw_I 0)) ([z_used, z_broken, z_fed, z_textEnd, z_made, z_mready, z_modules, z_actions, z_target, z_variables, z_commands, z_updates, z_steps, z_waiting, z_nested, z_type, z_wantsOperand, z_variablesKnown, z_names, z_ownFrom, z_at, z_wrongAt, z_parties, z_states, z_choices, z_outcomes, z_sready, z_many], [z_fc, z_role, z_holds, z_fu, z_taken, z_fo, z_home, z_row, z_fout, z_offer, z_oc], [z_size, z_policies, z_found, z_told], [z_policy])) : hw_C pg_G pg_TT scr (hv_T kof own) (d + 1) 131 [hw_R 0 i, hw_I m] ([z_used, z_broken, z_fed, z_textEnd, z_made, z_mready, z_modules, z_actions, z_target, z_variables, z_commands, z_updates, z_steps, z_waiting, z_nested, z_type, z_wantsOperand, z_variablesKnown, z_names, z_ownFrom, z_at, z_wrongAt, z_parties, z_states, z_choices, z_outcomes, z_sready, z_many], [z_fc, z_role, z_holds, z_fu, z_taken, z_fo, z_home, z_row, z_fout, z_offer, z_oc], [z_size, z_policies, z_found, z_told], [z_policy]) K E := by
  refine hw_meth hU hv_DG ⟨rfl, rfl⟩ (fun w X hs hX hF => ?_)
  have rm_i := hv_rm_b (i)
  have cuts : ∀ n : Nat, (∀ (q : Int), m ≤ hv_rm i → z_size i ≤ q → (m - q).toNat < n → w (11, [some (hw_R 0 i), some (hw_I (m))], [], ([z_used, z_broken, z_fed, z_textEnd, z_made, z_mready, z_modules, z_actions, z_target, z_variables, z_commands, z_updates, z_steps, z_waiting, z_nested, z_type, z_wantsOperand, z_variablesKnown, z_names, z_ownFrom, z_at, z_wrongAt, z_parties, z_states, z_choices, z_outcomes, z_sready, z_many], [z_fc, z_role, z_holds, z_fu, z_taken, z_fo, z_home, z_row, z_fout, z_offer, z_oc], [hw_up z_size i q, z_policies, z_found, z_told], [z_policy]))) := by
    intro n
    induction n with
    | zero =>
      repeat' (first | refine And.intro ?_ ?_ | intro _)
      all_goals omega
    | succ n ih =>
      intros
      refine hs [] _ rfl ?_
      conv => whnf
      repeat' (first | refine hw_ex32 ⟨by omega, by omega⟩ ?_ | (intro h; exact absurd h (by decide)) | intro _ | refine And.intro ?_ ?_ | (refine hs [11] _ rfl ?_; conv => whnf) | apply ih | (rw [hw_up_up]; apply ih) | (rw [hw_up_id z_size i]; apply ih) | apply hK | apply hK1 | (rw [hw_up_up]; apply hK) | (rw [hw_up_up]; apply hK1) | (rw [hw_up_id z_size i]; apply hK) | (rw [hw_up_id z_size i]; apply hK1))
      (all_goals clear ih); all_goals (first | exact Nat.lt_succ_self _ | omega | (clear hs hX hF hK hK1; simp only [hw_up, hw_lqe, if_true] at *; omega) | skip)
  repeat' (first | refine hw_ex32 ⟨by omega, by omega⟩ ?_ | (intro h; exact absurd h (by decide)) | intro _ | refine And.intro ?_ ?_ | (refine hs [11] _ rfl ?_; conv => whnf) | apply (cuts _) | (rw [hw_up_up]; apply (cuts _)) | (rw [hw_up_id z_size i]; apply (cuts _)) | apply hK | apply hK1 | (rw [hw_up_up]; apply hK) | (rw [hw_up_up]; apply hK1) | (rw [hw_up_id z_size i]; apply hK) | (rw [hw_up_id z_size i]; apply hK1))
  all_goals (first | exact Nat.lt_succ_self _ | omega | (clear hs hX hF hK hK1; simp only [hw_up, hw_lqe, if_true] at *; omega) | skip)
theorem c_put (hU : hw_U (hv_T kof own)) {i x : Int} (hK : ∀ q, K none ([z_used, z_broken, z_fed, z_textEnd, z_made, z_mready, z_modules, z_actions, z_target, z_variables, z_commands, z_updates, z_steps, z_waiting, z_nested, z_type, z_wantsOperand, z_variablesKnown, z_names, z_ownFrom, z_at, z_wrongAt, z_parties, z_states, z_choices, z_outcomes, z_sready, z_many], [z_fc, z_role, z_holds, z_fu, z_taken, z_fo, z_home, z_row, z_fout, z_offer, z_oc], [hw_up z_size i q, z_policies, z_found, z_told], [z_policy])) : hw_C pg_G pg_TT scr (hv_T kof own) (d + 1) 11 [hw_R 0 i, hw_J x] ([z_used, z_broken, z_fed, z_textEnd, z_made, z_mready, z_modules, z_actions, z_target, z_variables, z_commands, z_updates, z_steps, z_waiting, z_nested, z_type, z_wantsOperand, z_variablesKnown, z_names, z_ownFrom, z_at, z_wrongAt, z_parties, z_states, z_choices, z_outcomes, z_sready, z_many], [z_fc, z_role, z_holds, z_fu, z_taken, z_fo, z_home, z_row, z_fout, z_offer, z_oc], [z_size, z_policies, z_found, z_told], [z_policy]) K E := by
  refine hw_meth hU hv_DG ⟨rfl, rfl⟩ (fun w X hs hX hF => ?_)
  have rm_i := hv_rm_b (i)
  have cuts : ∀ n : Nat, (∀ (q k r : Int), 0 ≤ k → k ≤ hv_rm i → (hv_rm i - k).toNat < n → w (10, [some (hw_R 0 i), some (hw_J (x)), none, some (hw_J (r)), none, some (hw_I (k))], [], ([z_used, z_broken, z_fed, z_textEnd, z_made, z_mready, z_modules, z_actions, z_target, z_variables, z_commands, z_updates, z_steps, z_waiting, z_nested, z_type, z_wantsOperand, z_variablesKnown, z_names, z_ownFrom, z_at, z_wrongAt, z_parties, z_states, z_choices, z_outcomes, z_sready, z_many], [z_fc, z_role, z_holds, z_fu, z_taken, z_fo, z_home, z_row, z_fout, z_offer, z_oc], [hw_up z_size i q, z_policies, z_found, z_told], [z_policy]))) := by
    intro n
    induction n with
    | zero =>
      repeat' (first | refine And.intro ?_ ?_ | intro _)
      all_goals omega
    | succ n ih =>
      intros
      refine hs [] _ rfl ?_
      conv => whnf
      repeat' (first | refine hw_ex32 ⟨by omega, by omega⟩ ?_ | (intro h; exact absurd h (by decide)) | intro _ | refine And.intro ?_ ?_ | (refine hs [10] _ rfl ?_; conv => whnf) | apply ih | (rw [hw_up_up]; apply ih) | apply hK | (rw [hw_up_up]; apply hK))
      (all_goals clear ih); all_goals (first | exact Nat.lt_succ_self _ | omega | (clear hs hX hF hK; simp only [hw_up, hw_lqe, if_true] at *; omega) | skip)
  repeat' (first | refine hw_ex32 ⟨by omega, by omega⟩ ?_ | (intro h; exact absurd h (by decide)) | intro _ | refine And.intro ?_ ?_ | (refine hs [10] _ rfl ?_; conv => whnf) | apply (cuts _) | (rw [hw_up_up]; apply (cuts _)) | apply hK | (rw [hw_up_up]; apply hK))
  all_goals (first | exact Nat.lt_succ_self _ | omega | (clear hs hX hF hK; simp only [hw_up, hw_lqe, if_true] at *; omega) | skip)
theorem c_digit (hU : hw_U (hv_T kof own)) {i k : Int} (hK : ∀ r, K (some (hw_I r)) ([z_used, z_broken, z_fed, z_textEnd, z_made, z_mready, z_modules, z_actions, z_target, z_variables, z_commands, z_updates, z_steps, z_waiting, z_nested, z_type, z_wantsOperand, z_variablesKnown, z_names, z_ownFrom, z_at, z_wrongAt, z_parties, z_states, z_choices, z_outcomes, z_sready, z_many], [z_fc, z_role, z_holds, z_fu, z_taken, z_fo, z_home, z_row, z_fout, z_offer, z_oc], [z_size, z_policies, z_found, z_told], [z_policy])) : hw_C pg_G pg_TT scr (hv_T kof own) (d + 1) 18 [hw_R 0 i, hw_I k] ([z_used, z_broken, z_fed, z_textEnd, z_made, z_mready, z_modules, z_actions, z_target, z_variables, z_commands, z_updates, z_steps, z_waiting, z_nested, z_type, z_wantsOperand, z_variablesKnown, z_names, z_ownFrom, z_at, z_wrongAt, z_parties, z_states, z_choices, z_outcomes, z_sready, z_many], [z_fc, z_role, z_holds, z_fu, z_taken, z_fo, z_home, z_row, z_fout, z_offer, z_oc], [z_size, z_policies, z_found, z_told], [z_policy]) K E := by
  refine hw_meth hU hv_DG ⟨rfl, rfl⟩ (fun w X hs hX hF => ?_)
  repeat' (first | refine hw_ex32 ⟨by omega, by omega⟩ ?_ | (intro h; exact absurd h (by decide)) | intro _ | refine And.intro ?_ ?_ | (refine hs [] _ rfl ?_; conv => whnf) | apply hK)
  all_goals (first | exact Nat.lt_succ_self _ | omega | (clear hs hX hF hK; simp only [hw_up, hw_lqe, if_true] at *; omega) | skip)
theorem c_small (hU : hw_U (hv_T kof own)) {i : Int} (hK : ∀ r, K (some (hw_J r)) ([z_used, z_broken, z_fed, z_textEnd, z_made, z_mready, z_modules, z_actions, z_target, z_variables, z_commands, z_updates, z_steps, z_waiting, z_nested, z_type, z_wantsOperand, z_variablesKnown, z_names, z_ownFrom, z_at, z_wrongAt, z_parties, z_states, z_choices, z_outcomes, z_sready, z_many], [z_fc, z_role, z_holds, z_fu, z_taken, z_fo, z_home, z_row, z_fout, z_offer, z_oc], [z_size, z_policies, z_found, z_told], [z_policy])) : hw_C pg_G pg_TT scr (hv_T kof own) (d + 2) 126 [hw_R 0 i] ([z_used, z_broken, z_fed, z_textEnd, z_made, z_mready, z_modules, z_actions, z_target, z_variables, z_commands, z_updates, z_steps, z_waiting, z_nested, z_type, z_wantsOperand, z_variablesKnown, z_names, z_ownFrom, z_at, z_wrongAt, z_parties, z_states, z_choices, z_outcomes, z_sready, z_many], [z_fc, z_role, z_holds, z_fu, z_taken, z_fo, z_home, z_row, z_fout, z_offer, z_oc], [z_size, z_policies, z_found, z_told], [z_policy]) K E := by
  refine hw_meth hU hv_DG ⟨rfl, rfl⟩ (fun w X hs hX hF => ?_)
  have rm_i := hv_rm_b (i)
  repeat' (first | refine hw_ex32 ⟨by omega, by omega⟩ ?_ | (intro h; exact absurd h (by decide)) | intro _ | refine And.intro ?_ ?_ | (refine hs [] _ rfl ?_; conv => whnf) | apply hK | (apply hX; apply c_digit hU))
  all_goals (first | exact Nat.lt_succ_self _ | omega | (clear hs hX hF hK; simp only [hw_up, hw_lqe, if_true] at *; omega) | skip)
theorem c_bitLength (hU : hw_U (hv_T kof own)) {i : Int} (hK : ∀ r, K (some (hw_I r)) ([z_used, z_broken, z_fed, z_textEnd, z_made, z_mready, z_modules, z_actions, z_target, z_variables, z_commands, z_updates, z_steps, z_waiting, z_nested, z_type, z_wantsOperand, z_variablesKnown, z_names, z_ownFrom, z_at, z_wrongAt, z_parties, z_states, z_choices, z_outcomes, z_sready, z_many], [z_fc, z_role, z_holds, z_fu, z_taken, z_fo, z_home, z_row, z_fout, z_offer, z_oc], [z_size, z_policies, z_found, z_told], [z_policy])) : hw_C pg_G pg_TT scr (hv_T kof own) (d + 2) 17 [hw_R 0 i] ([z_used, z_broken, z_fed, z_textEnd, z_made, z_mready, z_modules, z_actions, z_target, z_variables, z_commands, z_updates, z_steps, z_waiting, z_nested, z_type, z_wantsOperand, z_variablesKnown, z_names, z_ownFrom, z_at, z_wrongAt, z_parties, z_states, z_choices, z_outcomes, z_sready, z_many], [z_fc, z_role, z_holds, z_fu, z_taken, z_fo, z_home, z_row, z_fout, z_offer, z_oc], [z_size, z_policies, z_found, z_told], [z_policy]) K E := by
  refine hw_meth hU hv_DG ⟨rfl, rfl⟩ (fun w X hs hX hF => ?_)
  have rm_i := hv_rm_b (i)
  repeat' (first | refine hw_ex32 ⟨by omega, by omega⟩ ?_ | (intro h; exact absurd h (by decide)) | intro _ | refine And.intro ?_ ?_ | (refine hs [] _ rfl ?_; conv => whnf) | apply hK | (apply hX; apply c_digit hU) | (apply hX; apply c_nlz hU))
  all_goals (first | exact Nat.lt_succ_self _ | omega | (clear hs hX hF hK; simp only [hw_up, hw_lqe, if_true] at *; omega) | skip)
theorem c_head (hU : hw_U (hv_T kof own)) {i x y : Int} (hK : ∀ r, K (some (hw_J r)) ([z_used, z_broken, z_fed, z_textEnd, z_made, z_mready, z_modules, z_actions, z_target, z_variables, z_commands, z_updates, z_steps, z_waiting, z_nested, z_type, z_wantsOperand, z_variablesKnown, z_names, z_ownFrom, z_at, z_wrongAt, z_parties, z_states, z_choices, z_outcomes, z_sready, z_many], [z_fc, z_role, z_holds, z_fu, z_taken, z_fo, z_home, z_row, z_fout, z_offer, z_oc], [z_size, z_policies, z_found, z_told], [z_policy])) : hw_C pg_G pg_TT scr (hv_T kof own) (d + 2) 128 [hw_R 0 i, hw_I x, hw_I y] ([z_used, z_broken, z_fed, z_textEnd, z_made, z_mready, z_modules, z_actions, z_target, z_variables, z_commands, z_updates, z_steps, z_waiting, z_nested, z_type, z_wantsOperand, z_variablesKnown, z_names, z_ownFrom, z_at, z_wrongAt, z_parties, z_states, z_choices, z_outcomes, z_sready, z_many], [z_fc, z_role, z_holds, z_fu, z_taken, z_fo, z_home, z_row, z_fout, z_offer, z_oc], [z_size, z_policies, z_found, z_told], [z_policy]) K E := by
  refine hw_meth hU hv_DG ⟨rfl, rfl⟩ (fun w X hs hX hF => ?_)
  repeat' (first | refine hw_ex32 ⟨by omega, by omega⟩ ?_ | (intro h; exact absurd h (by decide)) | intro _ | refine And.intro ?_ ?_ | (refine hs [] _ rfl ?_; conv => whnf) | apply hK | (apply hX; apply c_digit hU))
  all_goals (first | exact Nat.lt_succ_self _ | omega | (clear hs hX hF hK; simp only [hw_up, hw_lqe, if_true] at *; omega) | skip)
theorem c_against (hU : hw_U (hv_T kof own)) {i j : Int} (hK : ∀ r, K (some (hw_I r)) ([z_used, z_broken, z_fed, z_textEnd, z_made, z_mready, z_modules, z_actions, z_target, z_variables, z_commands, z_updates, z_steps, z_waiting, z_nested, z_type, z_wantsOperand, z_variablesKnown, z_names, z_ownFrom, z_at, z_wrongAt, z_parties, z_states, z_choices, z_outcomes, z_sready, z_many], [z_fc, z_role, z_holds, z_fu, z_taken, z_fo, z_home, z_row, z_fout, z_offer, z_oc], [z_size, z_policies, z_found, z_told], [z_policy])) : hw_C pg_G pg_TT scr (hv_T kof own) (d + 2) 125 [hw_R 0 i, hw_R 0 j] ([z_used, z_broken, z_fed, z_textEnd, z_made, z_mready, z_modules, z_actions, z_target, z_variables, z_commands, z_updates, z_steps, z_waiting, z_nested, z_type, z_wantsOperand, z_variablesKnown, z_names, z_ownFrom, z_at, z_wrongAt, z_parties, z_states, z_choices, z_outcomes, z_sready, z_many], [z_fc, z_role, z_holds, z_fu, z_taken, z_fo, z_home, z_row, z_fout, z_offer, z_oc], [z_size, z_policies, z_found, z_told], [z_policy]) K E := by
  refine hw_meth hU hv_DG ⟨rfl, rfl⟩ (fun w X hs hX hF => ?_)
  have cuts : ∀ n : Nat, (∀ (k : Int), -1 ≤ k → k ≤ 2000 → (k + 1).toNat < n → w (35, [some (hw_R 0 i), some (hw_R 0 j), some (hw_I (k))], [], ([z_used, z_broken, z_fed, z_textEnd, z_made, z_mready, z_modules, z_actions, z_target, z_variables, z_commands, z_updates, z_steps, z_waiting, z_nested, z_type, z_wantsOperand, z_variablesKnown, z_names, z_ownFrom, z_at, z_wrongAt, z_parties, z_states, z_choices, z_outcomes, z_sready, z_many], [z_fc, z_role, z_holds, z_fu, z_taken, z_fo, z_home, z_row, z_fout, z_offer, z_oc], [z_size, z_policies, z_found, z_told], [z_policy]))) := by
    intro n
    induction n with
    | zero =>
      repeat' (first | refine And.intro ?_ ?_ | intro _)
      all_goals omega
    | succ n ih =>
      intros
      refine hs [] _ rfl ?_
      conv => whnf
      repeat' (first | refine hw_ex32 ⟨by omega, by omega⟩ ?_ | (intro h; exact absurd h (by decide)) | intro _ | refine And.intro ?_ ?_ | (refine hs [35] _ rfl ?_; conv => whnf) | apply ih | apply hK | (apply hX; apply c_digit hU))
      (all_goals clear ih); all_goals (first | exact Nat.lt_succ_self _ | omega | (clear hs hX hF hK; simp only [hw_up, hw_lqe, if_true] at *; omega) | skip)
  repeat' (first | refine hw_ex32 ⟨by omega, by omega⟩ ?_ | (intro h; exact absurd h (by decide)) | intro _ | refine And.intro ?_ ?_ | (refine hs [35] _ rfl ?_; conv => whnf) | apply (cuts _) | apply hK | (apply hX; apply c_digit hU))
  all_goals (first | exact Nat.lt_succ_self _ | omega | (clear hs hX hF hK; simp only [hw_up, hw_lqe, if_true] at *; omega) | skip)
theorem c_addProduct (hU : hw_U (hv_T kof own)) {i j k : Int} (hij : ¬ j = i) (hik : ¬ k = i) (hK : ∀ q, K none ([z_used, z_broken, z_fed, z_textEnd, z_made, z_mready, z_modules, z_actions, z_target, z_variables, z_commands, z_updates, z_steps, z_waiting, z_nested, z_type, z_wantsOperand, z_variablesKnown, z_names, z_ownFrom, z_at, z_wrongAt, z_parties, z_states, z_choices, z_outcomes, z_sready, z_many], [z_fc, z_role, z_holds, z_fu, z_taken, z_fo, z_home, z_row, z_fout, z_offer, z_oc], [hw_up z_size i q, z_policies, z_found, z_told], [z_policy])) (hK1 : K none ([z_used, z_broken, z_fed, z_textEnd, z_made, z_mready, z_modules, z_actions, z_target, z_variables, z_commands, z_updates, z_steps, z_waiting, z_nested, z_type, z_wantsOperand, z_variablesKnown, z_names, z_ownFrom, z_at, z_wrongAt, z_parties, z_states, z_choices, z_outcomes, z_sready, z_many], [z_fc, z_role, z_holds, z_fu, z_taken, z_fo, z_home, z_row, z_fout, z_offer, z_oc], [z_size, z_policies, z_found, z_told], [z_policy])) : hw_C pg_G pg_TT scr (hv_T kof own) (d + 2) 153 [hw_R 0 i, hw_R 0 j, hw_R 0 k] ([z_used, z_broken, z_fed, z_textEnd, z_made, z_mready, z_modules, z_actions, z_target, z_variables, z_commands, z_updates, z_steps, z_waiting, z_nested, z_type, z_wantsOperand, z_variablesKnown, z_names, z_ownFrom, z_at, z_wrongAt, z_parties, z_states, z_choices, z_outcomes, z_sready, z_many], [z_fc, z_role, z_holds, z_fu, z_taken, z_fo, z_home, z_row, z_fout, z_offer, z_oc], [z_size, z_policies, z_found, z_told], [z_policy]) K E := by
  refine hw_meth hU hv_DG ⟨rfl, rfl⟩ (fun w X hs hX hF => ?_)
  have rm_i := hv_rm_b (i)
  have rm_j := hv_rm_b (j)
  have rm_k := hv_rm_b (k)
  have cuts : ∀ n : Nat, (∀ (q a : Int) (ul00 ul01 ul02 ul03 ul04 ul05 ul06 : Option hw_V), z_size j + z_size k + 1 ≤ hv_rm i → 0 ≤ z_size j → 0 ≤ z_size k → 0 ≤ a → a ≤ z_size j → (1000000 * (z_size j - a) + 900000).toNat < n → w (42, [some (hw_R 0 i), some (hw_R 0 j), some (hw_R 0 k), some (hw_I (a)), ul00, ul01, ul02, ul03, ul04, ul05, ul06], [], ([z_used, z_broken, z_fed, z_textEnd, z_made, z_mready, z_modules, z_actions, z_target, z_variables, z_commands, z_updates, z_steps, z_waiting, z_nested, z_type, z_wantsOperand, z_variablesKnown, z_names, z_ownFrom, z_at, z_wrongAt, z_parties, z_states, z_choices, z_outcomes, z_sready, z_many], [z_fc, z_role, z_holds, z_fu, z_taken, z_fo, z_home, z_row, z_fout, z_offer, z_oc], [hw_up z_size i q, z_policies, z_found, z_told], [z_policy]))) ∧ (∀ (q a f c b : Int) (ul10 ul11 : Option hw_V), z_size j + z_size k + 1 ≤ hv_rm i → 0 ≤ z_size j → 0 ≤ z_size k → 0 ≤ a → a ≤ z_size j → a < z_size j → 0 ≤ b → b ≤ z_size k → (1000000 * (z_size j - a) + 100000 + z_size k - b).toNat < n → w (65, [some (hw_R 0 i), some (hw_R 0 j), some (hw_R 0 k), some (hw_I (a)), some (hw_J (f)), none, some (hw_J (c)), none, some (hw_I (b)), ul10, ul11], [], ([z_used, z_broken, z_fed, z_textEnd, z_made, z_mready, z_modules, z_actions, z_target, z_variables, z_commands, z_updates, z_steps, z_waiting, z_nested, z_type, z_wantsOperand, z_variablesKnown, z_names, z_ownFrom, z_at, z_wrongAt, z_parties, z_states, z_choices, z_outcomes, z_sready, z_many], [z_fc, z_role, z_holds, z_fu, z_taken, z_fo, z_home, z_row, z_fout, z_offer, z_oc], [hw_up z_size i q, z_policies, z_found, z_told], [z_policy]))) ∧ (∀ (q a f c b : Int) (ul20 ul21 : Option hw_V), z_size j + z_size k + 1 ≤ hv_rm i → 0 ≤ z_size j → 0 ≤ z_size k → 0 ≤ a → a ≤ z_size j → a < z_size j → 0 ≤ b → b ≤ 1000 → (1000000 * (z_size j - a) + 1000 - b).toNat < n → w (138, [some (hw_R 0 i), some (hw_R 0 j), some (hw_R 0 k), some (hw_I (a)), some (hw_J (f)), none, some (hw_J (c)), none, some (hw_I (b)), ul20, ul21], [], ([z_used, z_broken, z_fed, z_textEnd, z_made, z_mready, z_modules, z_actions, z_target, z_variables, z_commands, z_updates, z_steps, z_waiting, z_nested, z_type, z_wantsOperand, z_variablesKnown, z_names, z_ownFrom, z_at, z_wrongAt, z_parties, z_states, z_choices, z_outcomes, z_sready, z_many], [z_fc, z_role, z_holds, z_fu, z_taken, z_fo, z_home, z_row, z_fout, z_offer, z_oc], [hw_up z_size i q, z_policies, z_found, z_told], [z_policy]))) := by
    intro n
    induction n with
    | zero =>
      repeat' (first | refine And.intro ?_ ?_ | intro _)
      all_goals omega
    | succ n ih =>
      obtain ⟨ih0, ih1, ih2⟩ := ih
      refine ⟨?_, ?_, ?_⟩
      · intros
        refine hF (L' := [some _, some _, some _, some _, none, none, none, none, none, none, none]) (by repeat' (first | exact True.intro | refine And.intro rfl ?_)) ?_
        refine hs [] _ rfl ?_
        conv => whnf
        repeat' (first | refine hw_ex32 ⟨by omega, by omega⟩ ?_ | (intro h; exact absurd h (by decide)) | intro _ | refine And.intro ?_ ?_ | (refine hs [42, 65, 138] _ rfl ?_; conv => whnf) | apply ih0 | apply ih1 | apply ih2 | (rw [hw_up_up]; apply ih0) | (rw [hw_up_up]; apply ih1) | (rw [hw_up_up]; apply ih2) | apply hK | apply hK1 | (rw [hw_up_up]; apply hK) | (rw [hw_up_up]; apply hK1) | (apply hX; apply c_max hU) | (apply hX; apply c_stretch hU) | (apply hX; apply c_trim hU))
        (all_goals clear ih0 ih1 ih2); all_goals (first | exact Nat.lt_succ_self _ | omega | (clear hs hX hF hK hK1; simp only [hw_up, hw_lqe, if_true] at *; omega) | skip)
      · intros
        refine hF (L' := [some _, some _, some _, some _, some _, none, some _, none, some _, none, none]) (by repeat' (first | exact True.intro | refine And.intro rfl ?_)) ?_
        refine hs [] _ rfl ?_
        conv => whnf
        repeat' (first | refine hw_ex32 ⟨by omega, by omega⟩ ?_ | (intro h; exact absurd h (by decide)) | intro _ | refine And.intro ?_ ?_ | (refine hs [42, 65, 138] _ rfl ?_; conv => whnf) | apply ih0 | apply ih1 | apply ih2 | (rw [hw_up_up]; apply ih0) | (rw [hw_up_up]; apply ih1) | (rw [hw_up_up]; apply ih2) | apply hK | apply hK1 | (rw [hw_up_up]; apply hK) | (rw [hw_up_up]; apply hK1) | (apply hX; apply c_max hU) | (apply hX; apply c_stretch hU) | (apply hX; apply c_trim hU))
        (all_goals clear ih0 ih1 ih2); all_goals (first | exact Nat.lt_succ_self _ | omega | (clear hs hX hF hK hK1; simp only [hw_up, hw_lqe, if_true] at *; omega) | skip)
      · intros
        refine hF (L' := [some _, some _, some _, some _, some _, none, some _, none, some _, none, none]) (by repeat' (first | exact True.intro | refine And.intro rfl ?_)) ?_
        refine hs [] _ rfl ?_
        conv => whnf
        repeat' (first | refine hw_ex32 ⟨by omega, by omega⟩ ?_ | (intro h; exact absurd h (by decide)) | intro _ | refine And.intro ?_ ?_ | (refine hs [42, 65, 138] _ rfl ?_; conv => whnf) | apply ih0 | apply ih1 | apply ih2 | (rw [hw_up_up]; apply ih0) | (rw [hw_up_up]; apply ih1) | (rw [hw_up_up]; apply ih2) | apply hK | apply hK1 | (rw [hw_up_up]; apply hK) | (rw [hw_up_up]; apply hK1) | (apply hX; apply c_max hU) | (apply hX; apply c_stretch hU) | (apply hX; apply c_trim hU))
        (all_goals clear ih0 ih1 ih2); all_goals (first | exact Nat.lt_succ_self _ | omega | (clear hs hX hF hK hK1; simp only [hw_up, hw_lqe, if_true] at *; omega) | skip)
  repeat' (first | refine hw_ex32 ⟨by omega, by omega⟩ ?_ | (intro h; exact absurd h (by decide)) | intro _ | refine And.intro ?_ ?_ | (refine hs [42, 65, 138] _ rfl ?_; conv => whnf) | apply (cuts _).1 | apply (cuts _).2.1 | apply (cuts _).2.2 | (rw [hw_up_up]; apply (cuts _).1) | (rw [hw_up_up]; apply (cuts _).2.1) | (rw [hw_up_up]; apply (cuts _).2.2) | apply hK | apply hK1 | (rw [hw_up_up]; apply hK) | (rw [hw_up_up]; apply hK1) | (apply hX; apply c_max hU) | (apply hX; apply c_stretch hU) | (apply hX; apply c_trim hU))
  all_goals (first | exact Nat.lt_succ_self _ | omega | (clear hs hX hF hK hK1; simp only [hw_up, hw_lqe, if_true] at *; omega) | skip)
theorem c_toProduct (hU : hw_U (hv_T kof own)) {i j k : Int} (hij : ¬ j = i) (hik : ¬ k = i) (hK : ∀ q, K none ([z_used, z_broken, z_fed, z_textEnd, z_made, z_mready, z_modules, z_actions, z_target, z_variables, z_commands, z_updates, z_steps, z_waiting, z_nested, z_type, z_wantsOperand, z_variablesKnown, z_names, z_ownFrom, z_at, z_wrongAt, z_parties, z_states, z_choices, z_outcomes, z_sready, z_many], [z_fc, z_role, z_holds, z_fu, z_taken, z_fo, z_home, z_row, z_fout, z_offer, z_oc], [hw_up z_size i q, z_policies, z_found, z_told], [z_policy])) : hw_C pg_G pg_TT scr (hv_T kof own) (d + 3) 152 [hw_R 0 i, hw_R 0 j, hw_R 0 k] ([z_used, z_broken, z_fed, z_textEnd, z_made, z_mready, z_modules, z_actions, z_target, z_variables, z_commands, z_updates, z_steps, z_waiting, z_nested, z_type, z_wantsOperand, z_variablesKnown, z_names, z_ownFrom, z_at, z_wrongAt, z_parties, z_states, z_choices, z_outcomes, z_sready, z_many], [z_fc, z_role, z_holds, z_fu, z_taken, z_fo, z_home, z_row, z_fout, z_offer, z_oc], [z_size, z_policies, z_found, z_told], [z_policy]) K E := by
  refine hw_meth hU hv_DG ⟨rfl, rfl⟩ (fun w X hs hX hF => ?_)
  have rm_i := hv_rm_b (i)
  repeat' (first | refine hw_ex32 ⟨by omega, by omega⟩ ?_ | (intro h; exact absurd h (by decide)) | intro _ | refine And.intro ?_ ?_ | (refine hs [] _ rfl ?_; conv => whnf) | apply hK | (rw [hw_up_up]; apply hK) | (apply hX; apply c_addProduct hU))
  all_goals (first | assumption | omega)
theorem c_copy (hU : hw_U (hv_T kof own)) {i j : Int} (hK : ∀ q, K none ([z_used, z_broken, z_fed, z_textEnd, z_made, z_mready, z_modules, z_actions, z_target, z_variables, z_commands, z_updates, z_steps, z_waiting, z_nested, z_type, z_wantsOperand, z_variablesKnown, z_names, z_ownFrom, z_at, z_wrongAt, z_parties, z_states, z_choices, z_outcomes, z_sready, z_many], [z_fc, z_role, z_holds, z_fu, z_taken, z_fo, z_home, z_row, z_fout, z_offer, z_oc], [hw_up z_size i q, z_policies, z_found, z_told], [z_policy])) : hw_C pg_G pg_TT scr (hv_T kof own) (d + 2) 123 [hw_R 0 i, hw_R 0 j] ([z_used, z_broken, z_fed, z_textEnd, z_made, z_mready, z_modules, z_actions, z_target, z_variables, z_commands, z_updates, z_steps, z_waiting, z_nested, z_type, z_wantsOperand, z_variablesKnown, z_names, z_ownFrom, z_at, z_wrongAt, z_parties, z_states, z_choices, z_outcomes, z_sready, z_many], [z_fc, z_role, z_holds, z_fu, z_taken, z_fo, z_home, z_row, z_fout, z_offer, z_oc], [z_size, z_policies, z_found, z_told], [z_policy]) K E := by
  refine hw_meth hU hv_DG ⟨rfl, rfl⟩ (fun w X hs hX hF => ?_)
  have rm_i := hv_rm_b (i)
  have rm_j := hv_rm_b (j)
  repeat' (first | refine hw_ex32 ⟨by omega, by omega⟩ ?_ | (intro h; exact absurd h (by decide)) | intro _ | refine And.intro ?_ ?_ | (refine hs [] _ rfl ?_; conv => whnf) | apply hK | (rw [hw_up_up]; apply hK) | (apply hX; apply c_min hU))
  all_goals (first | exact Nat.lt_succ_self _ | omega | (clear hs hX hF hK; simp only [hw_up, hw_lqe, if_true] at *; omega) | skip)
theorem c_subtract (hU : hw_U (hv_T kof own)) {i j : Int} (hK : ∀ q, K none ([z_used, z_broken, z_fed, z_textEnd, z_made, z_mready, z_modules, z_actions, z_target, z_variables, z_commands, z_updates, z_steps, z_waiting, z_nested, z_type, z_wantsOperand, z_variablesKnown, z_names, z_ownFrom, z_at, z_wrongAt, z_parties, z_states, z_choices, z_outcomes, z_sready, z_many], [z_fc, z_role, z_holds, z_fu, z_taken, z_fo, z_home, z_row, z_fout, z_offer, z_oc], [hw_up z_size i q, z_policies, z_found, z_told], [z_policy])) : hw_C pg_G pg_TT scr (hv_T kof own) (d + 2) 155 [hw_R 0 i, hw_R 0 j] ([z_used, z_broken, z_fed, z_textEnd, z_made, z_mready, z_modules, z_actions, z_target, z_variables, z_commands, z_updates, z_steps, z_waiting, z_nested, z_type, z_wantsOperand, z_variablesKnown, z_names, z_ownFrom, z_at, z_wrongAt, z_parties, z_states, z_choices, z_outcomes, z_sready, z_many], [z_fc, z_role, z_holds, z_fu, z_taken, z_fo, z_home, z_row, z_fout, z_offer, z_oc], [z_size, z_policies, z_found, z_told], [z_policy]) K E := by
  refine hw_meth hU hv_DG ⟨rfl, rfl⟩ (fun w X hs hX hF => ?_)
  have rm_i := hv_rm_b (i)
  have cuts : ∀ n : Nat, (∀ (c b : Int) (ulp0 ulp1 : Option hw_V), 0 ≤ b → b ≤ 1000 → (1000 - b).toNat < n → w (5, [some (hw_R 0 i), some (hw_R 0 j), some (hw_J (c)), none, some (hw_I (b)), ulp0, ulp1], [], ([z_used, z_broken, z_fed, z_textEnd, z_made, z_mready, z_modules, z_actions, z_target, z_variables, z_commands, z_updates, z_steps, z_waiting, z_nested, z_type, z_wantsOperand, z_variablesKnown, z_names, z_ownFrom, z_at, z_wrongAt, z_parties, z_states, z_choices, z_outcomes, z_sready, z_many], [z_fc, z_role, z_holds, z_fu, z_taken, z_fo, z_home, z_row, z_fout, z_offer, z_oc], [z_size, z_policies, z_found, z_told], [z_policy]))) := by
    intro n
    induction n with
    | zero =>
      repeat' (first | refine And.intro ?_ ?_ | intro _)
      all_goals omega
    | succ n ih =>
      intros
      refine hF (L' := [some _, some _, some _, none, some _, none, none]) (by repeat' (first | exact True.intro | refine And.intro rfl ?_)) ?_
      refine hs [] _ rfl ?_
      conv => whnf
      repeat' (first | refine hw_ex32 ⟨by omega, by omega⟩ ?_ | (intro h; exact absurd h (by decide)) | intro _ | refine And.intro ?_ ?_ | (refine hs [5] _ rfl ?_; conv => whnf) | apply ih | apply hK | (apply hX; apply c_digit hU) | (apply hX; apply c_trim hU))
      (all_goals clear ih); all_goals (first | exact Nat.lt_succ_self _ | omega | (clear hs hX hF hK; simp only [hw_up, hw_lqe, if_true] at *; omega) | skip)
  repeat' (first | refine hw_ex32 ⟨by omega, by omega⟩ ?_ | (intro h; exact absurd h (by decide)) | intro _ | refine And.intro ?_ ?_ | (refine hs [5] _ rfl ?_; conv => whnf) | apply (cuts _) | apply hK | (apply hX; apply c_digit hU) | (apply hX; apply c_trim hU))
  all_goals (first | exact Nat.lt_succ_self _ | omega | (clear hs hX hF hK; simp only [hw_up, hw_lqe, if_true] at *; omega) | skip)
theorem c_shiftUp (hU : hw_U (hv_T kof own)) {i x : Int} (hK : ∀ q, K none ([z_used, z_broken, z_fed, z_textEnd, z_made, z_mready, z_modules, z_actions, z_target, z_variables, z_commands, z_updates, z_steps, z_waiting, z_nested, z_type, z_wantsOperand, z_variablesKnown, z_names, z_ownFrom, z_at, z_wrongAt, z_parties, z_states, z_choices, z_outcomes, z_sready, z_many], [z_fc, z_role, z_holds, z_fu, z_taken, z_fo, z_home, z_row, z_fout, z_offer, z_oc], [hw_up z_size i q, z_policies, z_found, z_told], [z_policy])) : hw_C pg_G pg_TT scr (hv_T kof own) (d + 1) 134 [hw_R 0 i, hw_I x] ([z_used, z_broken, z_fed, z_textEnd, z_made, z_mready, z_modules, z_actions, z_target, z_variables, z_commands, z_updates, z_steps, z_waiting, z_nested, z_type, z_wantsOperand, z_variablesKnown, z_names, z_ownFrom, z_at, z_wrongAt, z_parties, z_states, z_choices, z_outcomes, z_sready, z_many], [z_fc, z_role, z_holds, z_fu, z_taken, z_fo, z_home, z_row, z_fout, z_offer, z_oc], [z_size, z_policies, z_found, z_told], [z_policy]) K E := by
  refine hw_meth hU hv_DG ⟨rfl, rfl⟩ (fun w X hs hX hF => ?_)
  have rm_i := hv_rm_b (i)
  have cuts : ∀ n : Nat, (∀ (c b : Int) (ulp0 ulp1 : Option hw_V), 0 ≤ b → b ≤ 1000 → (1000 - b).toNat < n → w (5, [some (hw_R 0 i), some (hw_I (x)), some (hw_J (c)), none, some (hw_I (b)), ulp0, ulp1], [], ([z_used, z_broken, z_fed, z_textEnd, z_made, z_mready, z_modules, z_actions, z_target, z_variables, z_commands, z_updates, z_steps, z_waiting, z_nested, z_type, z_wantsOperand, z_variablesKnown, z_names, z_ownFrom, z_at, z_wrongAt, z_parties, z_states, z_choices, z_outcomes, z_sready, z_many], [z_fc, z_role, z_holds, z_fu, z_taken, z_fo, z_home, z_row, z_fout, z_offer, z_oc], [z_size, z_policies, z_found, z_told], [z_policy]))) := by
    intro n
    induction n with
    | zero =>
      repeat' (first | refine And.intro ?_ ?_ | intro _)
      all_goals omega
    | succ n ih =>
      intros
      refine hF (L' := [some _, some _, some _, none, some _, none, none]) (by repeat' (first | exact True.intro | refine And.intro rfl ?_)) ?_
      refine hs [] _ rfl ?_
      conv => whnf
      repeat' (first | refine hw_ex32 ⟨by omega, by omega⟩ ?_ | (intro h; exact absurd h (by decide)) | intro _ | refine And.intro ?_ ?_ | (refine hs [5] _ rfl ?_; conv => whnf) | apply ih | (rw [hw_up_id z_size i]; apply ih) | apply hK | (rw [hw_up_id z_size i]; apply hK))
      (all_goals clear ih); all_goals (first | exact Nat.lt_succ_self _ | omega | (clear hs hX hF hK; simp only [hw_up, hw_lqe, if_true] at *; omega) | skip)
  repeat' (first | refine hw_ex32 ⟨by omega, by omega⟩ ?_ | (intro h; exact absurd h (by decide)) | intro _ | refine And.intro ?_ ?_ | (refine hs [5] _ rfl ?_; conv => whnf) | apply (cuts _) | (rw [hw_up_id z_size i]; apply (cuts _)) | apply hK | (rw [hw_up_id z_size i]; apply hK))
  all_goals (first | exact Nat.lt_succ_self _ | omega | (clear hs hX hF hK; simp only [hw_up, hw_lqe, if_true] at *; omega) | skip)
theorem c_shiftDown (hU : hw_U (hv_T kof own)) {i x : Int} (hK : ∀ q, K none ([z_used, z_broken, z_fed, z_textEnd, z_made, z_mready, z_modules, z_actions, z_target, z_variables, z_commands, z_updates, z_steps, z_waiting, z_nested, z_type, z_wantsOperand, z_variablesKnown, z_names, z_ownFrom, z_at, z_wrongAt, z_parties, z_states, z_choices, z_outcomes, z_sready, z_many], [z_fc, z_role, z_holds, z_fu, z_taken, z_fo, z_home, z_row, z_fout, z_offer, z_oc], [hw_up z_size i q, z_policies, z_found, z_told], [z_policy])) : hw_C pg_G pg_TT scr (hv_T kof own) (d + 2) 137 [hw_R 0 i, hw_I x] ([z_used, z_broken, z_fed, z_textEnd, z_made, z_mready, z_modules, z_actions, z_target, z_variables, z_commands, z_updates, z_steps, z_waiting, z_nested, z_type, z_wantsOperand, z_variablesKnown, z_names, z_ownFrom, z_at, z_wrongAt, z_parties, z_states, z_choices, z_outcomes, z_sready, z_many], [z_fc, z_role, z_holds, z_fu, z_taken, z_fo, z_home, z_row, z_fout, z_offer, z_oc], [z_size, z_policies, z_found, z_told], [z_policy]) K E := by
  refine hw_meth hU hv_DG ⟨rfl, rfl⟩ (fun w X hs hX hF => ?_)
  have rm_i := hv_rm_b (i)
  have cuts : ∀ n : Nat, (∀ (c b : Int) (ulp0 ulp1 : Option hw_V), -1 ≤ b → b < z_size i → z_size i ≤ hv_rm i → (b + 1).toNat < n → w (10, [some (hw_R 0 i), some (hw_I (x)), some (hw_J (c)), none, some (hw_I (b)), ulp0, ulp1], [], ([z_used, z_broken, z_fed, z_textEnd, z_made, z_mready, z_modules, z_actions, z_target, z_variables, z_commands, z_updates, z_steps, z_waiting, z_nested, z_type, z_wantsOperand, z_variablesKnown, z_names, z_ownFrom, z_at, z_wrongAt, z_parties, z_states, z_choices, z_outcomes, z_sready, z_many], [z_fc, z_role, z_holds, z_fu, z_taken, z_fo, z_home, z_row, z_fout, z_offer, z_oc], [z_size, z_policies, z_found, z_told], [z_policy]))) := by
    intro n
    induction n with
    | zero =>
      repeat' (first | refine And.intro ?_ ?_ | intro _)
      all_goals omega
    | succ n ih =>
      intros
      refine hF (L' := [some _, some _, some _, none, some _, none, none]) (by repeat' (first | exact True.intro | refine And.intro rfl ?_)) ?_
      refine hs [] _ rfl ?_
      conv => whnf
      repeat' (first | refine hw_ex32 ⟨by omega, by omega⟩ ?_ | (intro h; exact absurd h (by decide)) | intro _ | refine And.intro ?_ ?_ | (refine hs [10] _ rfl ?_; conv => whnf) | apply ih | apply hK | (apply hX; apply c_trim hU))
      (all_goals clear ih); all_goals (first | exact Nat.lt_succ_self _ | omega | (clear hs hX hF hK; simp only [hw_up, hw_lqe, if_true] at *; omega) | skip)
  repeat' (first | refine hw_ex32 ⟨by omega, by omega⟩ ?_ | (intro h; exact absurd h (by decide)) | intro _ | refine And.intro ?_ ?_ | (refine hs [10] _ rfl ?_; conv => whnf) | apply (cuts _) | apply hK | (apply hX; apply c_trim hU))
  all_goals (first | exact Nat.lt_succ_self _ | omega | (clear hs hX hF hK; simp only [hw_up, hw_lqe, if_true] at *; omega) | skip)
theorem c_addMultiple (hU : hw_U (hv_T kof own)) {i j x y : Int} (hy : 0 ≤ y ∧ y ≤ 2000) (hK : ∀ r, K (some (hw_J r)) ([z_used, z_broken, z_fed, z_textEnd, z_made, z_mready, z_modules, z_actions, z_target, z_variables, z_commands, z_updates, z_steps, z_waiting, z_nested, z_type, z_wantsOperand, z_variablesKnown, z_names, z_ownFrom, z_at, z_wrongAt, z_parties, z_states, z_choices, z_outcomes, z_sready, z_many], [z_fc, z_role, z_holds, z_fu, z_taken, z_fo, z_home, z_row, z_fout, z_offer, z_oc], [z_size, z_policies, z_found, z_told], [z_policy])) : hw_C pg_G pg_TT scr (hv_T kof own) (d + 1) 136 [hw_R 0 i, hw_R 0 j, hw_J x, hw_I y] ([z_used, z_broken, z_fed, z_textEnd, z_made, z_mready, z_modules, z_actions, z_target, z_variables, z_commands, z_updates, z_steps, z_waiting, z_nested, z_type, z_wantsOperand, z_variablesKnown, z_names, z_ownFrom, z_at, z_wrongAt, z_parties, z_states, z_choices, z_outcomes, z_sready, z_many], [z_fc, z_role, z_holds, z_fu, z_taken, z_fo, z_home, z_row, z_fout, z_offer, z_oc], [z_size, z_policies, z_found, z_told], [z_policy]) K E := by
  refine hw_meth hU hv_DG ⟨rfl, rfl⟩ (fun w X hs hX hF => ?_)
  have rm_i := hv_rm_b (i)
  have rm_j := hv_rm_b (j)
  have cuts : ∀ n : Nat, (∀ (c b : Int) (ulp0 ulp1 : Option hw_V), 0 ≤ b → b ≤ 1000 → (1000 - b).toNat < n → w (6, [some (hw_R 0 i), some (hw_R 0 j), some (hw_J (x)), none, some (hw_I (y)), some (hw_J (c)), none, some (hw_I (b)), ulp0, ulp1], [], ([z_used, z_broken, z_fed, z_textEnd, z_made, z_mready, z_modules, z_actions, z_target, z_variables, z_commands, z_updates, z_steps, z_waiting, z_nested, z_type, z_wantsOperand, z_variablesKnown, z_names, z_ownFrom, z_at, z_wrongAt, z_parties, z_states, z_choices, z_outcomes, z_sready, z_many], [z_fc, z_role, z_holds, z_fu, z_taken, z_fo, z_home, z_row, z_fout, z_offer, z_oc], [z_size, z_policies, z_found, z_told], [z_policy]))) := by
    intro n
    induction n with
    | zero =>
      repeat' (first | refine And.intro ?_ ?_ | intro _)
      all_goals omega
    | succ n ih =>
      intros
      refine hF (L' := [some _, some _, some _, none, some _, some _, none, some _, none, none]) (by repeat' (first | exact True.intro | refine And.intro rfl ?_)) ?_
      refine hs [] _ rfl ?_
      conv => whnf
      repeat' (first | refine hw_ex32 ⟨by omega, by omega⟩ ?_ | (intro h; exact absurd h (by decide)) | intro _ | refine And.intro ?_ ?_ | (refine hs [6] _ rfl ?_; conv => whnf) | apply ih | apply hK)
      (all_goals clear ih); all_goals (first | exact Nat.lt_succ_self _ | omega | (clear hs hX hF hK; simp only [hw_up, hw_lqe, if_true] at *; omega) | skip)
  repeat' (first | refine hw_ex32 ⟨by omega, by omega⟩ ?_ | (intro h; exact absurd h (by decide)) | intro _ | refine And.intro ?_ ?_ | (refine hs [6] _ rfl ?_; conv => whnf) | apply (cuts _) | apply hK)
  all_goals (first | exact Nat.lt_succ_self _ | omega | (clear hs hX hF hK; simp only [hw_up, hw_lqe, if_true] at *; omega) | skip)
theorem c_takeOff (hU : hw_U (hv_T kof own)) {i j y : Int} (hy : 0 ≤ y ∧ y ≤ 2000) (hK : ∀ r, K (some (hw_I r)) ([z_used, z_broken, z_fed, z_textEnd, z_made, z_mready, z_modules, z_actions, z_target, z_variables, z_commands, z_updates, z_steps, z_waiting, z_nested, z_type, z_wantsOperand, z_variablesKnown, z_names, z_ownFrom, z_at, z_wrongAt, z_parties, z_states, z_choices, z_outcomes, z_sready, z_many], [z_fc, z_role, z_holds, z_fu, z_taken, z_fo, z_home, z_row, z_fout, z_offer, z_oc], [z_size, z_policies, z_found, z_told], [z_policy])) : hw_C pg_G pg_TT scr (hv_T kof own) (d + 2) 135 [hw_R 0 i, hw_R 0 j, hw_I y] ([z_used, z_broken, z_fed, z_textEnd, z_made, z_mready, z_modules, z_actions, z_target, z_variables, z_commands, z_updates, z_steps, z_waiting, z_nested, z_type, z_wantsOperand, z_variablesKnown, z_names, z_ownFrom, z_at, z_wrongAt, z_parties, z_states, z_choices, z_outcomes, z_sready, z_many], [z_fc, z_role, z_holds, z_fu, z_taken, z_fo, z_home, z_row, z_fout, z_offer, z_oc], [z_size, z_policies, z_found, z_told], [z_policy]) K E := by
  refine hw_meth hU hv_DG ⟨rfl, rfl⟩ (fun w X hs hX hF => ?_)
  have rm_i := hv_rm_b (i)
  have rm_j := hv_rm_b (j)
  have cuts : ∀ n : Nat, (∀ (m f h g r b : Int), 0 ≤ b → b ≤ 3 → (3 - b).toNat < n → w (65, [some (hw_R 0 i), some (hw_R 0 j), some (hw_I (y)), some (hw_I (m)), some (hw_J (f)), none, some (hw_J (h)), none, some (hw_J (g)), none, some (hw_J (r)), none, some (hw_I (b))], [], ([z_used, z_broken, z_fed, z_textEnd, z_made, z_mready, z_modules, z_actions, z_target, z_variables, z_commands, z_updates, z_steps, z_waiting, z_nested, z_type, z_wantsOperand, z_variablesKnown, z_names, z_ownFrom, z_at, z_wrongAt, z_parties, z_states, z_choices, z_outcomes, z_sready, z_many], [z_fc, z_role, z_holds, z_fu, z_taken, z_fo, z_home, z_row, z_fout, z_offer, z_oc], [z_size, z_policies, z_found, z_told], [z_policy]))) := by
    intro n
    induction n with
    | zero =>
      repeat' (first | refine And.intro ?_ ?_ | intro _)
      all_goals omega
    | succ n ih =>
      intros
      refine hs [] _ rfl ?_
      conv => whnf
      repeat' (first | refine hw_ex32 ⟨by omega, by omega⟩ ?_ | (intro h; exact absurd h (by decide)) | intro _ | refine And.intro ?_ ?_ | (refine hs [65] _ rfl ?_; conv => whnf) | apply ih | apply hK | (apply hX; apply c_digit hU) | (apply hX; apply c_addMultiple hU))
      (all_goals clear ih); all_goals (first | exact Nat.lt_succ_self _ | omega | (clear hs hX hF hK; simp only [hw_up, hw_lqe, if_true] at *; omega) | skip)
  repeat' (first | refine hw_ex32 ⟨by omega, by omega⟩ ?_ | (intro h; exact absurd h (by decide)) | intro _ | refine And.intro ?_ ?_ | (refine hs [65] _ rfl ?_; conv => whnf) | apply (cuts _) | apply hK | (apply hX; apply c_digit hU) | (apply hX; apply c_addMultiple hU))
  all_goals (first | exact Nat.lt_succ_self _ | omega | (clear hs hX hF hK; simp only [hw_up, hw_lqe, if_true] at *; omega) | skip)
end C43
