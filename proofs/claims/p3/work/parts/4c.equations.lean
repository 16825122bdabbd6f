/-! the class: quotients, Equations -/
section C4c
variable {scr : Nat × (Nat → Int32)} {d : Nat} {K : Option hw_V → hw_Z → Prop} {E : Nat → hw_Z → Prop} {Z : hw_Z} {kof : Nat → Nat × Int} {own : Nat → Prop} {z_used z_broken z_fed z_textEnd z_made z_mready z_modules z_actions z_target z_variables z_commands z_updates z_steps z_waiting z_nested z_type z_wantsOperand z_variablesKnown z_names z_ownFrom z_at z_wrongAt z_parties z_states z_choices z_outcomes z_sready z_many : Int} {z_fc z_role z_holds z_fu z_taken z_fo z_home z_row z_fout z_offer z_oc z_size z_policies z_found z_told : Int → Int} {z_policy : Int → Int → Int}
theorem c_quotA (hU : hw_U (hv_T kof own)) {i j k : Int} (hij : ¬ j = i) (hik : ¬ k = i) (hK : ∀ (v : Int → Int), K none ([z_used, z_broken, z_fed, z_textEnd, z_made, z_mready, z_modules, z_actions, z_target, z_variables, z_commands, z_updates, z_steps, z_waiting, z_nested, z_type, z_wantsOperand, z_variablesKnown, z_names, z_ownFrom, z_at, z_wrongAt, z_parties, z_states, z_choices, z_outcomes, z_sready, z_many], [z_fc, z_role, z_holds, z_fu, z_taken, z_fo, z_home, z_row, z_fout, z_offer, z_oc], [v, z_policies, z_found, z_told], [z_policy])) : hw_C pg_G pg_TT scr (hv_T kof own) (d + 3) 133 [hw_R 0 i, hw_R 0 j, hw_R 0 k] ([z_used, z_broken, z_fed, z_textEnd, z_made, z_mready, z_modules, z_actions, z_target, z_variables, z_commands, z_updates, z_steps, z_waiting, z_nested, z_type, z_wantsOperand, z_variablesKnown, z_names, z_ownFrom, z_at, z_wrongAt, z_parties, z_states, z_choices, z_outcomes, z_sready, z_many], [z_fc, z_role, z_holds, z_fu, z_taken, z_fo, z_home, z_row, z_fout, z_offer, z_oc], [z_size, z_policies, z_found, z_told], [z_policy]) K E := by
  refine hw_meth hU hv_DG ⟨rfl, rfl⟩ (fun w X hs hX hF => ?_)
  have rm_i := hv_rm_b (i)
  have rm_j := hv_rm_b (j)
  have rm_k := hv_rm_b (k)
  have cuts : ∀ n : Nat, (∀ (s a : Int) (v : Int → Int), a < hv_rm i → (a + 1).toNat < n → w (76, [some (hw_R 0 i), some (hw_R 0 j), some (hw_R 0 k), some (hw_I (s)), some (hw_I (a))], [], ([z_used, z_broken, z_fed, z_textEnd, z_made, z_mready, z_modules, z_actions, z_target, z_variables, z_commands, z_updates, z_steps, z_waiting, z_nested, z_type, z_wantsOperand, z_variablesKnown, z_names, z_ownFrom, z_at, z_wrongAt, z_parties, z_states, z_choices, z_outcomes, z_sready, z_many], [z_fc, z_role, z_holds, z_fu, z_taken, z_fo, z_home, z_row, z_fout, z_offer, z_oc], [v, z_policies, z_found, z_told], [z_policy]))) := by
    intro n
    induction n with
    | zero =>
      repeat' (first | refine And.intro ?_ ?_ | intro _)
      all_goals omega
    | succ n ih =>
      intros
      refine hs [] _ rfl ?_
      conv => whnf
      repeat' (first | refine hw_ex32 ⟨by omega, by omega⟩ ?_ | (intro h; exact absurd h (by decide)) | intro _ | refine And.intro ?_ ?_ | (refine hs [76] _ rfl ?_; conv => whnf) | apply ih | apply hK | (apply hX; apply c_against hU) | (apply hX; apply c_digit hU) | (apply hX; apply c_nlz hU) | (apply hX; apply c_shiftUp hU) | (apply hX; apply c_stretch hU) | (apply hX; apply c_takeOff hU) | (apply hX; apply c_trim hU) | (apply hX; apply c_shiftDown hU))
      (all_goals clear ih); all_goals (first | exact Nat.lt_succ_self _ | assumption | omega | (rw [hw_up_n hij, hw_up_n hik]; omega))
  repeat' (first | refine hw_ex32 ⟨by omega, by omega⟩ ?_ | (intro h; exact absurd h (by decide)) | intro _ | refine And.intro ?_ ?_ | (refine hs [76] _ rfl ?_; conv => whnf) | apply (cuts _) | apply hK | (apply hX; apply c_against hU) | (apply hX; apply c_digit hU) | (apply hX; apply c_nlz hU) | (apply hX; apply c_shiftUp hU) | (apply hX; apply c_stretch hU) | (apply hX; apply c_takeOff hU) | (apply hX; apply c_trim hU) | (apply hX; apply c_shiftDown hU))
  all_goals (first | exact Nat.lt_succ_self _ | assumption | omega | (rw [hw_up_n hij, hw_up_n hik]; omega))
theorem c_quotB (hU : hw_U (hv_T kof own)) {i j : Int} (hij : ¬ j = i) (hK : ∀ (v : Int → Int), K none ([z_used, z_broken, z_fed, z_textEnd, z_made, z_mready, z_modules, z_actions, z_target, z_variables, z_commands, z_updates, z_steps, z_waiting, z_nested, z_type, z_wantsOperand, z_variablesKnown, z_names, z_ownFrom, z_at, z_wrongAt, z_parties, z_states, z_choices, z_outcomes, z_sready, z_many], [z_fc, z_role, z_holds, z_fu, z_taken, z_fo, z_home, z_row, z_fout, z_offer, z_oc], [v, z_policies, z_found, z_told], [z_policy])) : hw_C pg_G pg_TT scr (hv_T kof own) (d + 3) 133 [hw_R 0 i, hw_R 0 j, hw_R 0 i] ([z_used, z_broken, z_fed, z_textEnd, z_made, z_mready, z_modules, z_actions, z_target, z_variables, z_commands, z_updates, z_steps, z_waiting, z_nested, z_type, z_wantsOperand, z_variablesKnown, z_names, z_ownFrom, z_at, z_wrongAt, z_parties, z_states, z_choices, z_outcomes, z_sready, z_many], [z_fc, z_role, z_holds, z_fu, z_taken, z_fo, z_home, z_row, z_fout, z_offer, z_oc], [z_size, z_policies, z_found, z_told], [z_policy]) K E := by
  refine hw_meth hU hv_DG ⟨rfl, rfl⟩ (fun w X hs hX hF => ?_)
  have rm_i := hv_rm_b (i)
  have rm_j := hv_rm_b (j)
  have hz : hw_up z_size i 0 i = 0 := hw_up_s
  have cuts : ∀ n : Nat, (∀ (s a : Int) (v : Int → Int), a < hv_rm i → (a + 1).toNat < n → w (76, [some (hw_R 0 i), some (hw_R 0 j), some (hw_R 0 i), some (hw_I (s)), some (hw_I (a))], [], ([z_used, z_broken, z_fed, z_textEnd, z_made, z_mready, z_modules, z_actions, z_target, z_variables, z_commands, z_updates, z_steps, z_waiting, z_nested, z_type, z_wantsOperand, z_variablesKnown, z_names, z_ownFrom, z_at, z_wrongAt, z_parties, z_states, z_choices, z_outcomes, z_sready, z_many], [z_fc, z_role, z_holds, z_fu, z_taken, z_fo, z_home, z_row, z_fout, z_offer, z_oc], [v, z_policies, z_found, z_told], [z_policy]))) := by
    intro n
    induction n with
    | zero =>
      repeat' (first | refine And.intro ?_ ?_ | intro _)
      all_goals omega
    | succ n ih =>
      intros
      refine hs [] _ rfl ?_
      conv => whnf
      repeat' (first | refine hw_ex32 ⟨by omega, by omega⟩ ?_ | (intro h; exact absurd h (by decide)) | intro _ | refine And.intro ?_ ?_ | (refine hs [76] _ rfl ?_; conv => whnf) | apply ih | apply hK | (apply hX; apply c_against hU) | (apply hX; apply c_digit hU) | (apply hX; apply c_nlz hU) | (apply hX; apply c_shiftUp hU) | (apply hX; apply c_stretch hU) | (apply hX; apply c_takeOff hU) | (apply hX; apply c_trim hU) | (apply hX; apply c_shiftDown hU))
      (all_goals clear ih); all_goals (first | exact Nat.lt_succ_self _ | assumption | omega)
  repeat' (first | refine hw_ex32 ⟨by omega, by omega⟩ ?_ | (intro h; exact absurd h (by decide)) | intro _ | refine And.intro ?_ ?_ | (refine hs [76] _ rfl ?_; conv => whnf) | apply (cuts _) | apply hK | (apply hX; apply c_against hU) | (apply hX; apply c_digit hU) | (apply hX; apply c_nlz hU) | (apply hX; apply c_shiftUp hU) | (apply hX; apply c_stretch hU) | (apply hX; apply c_takeOff hU) | (apply hX; apply c_trim hU) | (apply hX; apply c_shiftDown hU))
  all_goals (first | exact Nat.lt_succ_self _ | assumption | omega)
theorem c_toQuotient (hU : hw_U (hv_T kof own)) {i j k : Int} (hij : ¬ j = i) (hK : ∀ v : Int → Int, K none ([z_used, z_broken, z_fed, z_textEnd, z_made, z_mready, z_modules, z_actions, z_target, z_variables, z_commands, z_updates, z_steps, z_waiting, z_nested, z_type, z_wantsOperand, z_variablesKnown, z_names, z_ownFrom, z_at, z_wrongAt, z_parties, z_states, z_choices, z_outcomes, z_sready, z_many], [z_fc, z_role, z_holds, z_fu, z_taken, z_fo, z_home, z_row, z_fout, z_offer, z_oc], [v, z_policies, z_found, z_told], [z_policy])) : hw_C pg_G pg_TT scr (hv_T kof own) (d + 3) 133 [hw_R 0 i, hw_R 0 j, hw_R 0 k] ([z_used, z_broken, z_fed, z_textEnd, z_made, z_mready, z_modules, z_actions, z_target, z_variables, z_commands, z_updates, z_steps, z_waiting, z_nested, z_type, z_wantsOperand, z_variablesKnown, z_names, z_ownFrom, z_at, z_wrongAt, z_parties, z_states, z_choices, z_outcomes, z_sready, z_many], [z_fc, z_role, z_holds, z_fu, z_taken, z_fo, z_home, z_row, z_fout, z_offer, z_oc], [z_size, z_policies, z_found, z_told], [z_policy]) K E := by
  by_cases e : k = i
  · subst e
    exact c_quotB hU hij hK
  · exact c_quotA hU hij e hK
theorem c_cell (hU : hw_U (hv_T kof own)) {i j : Int} (hK : ∀ x, 0 ≤ x → x ≤ 769 → K (some (hw_R 0 x)) ([z_used, z_broken, z_fed, z_textEnd, z_made, z_mready, z_modules, z_actions, z_target, z_variables, z_commands, z_updates, z_steps, z_waiting, z_nested, z_type, z_wantsOperand, z_variablesKnown, z_names, z_ownFrom, z_at, z_wrongAt, z_parties, z_states, z_choices, z_outcomes, z_sready, z_many], [z_fc, z_role, z_holds, z_fu, z_taken, z_fo, z_home, z_row, z_fout, z_offer, z_oc], [z_size, z_policies, z_found, z_told], [z_policy])) : hw_C pg_G pg_TT scr (hv_T kof own) (d + 1) 147 [hw_R 51 0, hw_I i, hw_I j] ([z_used, z_broken, z_fed, z_textEnd, z_made, z_mready, z_modules, z_actions, z_target, z_variables, z_commands, z_updates, z_steps, z_waiting, z_nested, z_type, z_wantsOperand, z_variablesKnown, z_names, z_ownFrom, z_at, z_wrongAt, z_parties, z_states, z_choices, z_outcomes, z_sready, z_many], [z_fc, z_role, z_holds, z_fu, z_taken, z_fo, z_home, z_row, z_fout, z_offer, z_oc], [z_size, z_policies, z_found, z_told], [z_policy]) K E := by
  refine hw_meth hU hv_DG ⟨rfl, rfl⟩ (fun w X hs hX hF => ?_)
  repeat' (first | refine hw_ex32 ⟨by omega, by omega⟩ ?_ | (intro h; exact absurd h (by decide)) | intro _ | refine And.intro ?_ ?_ | (refine hs [] _ rfl ?_; conv => whnf) | apply hK)
  all_goals (first | exact Nat.lt_succ_self _ | assumption | omega)
theorem c_pivotBefore (hU : hw_U (hv_T kof own)) {i : Int} (hK : ∀ x, 0 ≤ x → x ≤ 769 → K (some (hw_R 0 x)) ([z_used, z_broken, z_fed, z_textEnd, z_made, z_mready, z_modules, z_actions, z_target, z_variables, z_commands, z_updates, z_steps, z_waiting, z_nested, z_type, z_wantsOperand, z_variablesKnown, z_names, z_ownFrom, z_at, z_wrongAt, z_parties, z_states, z_choices, z_outcomes, z_sready, z_many], [z_fc, z_role, z_holds, z_fu, z_taken, z_fo, z_home, z_row, z_fout, z_offer, z_oc], [z_size, z_policies, z_found, z_told], [z_policy])) : hw_C pg_G pg_TT scr (hv_T kof own) (d + 2) 151 [hw_R 51 0, hw_I i] ([z_used, z_broken, z_fed, z_textEnd, z_made, z_mready, z_modules, z_actions, z_target, z_variables, z_commands, z_updates, z_steps, z_waiting, z_nested, z_type, z_wantsOperand, z_variablesKnown, z_names, z_ownFrom, z_at, z_wrongAt, z_parties, z_states, z_choices, z_outcomes, z_sready, z_many], [z_fc, z_role, z_holds, z_fu, z_taken, z_fo, z_home, z_row, z_fout, z_offer, z_oc], [z_size, z_policies, z_found, z_told], [z_policy]) K E := by
  refine hw_meth hU hv_DG ⟨rfl, rfl⟩ (fun w X hs hX hF => ?_)
  repeat' (first | refine hw_ex32 ⟨by omega, by omega⟩ ?_ | (intro h; exact absurd h (by decide)) | intro _ | refine And.intro ?_ ?_ | (refine hs [] _ rfl ?_; conv => whnf) | apply hK | (apply hX; apply c_cell hU))
  all_goals (first | exact Nat.lt_succ_self _ | assumption | omega)
theorem c_determinant (hU : hw_U (hv_T kof own)) (hK : ∀ x, 0 ≤ x → x ≤ 769 → K (some (hw_R 0 x)) ([z_used, z_broken, z_fed, z_textEnd, z_made, z_mready, z_modules, z_actions, z_target, z_variables, z_commands, z_updates, z_steps, z_waiting, z_nested, z_type, z_wantsOperand, z_variablesKnown, z_names, z_ownFrom, z_at, z_wrongAt, z_parties, z_states, z_choices, z_outcomes, z_sready, z_many], [z_fc, z_role, z_holds, z_fu, z_taken, z_fo, z_home, z_row, z_fout, z_offer, z_oc], [z_size, z_policies, z_found, z_told], [z_policy])) : hw_C pg_G pg_TT scr (hv_T kof own) (d + 3) 156 [hw_R 51 0] ([z_used, z_broken, z_fed, z_textEnd, z_made, z_mready, z_modules, z_actions, z_target, z_variables, z_commands, z_updates, z_steps, z_waiting, z_nested, z_type, z_wantsOperand, z_variablesKnown, z_names, z_ownFrom, z_at, z_wrongAt, z_parties, z_states, z_choices, z_outcomes, z_sready, z_many], [z_fc, z_role, z_holds, z_fu, z_taken, z_fo, z_home, z_row, z_fout, z_offer, z_oc], [z_size, z_policies, z_found, z_told], [z_policy]) K E := by
  refine hw_meth hU hv_DG ⟨rfl, rfl⟩ (fun w X hs hX hF => ?_)
  repeat' (first | refine hw_ex32 ⟨by omega, by omega⟩ ?_ | (intro h; exact absurd h (by decide)) | intro _ | refine And.intro ?_ ?_ | (refine hs [] _ rfl ?_; conv => whnf) | apply hK | (apply hX; apply c_pivotBefore hU))
  all_goals (first | exact Nat.lt_succ_self _ | assumption | omega)
theorem c_ebegin (hU : hw_U (hv_T kof own)) {x : Int} (hK : ∀ (v_many : Int) (v : Int → Int), (0 ≤ x → x ≤ 24 → v_many = x) → 0 ≤ v_many → v_many ≤ 24 → K none ([z_used, z_broken, z_fed, z_textEnd, z_made, z_mready, z_modules, z_actions, z_target, z_variables, z_commands, z_updates, z_steps, z_waiting, z_nested, z_type, z_wantsOperand, z_variablesKnown, z_names, z_ownFrom, z_at, z_wrongAt, z_parties, z_states, z_choices, z_outcomes, z_sready, v_many], [z_fc, z_role, z_holds, z_fu, z_taken, z_fo, z_home, z_row, z_fout, z_offer, z_oc], [v, z_policies, z_found, z_told], [z_policy])) : hw_C pg_G pg_TT scr (hv_T kof own) (d + 2) 146 [hw_R 51 0, hw_I x] ([z_used, z_broken, z_fed, z_textEnd, z_made, z_mready, z_modules, z_actions, z_target, z_variables, z_commands, z_updates, z_steps, z_waiting, z_nested, z_type, z_wantsOperand, z_variablesKnown, z_names, z_ownFrom, z_at, z_wrongAt, z_parties, z_states, z_choices, z_outcomes, z_sready, z_many], [z_fc, z_role, z_holds, z_fu, z_taken, z_fo, z_home, z_row, z_fout, z_offer, z_oc], [z_size, z_policies, z_found, z_told], [z_policy]) K E := by
  refine hw_meth hU hv_DG ⟨rfl, rfl⟩ (fun w X hs hX hF => ?_)
  have cuts : ∀ n : Nat, (∀ (m i : Int) (v : Int → Int) (ul00 : Option hw_V), 0 ≤ i → 0 ≤ m → m ≤ 24 → (0 ≤ x → x ≤ 24 → m = x) → (100 * (24 - i) + 90).toNat < n → w (16, [some (hw_R 51 0), some (hw_I (x)), some (hw_I (i)), ul00], [], ([z_used, z_broken, z_fed, z_textEnd, z_made, z_mready, z_modules, z_actions, z_target, z_variables, z_commands, z_updates, z_steps, z_waiting, z_nested, z_type, z_wantsOperand, z_variablesKnown, z_names, z_ownFrom, z_at, z_wrongAt, z_parties, z_states, z_choices, z_outcomes, z_sready, m], [z_fc, z_role, z_holds, z_fu, z_taken, z_fo, z_home, z_row, z_fout, z_offer, z_oc], [v, z_policies, z_found, z_told], [z_policy]))) ∧ (∀ (m i j : Int) (v : Int → Int), 0 ≤ i → i ≤ 23 → 0 ≤ j → j ≤ 25 → 0 ≤ m → m ≤ 24 → (0 ≤ x → x ≤ 24 → m = x) → (100 * (24 - i) + 50 - j).toNat < n → w (33, [some (hw_R 51 0), some (hw_I (x)), some (hw_I (i)), some (hw_I (j))], [], ([z_used, z_broken, z_fed, z_textEnd, z_made, z_mready, z_modules, z_actions, z_target, z_variables, z_commands, z_updates, z_steps, z_waiting, z_nested, z_type, z_wantsOperand, z_variablesKnown, z_names, z_ownFrom, z_at, z_wrongAt, z_parties, z_states, z_choices, z_outcomes, z_sready, m], [z_fc, z_role, z_holds, z_fu, z_taken, z_fo, z_home, z_row, z_fout, z_offer, z_oc], [v, z_policies, z_found, z_told], [z_policy]))) := by
    intro n
    induction n with
    | zero =>
      repeat' (first | refine And.intro ?_ ?_ | intro _)
      all_goals omega
    | succ n ih =>
      obtain ⟨ih0, ih1⟩ := ih
      refine ⟨?_, ?_⟩
      · intros
        refine hF (L' := [some _, some _, some _, none]) (by repeat' (first | exact True.intro | refine And.intro rfl ?_)) ?_
        refine hs [] _ rfl ?_
        conv => whnf
        repeat' (first | refine hw_ex32 ⟨by omega, by omega⟩ ?_ | (intro h; exact absurd h (by decide)) | intro _ | refine And.intro ?_ ?_ | (refine hs [16, 33] _ rfl ?_; conv => whnf) | apply ih0 | apply ih1 | apply hK | (apply hX; apply c_min hU) | (apply hX; apply c_max hU) | (apply hX; apply c_cell hU) | (apply hX; apply c_put hU))
        (all_goals clear ih0 ih1); all_goals (first | exact Nat.lt_succ_self _ | assumption | omega)
      · intros
        refine hs [] _ rfl ?_
        conv => whnf
        repeat' (first | refine hw_ex32 ⟨by omega, by omega⟩ ?_ | (intro h; exact absurd h (by decide)) | intro _ | refine And.intro ?_ ?_ | (refine hs [16, 33] _ rfl ?_; conv => whnf) | apply ih0 | apply ih1 | apply hK | (apply hX; apply c_min hU) | (apply hX; apply c_max hU) | (apply hX; apply c_cell hU) | (apply hX; apply c_put hU))
        (all_goals clear ih0 ih1); all_goals (first | exact Nat.lt_succ_self _ | assumption | omega)
  repeat' (first | refine hw_ex32 ⟨by omega, by omega⟩ ?_ | (intro h; exact absurd h (by decide)) | intro _ | refine And.intro ?_ ?_ | (refine hs [16, 33] _ rfl ?_; conv => whnf) | apply (cuts _).1 | apply (cuts _).2 | apply hK | (apply hX; apply c_min hU) | (apply hX; apply c_max hU) | (apply hX; apply c_cell hU) | (apply hX; apply c_put hU))
  all_goals (first | exact Nat.lt_succ_self _ | assumption | omega)
theorem c_raise (hU : hw_U (hv_T kof own)) {k : Int} (hk : 0 ≤ k ∧ k ≤ 23) (hK : ∀ (v : Int → Int), K none ([z_used, z_broken, z_fed, z_textEnd, z_made, z_mready, z_modules, z_actions, z_target, z_variables, z_commands, z_updates, z_steps, z_waiting, z_nested, z_type, z_wantsOperand, z_variablesKnown, z_names, z_ownFrom, z_at, z_wrongAt, z_parties, z_states, z_choices, z_outcomes, z_sready, z_many], [z_fc, z_role, z_holds, z_fu, z_taken, z_fo, z_home, z_row, z_fout, z_offer, z_oc], [v, z_policies, z_found, z_told], [z_policy])) : hw_C pg_G pg_TT scr (hv_T kof own) (d + 4) 150 [hw_R 51 0, hw_I k] ([z_used, z_broken, z_fed, z_textEnd, z_made, z_mready, z_modules, z_actions, z_target, z_variables, z_commands, z_updates, z_steps, z_waiting, z_nested, z_type, z_wantsOperand, z_variablesKnown, z_names, z_ownFrom, z_at, z_wrongAt, z_parties, z_states, z_choices, z_outcomes, z_sready, z_many], [z_fc, z_role, z_holds, z_fu, z_taken, z_fo, z_home, z_row, z_fout, z_offer, z_oc], [z_size, z_policies, z_found, z_told], [z_policy]) K E := by
  refine hw_meth hU hv_DG ⟨rfl, rfl⟩ (fun w X hs hX hF => ?_)
  have cuts : ∀ n : Nat, (∀ (j : Int) (v : Int → Int) (ulp0 : Option hw_V), 0 ≤ j → j ≤ 25 → (25 - j).toNat < n → w (2, [some (hw_R 51 0), some (hw_I (k)), some (hw_I (j)), ulp0], [], ([z_used, z_broken, z_fed, z_textEnd, z_made, z_mready, z_modules, z_actions, z_target, z_variables, z_commands, z_updates, z_steps, z_waiting, z_nested, z_type, z_wantsOperand, z_variablesKnown, z_names, z_ownFrom, z_at, z_wrongAt, z_parties, z_states, z_choices, z_outcomes, z_sready, z_many], [z_fc, z_role, z_holds, z_fu, z_taken, z_fo, z_home, z_row, z_fout, z_offer, z_oc], [v, z_policies, z_found, z_told], [z_policy]))) := by
    intro n
    induction n with
    | zero =>
      repeat' (first | refine And.intro ?_ ?_ | intro _)
      all_goals omega
    | succ n ih =>
      intros
      refine hF (L' := [some _, some _, some _, none]) (by repeat' (first | exact True.intro | refine And.intro rfl ?_)) ?_
      refine hs [] _ rfl ?_
      conv => whnf
      repeat' (first | refine hw_ex32 ⟨by omega, by omega⟩ ?_ | (intro h; exact absurd h (by decide)) | intro _ | refine And.intro ?_ ?_ | (refine hs [2] _ rfl ?_; conv => whnf) | apply ih | apply hK | (apply hX; apply c_cell hU) | (apply hX; apply c_pivotBefore hU) | (apply hX; apply c_toProduct hU) | (apply hX; apply c_toQuotient hU))
      (all_goals clear ih); all_goals (first | exact Nat.lt_succ_self _ | assumption | omega)
  repeat' (first | refine hw_ex32 ⟨by omega, by omega⟩ ?_ | (intro h; exact absurd h (by decide)) | intro _ | refine And.intro ?_ ?_ | (refine hs [2] _ rfl ?_; conv => whnf) | apply (cuts _) | apply hK | (apply hX; apply c_cell hU) | (apply hX; apply c_pivotBefore hU) | (apply hX; apply c_toProduct hU) | (apply hX; apply c_toQuotient hU))
  all_goals (first | exact Nat.lt_succ_self _ | assumption | omega)
theorem c_sweep (hU : hw_U (hv_T kof own)) {i k : Int} (hk : 0 ≤ k ∧ k ≤ 23 ∧ 0 ≤ i ∧ i ≤ 23) (hK : ∀ (v : Int → Int), K none ([z_used, z_broken, z_fed, z_textEnd, z_made, z_mready, z_modules, z_actions, z_target, z_variables, z_commands, z_updates, z_steps, z_waiting, z_nested, z_type, z_wantsOperand, z_variablesKnown, z_names, z_ownFrom, z_at, z_wrongAt, z_parties, z_states, z_choices, z_outcomes, z_sready, z_many], [z_fc, z_role, z_holds, z_fu, z_taken, z_fo, z_home, z_row, z_fout, z_offer, z_oc], [v, z_policies, z_found, z_told], [z_policy])) : hw_C pg_G pg_TT scr (hv_T kof own) (d + 4) 154 [hw_R 51 0, hw_I i, hw_I k] ([z_used, z_broken, z_fed, z_textEnd, z_made, z_mready, z_modules, z_actions, z_target, z_variables, z_commands, z_updates, z_steps, z_waiting, z_nested, z_type, z_wantsOperand, z_variablesKnown, z_names, z_ownFrom, z_at, z_wrongAt, z_parties, z_states, z_choices, z_outcomes, z_sready, z_many], [z_fc, z_role, z_holds, z_fu, z_taken, z_fo, z_home, z_row, z_fout, z_offer, z_oc], [z_size, z_policies, z_found, z_told], [z_policy]) K E := by
  refine hw_meth hU hv_DG ⟨rfl, rfl⟩ (fun w X hs hX hF => ?_)
  have cuts : ∀ n : Nat, (∀ (p s j : Int) (v : Int → Int) (ulp0 ulp1 : Option hw_V), 0 ≤ j → j ≤ 25 → 0 ≤ p → p ≤ 769 → 0 ≤ s → s ≤ 769 → (100 - j).toNat < n → w (20, [some (hw_R 51 0), some (hw_I (i)), some (hw_I (k)), some (hw_R 0 p), some (hw_R 0 s), some (hw_I (j)), ulp0, ulp1], [], ([z_used, z_broken, z_fed, z_textEnd, z_made, z_mready, z_modules, z_actions, z_target, z_variables, z_commands, z_updates, z_steps, z_waiting, z_nested, z_type, z_wantsOperand, z_variablesKnown, z_names, z_ownFrom, z_at, z_wrongAt, z_parties, z_states, z_choices, z_outcomes, z_sready, z_many], [z_fc, z_role, z_holds, z_fu, z_taken, z_fo, z_home, z_row, z_fout, z_offer, z_oc], [v, z_policies, z_found, z_told], [z_policy]))) := by
    intro n
    induction n with
    | zero =>
      repeat' (first | refine And.intro ?_ ?_ | intro _)
      all_goals omega
    | succ n ih =>
      intros
      refine hF (L' := [some _, some _, some _, some _, some _, some _, none, none]) (by repeat' (first | exact True.intro | refine And.intro rfl ?_)) ?_
      refine hs [] _ rfl ?_
      conv => whnf
      repeat' (first | refine hw_ex32 ⟨by omega, by omega⟩ ?_ | (intro h; exact absurd h (by decide)) | intro _ | refine And.intro ?_ ?_ | (refine hs [20] _ rfl ?_; conv => whnf) | apply ih | apply hK | (apply hX; apply c_cell hU) | (apply hX; apply c_pivotBefore hU) | (apply hX; apply c_toProduct hU) | (apply hX; apply c_addProduct hU) | (apply hX; apply c_subtract hU) | (apply hX; apply c_toQuotient hU))
      (all_goals clear ih); all_goals (first | exact Nat.lt_succ_self _ | assumption | omega)
  repeat' (first | refine hw_ex32 ⟨by omega, by omega⟩ ?_ | (intro h; exact absurd h (by decide)) | intro _ | refine And.intro ?_ ?_ | (refine hs [20] _ rfl ?_; conv => whnf) | apply (cuts _) | apply hK | (apply hX; apply c_cell hU) | (apply hX; apply c_pivotBefore hU) | (apply hX; apply c_toProduct hU) | (apply hX; apply c_addProduct hU) | (apply hX; apply c_subtract hU) | (apply hX; apply c_toQuotient hU))
  all_goals (first | exact Nat.lt_succ_self _ | assumption | omega)
theorem c_eliminate (hU : hw_U (hv_T kof own)) (hK : ∀ (v : Int → Int), K none ([z_used, z_broken, z_fed, z_textEnd, z_made, z_mready, z_modules, z_actions, z_target, z_variables, z_commands, z_updates, z_steps, z_waiting, z_nested, z_type, z_wantsOperand, z_variablesKnown, z_names, z_ownFrom, z_at, z_wrongAt, z_parties, z_states, z_choices, z_outcomes, z_sready, z_many], [z_fc, z_role, z_holds, z_fu, z_taken, z_fo, z_home, z_row, z_fout, z_offer, z_oc], [v, z_policies, z_found, z_told], [z_policy])) : hw_C pg_G pg_TT scr (hv_T kof own) (d + 5) 149 [hw_R 51 0] ([z_used, z_broken, z_fed, z_textEnd, z_made, z_mready, z_modules, z_actions, z_target, z_variables, z_commands, z_updates, z_steps, z_waiting, z_nested, z_type, z_wantsOperand, z_variablesKnown, z_names, z_ownFrom, z_at, z_wrongAt, z_parties, z_states, z_choices, z_outcomes, z_sready, z_many], [z_fc, z_role, z_holds, z_fu, z_taken, z_fo, z_home, z_row, z_fout, z_offer, z_oc], [z_size, z_policies, z_found, z_told], [z_policy]) K E := by
  refine hw_meth hU hv_DG ⟨rfl, rfl⟩ (fun w X hs hX hF => ?_)
  have cuts : ∀ n : Nat, (∀ (k : Int) (v : Int → Int) (ul00 : Option hw_V), 0 ≤ k → k ≤ 24 → (10000 + 100 * (24 - k) + 90).toNat < n → w (2, [some (hw_R 51 0), some (hw_I (k)), ul00], [], ([z_used, z_broken, z_fed, z_textEnd, z_made, z_mready, z_modules, z_actions, z_target, z_variables, z_commands, z_updates, z_steps, z_waiting, z_nested, z_type, z_wantsOperand, z_variablesKnown, z_names, z_ownFrom, z_at, z_wrongAt, z_parties, z_states, z_choices, z_outcomes, z_sready, z_many], [z_fc, z_role, z_holds, z_fu, z_taken, z_fo, z_home, z_row, z_fout, z_offer, z_oc], [v, z_policies, z_found, z_told], [z_policy]))) ∧ (∀ (k i : Int) (v : Int → Int), 0 ≤ k → k ≤ 23 → 1 ≤ i → i ≤ 24 → (10000 + 100 * (24 - k) + 50 - i).toNat < n → w (19, [some (hw_R 51 0), some (hw_I (k)), some (hw_I (i))], [], ([z_used, z_broken, z_fed, z_textEnd, z_made, z_mready, z_modules, z_actions, z_target, z_variables, z_commands, z_updates, z_steps, z_waiting, z_nested, z_type, z_wantsOperand, z_variablesKnown, z_names, z_ownFrom, z_at, z_wrongAt, z_parties, z_states, z_choices, z_outcomes, z_sready, z_many], [z_fc, z_role, z_holds, z_fu, z_taken, z_fo, z_home, z_row, z_fout, z_offer, z_oc], [v, z_policies, z_found, z_told], [z_policy]))) ∧ (∀ (k : Int) (v : Int → Int) (ul20 : Option hw_V), -1 ≤ k → k ≤ 23 → (100 * (k + 1) + 90).toNat < n → w (64, [some (hw_R 51 0), some (hw_I (k)), ul20], [], ([z_used, z_broken, z_fed, z_textEnd, z_made, z_mready, z_modules, z_actions, z_target, z_variables, z_commands, z_updates, z_steps, z_waiting, z_nested, z_type, z_wantsOperand, z_variablesKnown, z_names, z_ownFrom, z_at, z_wrongAt, z_parties, z_states, z_choices, z_outcomes, z_sready, z_many], [z_fc, z_role, z_holds, z_fu, z_taken, z_fo, z_home, z_row, z_fout, z_offer, z_oc], [v, z_policies, z_found, z_told], [z_policy]))) ∧ (∀ (k j : Int) (v : Int → Int), 0 ≤ k → k ≤ 23 → 1 ≤ j → j ≤ 24 → (100 * (k + 1) + 50 - j).toNat < n → w (92, [some (hw_R 51 0), some (hw_I (k)), some (hw_I (j))], [], ([z_used, z_broken, z_fed, z_textEnd, z_made, z_mready, z_modules, z_actions, z_target, z_variables, z_commands, z_updates, z_steps, z_waiting, z_nested, z_type, z_wantsOperand, z_variablesKnown, z_names, z_ownFrom, z_at, z_wrongAt, z_parties, z_states, z_choices, z_outcomes, z_sready, z_many], [z_fc, z_role, z_holds, z_fu, z_taken, z_fo, z_home, z_row, z_fout, z_offer, z_oc], [v, z_policies, z_found, z_told], [z_policy]))) := by
    intro n
    induction n with
    | zero =>
      repeat' (first | refine And.intro ?_ ?_ | intro _)
      all_goals omega
    | succ n ih =>
      obtain ⟨ih0, ih1, ih2, ih3⟩ := ih
      refine ⟨?_, ?_, ?_, ?_⟩
      · intros
        refine hF (L' := [some _, some _, none]) (by repeat' (first | exact True.intro | refine And.intro rfl ?_)) ?_
        refine hs [] _ rfl ?_
        conv => whnf
        repeat' (first | refine hw_ex32 ⟨by omega, by omega⟩ ?_ | (intro h; exact absurd h (by decide)) | intro _ | refine And.intro ?_ ?_ | (refine hs [2, 19, 64, 92] _ rfl ?_; conv => whnf) | apply ih0 | apply ih1 | apply ih2 | apply ih3 | apply hK | (apply hX; apply c_raise hU) | (apply hX; apply c_sweep hU) | (apply hX; apply c_cell hU) | (apply hX; apply c_determinant hU) | (apply hX; apply c_toProduct hU) | (apply hX; apply c_addProduct hU) | (apply hX; apply c_toQuotient hU))
        (all_goals clear ih0 ih1 ih2 ih3); all_goals (first | exact Nat.lt_succ_self _ | assumption | omega)
      · intros
        refine hs [] _ rfl ?_
        conv => whnf
        repeat' (first | refine hw_ex32 ⟨by omega, by omega⟩ ?_ | (intro h; exact absurd h (by decide)) | intro _ | refine And.intro ?_ ?_ | (refine hs [2, 19, 64, 92] _ rfl ?_; conv => whnf) | apply ih0 | apply ih1 | apply ih2 | apply ih3 | apply hK | (apply hX; apply c_raise hU) | (apply hX; apply c_sweep hU) | (apply hX; apply c_cell hU) | (apply hX; apply c_determinant hU) | (apply hX; apply c_toProduct hU) | (apply hX; apply c_addProduct hU) | (apply hX; apply c_toQuotient hU))
        (all_goals clear ih0 ih1 ih2 ih3); all_goals (first | exact Nat.lt_succ_self _ | assumption | omega)
      · intros
        refine hF (L' := [some _, some _, none]) (by repeat' (first | exact True.intro | refine And.intro rfl ?_)) ?_
        refine hs [] _ rfl ?_
        conv => whnf
        repeat' (first | refine hw_ex32 ⟨by omega, by omega⟩ ?_ | (intro h; exact absurd h (by decide)) | intro _ | refine And.intro ?_ ?_ | (refine hs [2, 19, 64, 92] _ rfl ?_; conv => whnf) | apply ih0 | apply ih1 | apply ih2 | apply ih3 | apply hK | (apply hX; apply c_raise hU) | (apply hX; apply c_sweep hU) | (apply hX; apply c_cell hU) | (apply hX; apply c_determinant hU) | (apply hX; apply c_toProduct hU) | (apply hX; apply c_addProduct hU) | (apply hX; apply c_toQuotient hU))
        (all_goals clear ih0 ih1 ih2 ih3); all_goals (first | exact Nat.lt_succ_self _ | assumption | omega)
      · intros
        refine hs [] _ rfl ?_
        conv => whnf
        repeat' (first | refine hw_ex32 ⟨by omega, by omega⟩ ?_ | (intro h; exact absurd h (by decide)) | intro _ | refine And.intro ?_ ?_ | (refine hs [2, 19, 64, 92] _ rfl ?_; conv => whnf) | apply ih0 | apply ih1 | apply ih2 | apply ih3 | apply hK | (apply hX; apply c_raise hU) | (apply hX; apply c_sweep hU) | (apply hX; apply c_cell hU) | (apply hX; apply c_determinant hU) | (apply hX; apply c_toProduct hU) | (apply hX; apply c_addProduct hU) | (apply hX; apply c_toQuotient hU))
        (all_goals clear ih0 ih1 ih2 ih3); all_goals (first | exact Nat.lt_succ_self _ | assumption | omega)
  repeat' (first | refine hw_ex32 ⟨by omega, by omega⟩ ?_ | (intro h; exact absurd h (by decide)) | intro _ | refine And.intro ?_ ?_ | (refine hs [2, 19, 64, 92] _ rfl ?_; conv => whnf) | apply (cuts _).1 | apply (cuts _).2.1 | apply (cuts _).2.2.1 | apply (cuts _).2.2.2 | apply hK | (apply hX; apply c_raise hU) | (apply hX; apply c_sweep hU) | (apply hX; apply c_cell hU) | (apply hX; apply c_determinant hU) | (apply hX; apply c_toProduct hU) | (apply hX; apply c_addProduct hU) | (apply hX; apply c_toQuotient hU))
  all_goals (first | exact Nat.lt_succ_self _ | assumption | omega)
end C4c
