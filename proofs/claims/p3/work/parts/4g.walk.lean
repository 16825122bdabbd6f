/-! the class: Ratio, Walk -/
section C4g
variable {scr : Nat × (Nat → Int32)} {d : Nat} {K : Option hw_V → hw_Z → Prop} {E : Nat → hw_Z → Prop} {Z : hw_Z} {kof : Nat → Nat × Int} {own : Nat → Prop} {z_used z_broken z_fed z_textEnd z_made z_mready z_modules z_actions z_target z_variables z_commands z_updates z_steps z_waiting z_nested z_type z_wantsOperand z_variablesKnown z_names z_ownFrom z_at z_wrongAt z_parties z_states z_choices z_outcomes z_sready z_many : Int} {z_fc z_role z_holds z_fu z_taken z_fo z_home z_row z_fout z_offer z_oc z_size z_policies z_found z_told : Int → Int} {z_policy : Int → Int → Int}
theorem c_mix (hU : hw_U (hv_T kof own)) {i j a b c e : Int} (hK : ∀ (v : Int → Int), K none ([z_used, z_broken, z_fed, z_textEnd, z_made, z_mready, z_modules, z_actions, z_target, z_variables, z_commands, z_updates, z_steps, z_waiting, z_nested, z_type, z_wantsOperand, z_variablesKnown, z_names, z_ownFrom, z_at, z_wrongAt, z_parties, z_states, z_choices, z_outcomes, z_sready, z_many], [z_fc, z_role, z_holds, z_fu, z_taken, z_fo, z_home, z_row, z_fout, z_offer, z_oc], [v, z_policies, z_found, z_told], [z_policy])) : hw_C pg_G pg_TT scr (hv_T kof own) (d + 2) 130 [hw_R 0 i, hw_R 0 j, hw_J a, hw_J b, hw_J c, hw_J e] ([z_used, z_broken, z_fed, z_textEnd, z_made, z_mready, z_modules, z_actions, z_target, z_variables, z_commands, z_updates, z_steps, z_waiting, z_nested, z_type, z_wantsOperand, z_variablesKnown, z_names, z_ownFrom, z_at, z_wrongAt, z_parties, z_states, z_choices, z_outcomes, z_sready, z_many], [z_fc, z_role, z_holds, z_fu, z_taken, z_fo, z_home, z_row, z_fout, z_offer, z_oc], [z_size, z_policies, z_found, z_told], [z_policy]) K E := by
  refine hw_meth hU hv_DG ⟨rfl, rfl⟩ (fun w X hs hX hF => ?_)
  have rm_i := hv_rm_b (i)
  have rm_j := hv_rm_b (j)
  have cuts : ∀ n : Nat, (∀ (x y k : Int) (v : Int → Int) (ulp0 ulp1 ulp2 ulp3 : Option hw_V), 0 ≤ k → k ≤ 2000 → (2000 - k).toNat < n → w (21, [some (hw_R 0 i), some (hw_R 0 j), some (hw_J (a)), none, some (hw_J (b)), none, some (hw_J (c)), none, some (hw_J (e)), none, some (hw_J (x)), none, some (hw_J (y)), none, some (hw_I (k)), ulp0, ulp1, ulp2, ulp3], [], ([z_used, z_broken, z_fed, z_textEnd, z_made, z_mready, z_modules, z_actions, z_target, z_variables, z_commands, z_updates, z_steps, z_waiting, z_nested, z_type, z_wantsOperand, z_variablesKnown, z_names, z_ownFrom, z_at, z_wrongAt, z_parties, z_states, z_choices, z_outcomes, z_sready, z_many], [z_fc, z_role, z_holds, z_fu, z_taken, z_fo, z_home, z_row, z_fout, z_offer, z_oc], [v, z_policies, z_found, z_told], [z_policy]))) := by
    intro n
    induction n with
    | zero =>
      repeat' (first | refine And.intro ?_ ?_ | intro _)
      all_goals omega
    | succ n ih =>
      intros
      refine hF (L' := [some _, some _, some _, none, some _, none, some _, none, some _, none, some _, none, some _, none, some _, none, none, none, none]) (by repeat' (first | exact True.intro | refine And.intro rfl ?_)) ?_
      refine hs [] _ rfl ?_
      conv => whnf
      repeat' (first | refine hw_ex32 ⟨by omega, by omega⟩ ?_ | (intro h; exact absurd h (by decide)) | intro _ | refine And.intro ?_ ?_ | (refine hs [21] _ rfl ?_; conv => whnf) | apply ih | apply hK | (apply hX; apply c_stretch hU) | (apply hX; apply c_trim hU))
      (all_goals clear ih); all_goals (first | exact Nat.lt_succ_self _ | assumption | omega | (clear hs hX hF hK; fail))
  repeat' (first | refine hw_ex32 ⟨by omega, by omega⟩ ?_ | (intro h; exact absurd h (by decide)) | intro _ | refine And.intro ?_ ?_ | (refine hs [21] _ rfl ?_; conv => whnf) | apply (cuts _) | apply hK | (apply hX; apply c_stretch hU) | (apply hX; apply c_trim hU))
  all_goals (first | exact Nat.lt_succ_self _ | assumption | omega | (clear hs hX hF hK; fail))
theorem c_leap (hU : hw_U (hv_T kof own)) {i j : Int} (hK : ∀ (r : Int) (v : Int → Int), 0 ≤ r → r ≤ 1 → K (some (hw_I r)) ([z_used, z_broken, z_fed, z_textEnd, z_made, z_mready, z_modules, z_actions, z_target, z_variables, z_commands, z_updates, z_steps, z_waiting, z_nested, z_type, z_wantsOperand, z_variablesKnown, z_names, z_ownFrom, z_at, z_wrongAt, z_parties, z_states, z_choices, z_outcomes, z_sready, z_many], [z_fc, z_role, z_holds, z_fu, z_taken, z_fo, z_home, z_row, z_fout, z_offer, z_oc], [v, z_policies, z_found, z_told], [z_policy])) : hw_C pg_G pg_TT scr (hv_T kof own) (d + 3) 127 [hw_R 0 i, hw_R 0 j] ([z_used, z_broken, z_fed, z_textEnd, z_made, z_mready, z_modules, z_actions, z_target, z_variables, z_commands, z_updates, z_steps, z_waiting, z_nested, z_type, z_wantsOperand, z_variablesKnown, z_names, z_ownFrom, z_at, z_wrongAt, z_parties, z_states, z_choices, z_outcomes, z_sready, z_many], [z_fc, z_role, z_holds, z_fu, z_taken, z_fo, z_home, z_row, z_fout, z_offer, z_oc], [z_size, z_policies, z_found, z_told], [z_policy]) K E := by
  refine hw_meth hU hv_DG ⟨rfl, rfl⟩ (fun w X hs hX hF => ?_)
  have rm_i := hv_rm_b (i)
  have rm_j := hv_rm_b (j)
  have cuts : ∀ n : Nat, (∀ (m s u x a b c e k : Int) (ul00 ul01 ul02 ul03 ul04 ul05 ul06 ul07 : Option hw_V), 0 ≤ k → k ≤ 100 → (200 - k).toNat < n → w (49, [some (hw_R 0 i), some (hw_R 0 j), some (hw_I (m)), some (hw_I (s)), some (hw_J (u)), none, some (hw_J (x)), none, some (hw_J (a)), none, some (hw_J (b)), none, some (hw_J (c)), none, some (hw_J (e)), none, some (hw_I (k)), ul00, ul01, ul02, ul03, ul04, ul05, ul06, ul07], [], ([z_used, z_broken, z_fed, z_textEnd, z_made, z_mready, z_modules, z_actions, z_target, z_variables, z_commands, z_updates, z_steps, z_waiting, z_nested, z_type, z_wantsOperand, z_variablesKnown, z_names, z_ownFrom, z_at, z_wrongAt, z_parties, z_states, z_choices, z_outcomes, z_sready, z_many], [z_fc, z_role, z_holds, z_fu, z_taken, z_fo, z_home, z_row, z_fout, z_offer, z_oc], [z_size, z_policies, z_found, z_told], [z_policy]))) ∧ (∀ (m s u x a b c e k : Int) (ul10 ul11 ul12 ul13 ul14 ul15 ul16 ul17 : Option hw_V), ((0 : Int)).toNat < n → w (205, [some (hw_R 0 i), some (hw_R 0 j), some (hw_I (m)), some (hw_I (s)), some (hw_J (u)), none, some (hw_J (x)), none, some (hw_J (a)), none, some (hw_J (b)), none, some (hw_J (c)), none, some (hw_J (e)), none, some (hw_I (k)), ul10, ul11, ul12, ul13, ul14, ul15, ul16, ul17], [], ([z_used, z_broken, z_fed, z_textEnd, z_made, z_mready, z_modules, z_actions, z_target, z_variables, z_commands, z_updates, z_steps, z_waiting, z_nested, z_type, z_wantsOperand, z_variablesKnown, z_names, z_ownFrom, z_at, z_wrongAt, z_parties, z_states, z_choices, z_outcomes, z_sready, z_many], [z_fc, z_role, z_holds, z_fu, z_taken, z_fo, z_home, z_row, z_fout, z_offer, z_oc], [z_size, z_policies, z_found, z_told], [z_policy]))) := by
    intro n
    induction n with
    | zero =>
      repeat' (first | refine And.intro ?_ ?_ | intro _)
      all_goals omega
    | succ n ih =>
      obtain ⟨ih0, ih1⟩ := ih
      refine ⟨?_, ?_⟩
      · intros
        refine hF (L' := [some _, some _, some _, some _, some _, none, some _, none, some _, none, some _, none, some _, none, some _, none, some _, none, none, none, none, none, none, none, none]) (by repeat' (first | exact True.intro | refine And.intro rfl ?_)) ?_
        refine hs [] _ rfl ?_
        conv => whnf
        repeat' (first | refine hw_ex32 ⟨by omega, by omega⟩ ?_ | (intro h; exact absurd h (by decide)) | intro _ | refine And.intro ?_ ?_ | (refine hs [49, 205] _ rfl ?_; conv => whnf) | apply ih0 | apply ih1 | apply hK | (apply hX; apply c_digit hU) | (apply hX; apply c_nlz hU) | (apply hX; apply c_head hU) | (apply hX; apply c_abs hU) | (apply hX; apply c_mix hU))
        (all_goals clear ih0 ih1); all_goals (first | exact Nat.lt_succ_self _ | assumption | omega | (clear hs hX hF hK; fail))
      · intros
        refine hF (L' := [some _, some _, some _, some _, some _, none, some _, none, some _, none, some _, none, some _, none, some _, none, some _, none, none, none, none, none, none, none, none]) (by repeat' (first | exact True.intro | refine And.intro rfl ?_)) ?_
        refine hs [] _ rfl ?_
        conv => whnf
        repeat' (first | refine hw_ex32 ⟨by omega, by omega⟩ ?_ | (intro h; exact absurd h (by decide)) | intro _ | refine And.intro ?_ ?_ | (refine hs [49, 205] _ rfl ?_; conv => whnf) | apply ih0 | apply ih1 | apply hK | (apply hX; apply c_digit hU) | (apply hX; apply c_nlz hU) | (apply hX; apply c_head hU) | (apply hX; apply c_abs hU) | (apply hX; apply c_mix hU))
        (all_goals clear ih0 ih1); all_goals (first | exact Nat.lt_succ_self _ | assumption | omega | (clear hs hX hF hK; fail))
  repeat' (first | refine hw_ex32 ⟨by omega, by omega⟩ ?_ | (intro h; exact absurd h (by decide)) | intro _ | refine And.intro ?_ ?_ | (refine hs [49, 205] _ rfl ?_; conv => whnf) | apply (cuts _).1 | apply (cuts _).2 | apply hK | (apply hX; apply c_digit hU) | (apply hX; apply c_nlz hU) | (apply hX; apply c_head hU) | (apply hX; apply c_abs hU) | (apply hX; apply c_mix hU))
  all_goals (first | exact Nat.lt_succ_self _ | assumption | omega | (clear hs hX hF hK; fail))
theorem c_spend (hU : hw_U (hv_T kof own)) (hK : ∀ (x : Int) (v : Int → Int), 788 ≤ x → x ≤ 789 → K (some (hw_R 0 x)) ([z_used, z_broken, z_fed, z_textEnd, z_made, z_mready, z_modules, z_actions, z_target, z_variables, z_commands, z_updates, z_steps, z_waiting, z_nested, z_type, z_wantsOperand, z_variablesKnown, z_names, z_ownFrom, z_at, z_wrongAt, z_parties, z_states, z_choices, z_outcomes, z_sready, z_many], [z_fc, z_role, z_holds, z_fu, z_taken, z_fo, z_home, z_row, z_fout, z_offer, z_oc], [v, z_policies, z_found, z_told], [z_policy])) : hw_C pg_G pg_TT scr (hv_T kof own) (d + 4) 124 [hw_R 63 0] ([z_used, z_broken, z_fed, z_textEnd, z_made, z_mready, z_modules, z_actions, z_target, z_variables, z_commands, z_updates, z_steps, z_waiting, z_nested, z_type, z_wantsOperand, z_variablesKnown, z_names, z_ownFrom, z_at, z_wrongAt, z_parties, z_states, z_choices, z_outcomes, z_sready, z_many], [z_fc, z_role, z_holds, z_fu, z_taken, z_fo, z_home, z_row, z_fout, z_offer, z_oc], [z_size, z_policies, z_found, z_told], [z_policy]) K E := by
  refine hw_meth hU hv_DG ⟨rfl, rfl⟩ (fun w X hs hX hF => ?_)
  have cuts : ∀ n : Nat, (∀ (x y i : Int) (v : Int → Int) (ulp0 : Option hw_V), 788 ≤ x → x ≤ 789 → 788 ≤ y → y ≤ 789 → 0 ≤ i → (2000000 - i).toNat < n → w (12, [some (hw_R 63 0), some (hw_R 0 x), some (hw_R 0 y), some (hw_I (i)), ulp0], [], ([z_used, z_broken, z_fed, z_textEnd, z_made, z_mready, z_modules, z_actions, z_target, z_variables, z_commands, z_updates, z_steps, z_waiting, z_nested, z_type, z_wantsOperand, z_variablesKnown, z_names, z_ownFrom, z_at, z_wrongAt, z_parties, z_states, z_choices, z_outcomes, z_sready, z_many], [z_fc, z_role, z_holds, z_fu, z_taken, z_fo, z_home, z_row, z_fout, z_offer, z_oc], [v, z_policies, z_found, z_told], [z_policy]))) := by
    intro n
    induction n with
    | zero =>
      repeat' (first | refine And.intro ?_ ?_ | intro _)
      all_goals omega
    | succ n ih =>
      intros
      refine hF (L' := [some _, some _, some _, some _, none]) (by repeat' (first | exact True.intro | refine And.intro rfl ?_)) ?_
      refine hs [] _ rfl ?_
      conv => whnf
      repeat' (first | refine hw_ex32 ⟨by omega, by omega⟩ ?_ | (intro h; exact absurd h (by decide)) | intro _ | refine And.intro ?_ ?_ | (refine hs [12] _ rfl ?_; conv => whnf) | apply ih | apply hK | (apply hX; apply c_against hU) | (apply hX; apply c_small hU) | (apply hX; apply c_cdiv hU) | (apply hX; apply c_put hU) | (apply hX; apply c_leap hU) | (apply hX; apply c_toQuotient hU))
      (all_goals clear ih); all_goals (first | exact Nat.lt_succ_self _ | assumption | omega | (clear hs hX hF hK; fail))
  repeat' (first | refine hw_ex32 ⟨by omega, by omega⟩ ?_ | (intro h; exact absurd h (by decide)) | intro _ | refine And.intro ?_ ?_ | (refine hs [12] _ rfl ?_; conv => whnf) | apply (cuts _) | apply hK | (apply hX; apply c_against hU) | (apply hX; apply c_small hU) | (apply hX; apply c_cdiv hU) | (apply hX; apply c_put hU) | (apply hX; apply c_leap hU) | (apply hX; apply c_toQuotient hU))
  all_goals (first | exact Nat.lt_succ_self _ | assumption | omega | (clear hs hX hF hK; fail))
theorem c_hold (hU : hw_U (hv_T kof own)) {i j : Int} (hK : ∀ (v : Int → Int), K none ([z_used, z_broken, z_fed, z_textEnd, z_made, z_mready, z_modules, z_actions, z_target, z_variables, z_commands, z_updates, z_steps, z_waiting, z_nested, z_type, z_wantsOperand, z_variablesKnown, z_names, z_ownFrom, z_at, z_wrongAt, z_parties, z_states, z_choices, z_outcomes, z_sready, z_many], [z_fc, z_role, z_holds, z_fu, z_taken, z_fo, z_home, z_row, z_fout, z_offer, z_oc], [v, z_policies, z_found, z_told], [z_policy])) : hw_C pg_G pg_TT scr (hv_T kof own) (d + 5) 122 [hw_R 63 0, hw_R 0 i, hw_R 0 j] ([z_used, z_broken, z_fed, z_textEnd, z_made, z_mready, z_modules, z_actions, z_target, z_variables, z_commands, z_updates, z_steps, z_waiting, z_nested, z_type, z_wantsOperand, z_variablesKnown, z_names, z_ownFrom, z_at, z_wrongAt, z_parties, z_states, z_choices, z_outcomes, z_sready, z_many], [z_fc, z_role, z_holds, z_fu, z_taken, z_fo, z_home, z_row, z_fout, z_offer, z_oc], [z_size, z_policies, z_found, z_told], [z_policy]) K E := by
  refine hw_meth hU hv_DG ⟨rfl, rfl⟩ (fun w X hs hX hF => ?_)
  repeat' (first | refine hw_ex32 ⟨by omega, by omega⟩ ?_ | (intro h; exact absurd h (by decide)) | intro _ | refine And.intro ?_ ?_ | (refine hs [] _ rfl ?_; conv => whnf) | apply hK | (apply hX; apply c_copy hU) | (apply hX; apply c_spend hU) | (apply hX; apply c_toQuotient hU))
  all_goals (first | exact Nat.lt_succ_self _ | assumption | omega | (clear hs hX hF hK; fail))
theorem c_findCommon (hU : hw_U (hv_T kof own)) {a : Int} (ha : 0 ≤ a ∧ a ≤ 1) (hsp : sp_ok z_states z_fc) (hpl : pl_ok z_states z_fc (z_policy a)) (hK : ∀ (v : Int → Int), K none ([z_used, z_broken, z_fed, z_textEnd, z_made, z_mready, z_modules, z_actions, z_target, z_variables, z_commands, z_updates, z_steps, z_waiting, z_nested, z_type, z_wantsOperand, z_variablesKnown, z_names, z_ownFrom, z_at, z_wrongAt, z_parties, z_states, z_choices, z_outcomes, z_sready, z_many], [z_fc, z_role, z_holds, z_fu, z_taken, z_fo, z_home, z_row, z_fout, z_offer, z_oc], [v, z_policies, z_found, z_told], [z_policy])) : hw_C pg_G pg_TT scr (hv_T kof own) (d + 4) 169 [hw_R 60 0, hw_R 56 a] ([z_used, z_broken, z_fed, z_textEnd, z_made, z_mready, z_modules, z_actions, z_target, z_variables, z_commands, z_updates, z_steps, z_waiting, z_nested, z_type, z_wantsOperand, z_variablesKnown, z_names, z_ownFrom, z_at, z_wrongAt, z_parties, z_states, z_choices, z_outcomes, z_sready, z_many], [z_fc, z_role, z_holds, z_fu, z_taken, z_fo, z_home, z_row, z_fout, z_offer, z_oc], [z_size, z_policies, z_found, z_told], [z_policy]) K E := by
  refine hw_meth hU hv_DG ⟨rfl, rfl⟩ (fun w X hs hX hF => ?_)
  have cuts : ∀ n : Nat, (∀ (s : Int) (v : Int → Int) (ulp0 ulp1 : Option hw_V), 0 ≤ s → s ≤ 24 → (100 - s).toNat < n → w (10, [some (hw_R 60 0), some (hw_R 56 a), some (hw_I (s)), ulp0, ulp1], [], ([z_used, z_broken, z_fed, z_textEnd, z_made, z_mready, z_modules, z_actions, z_target, z_variables, z_commands, z_updates, z_steps, z_waiting, z_nested, z_type, z_wantsOperand, z_variablesKnown, z_names, z_ownFrom, z_at, z_wrongAt, z_parties, z_states, z_choices, z_outcomes, z_sready, z_many], [z_fc, z_role, z_holds, z_fu, z_taken, z_fo, z_home, z_row, z_fout, z_offer, z_oc], [v, z_policies, z_found, z_told], [z_policy]))) := by
    intro n
    induction n with
    | zero =>
      repeat' (first | refine And.intro ?_ ?_ | intro _)
      all_goals omega
    | succ n ih =>
      intros
      refine hF (L' := [some _, some _, some _, none, none]) (by repeat' (first | exact True.intro | refine And.intro rfl ?_)) ?_
      refine hs [] _ rfl ?_
      conv => whnf
      repeat' (first | refine hw_ex32 ⟨by omega, by omega⟩ ?_ | (intro h; exact absurd h (by decide)) | intro _ | refine And.intro ?_ ?_ | (refine hs [10] _ rfl ?_; conv => whnf) | apply ih | apply hK | (apply hX; apply c_put hU) | (apply hX; apply c_copy hU) | (apply hX; apply c_toQuotient hU) | (apply hX; apply c_small hU) | (apply hX; apply c_cdiv hU) | (apply hX; apply c_toProduct hU))
      (all_goals clear ih); all_goals (first | exact Nat.lt_succ_self _ | assumption | omega | (have hsq := sp_b hsp (by assumption) (by assumption); have hpq := pl_b hpl (by assumption) (by assumption); omega) | (clear hs hX hF hK; fail))
  repeat' (first | refine hw_ex32 ⟨by omega, by omega⟩ ?_ | (intro h; exact absurd h (by decide)) | intro _ | refine And.intro ?_ ?_ | (refine hs [10] _ rfl ?_; conv => whnf) | apply (cuts _) | apply hK | (apply hX; apply c_put hU) | (apply hX; apply c_copy hU) | (apply hX; apply c_toQuotient hU) | (apply hX; apply c_small hU) | (apply hX; apply c_cdiv hU) | (apply hX; apply c_toProduct hU))
  all_goals (first | exact Nat.lt_succ_self _ | assumption | omega | (have hsq := sp_b hsp (by assumption) (by assumption); have hpq := pl_b hpl (by assumption) (by assumption); omega) | (clear hs hX hF hK; fail))
theorem c_spread (hU : hw_U (hv_T kof own)) {s h : Int} (hs0 : 0 ≤ s ∧ s ≤ 23 ∧ 0 ≤ h ∧ h ≤ 199) (hK : ∀ (v : Int → Int), K none ([z_used, z_broken, z_fed, z_textEnd, z_made, z_mready, z_modules, z_actions, z_target, z_variables, z_commands, z_updates, z_steps, z_waiting, z_nested, z_type, z_wantsOperand, z_variablesKnown, z_names, z_ownFrom, z_at, z_wrongAt, z_parties, z_states, z_choices, z_outcomes, z_sready, z_many], [z_fc, z_role, z_holds, z_fu, z_taken, z_fo, z_home, z_row, z_fout, z_offer, z_oc], [v, z_policies, z_found, z_told], [z_policy])) : hw_C pg_G pg_TT scr (hv_T kof own) (d + 4) 170 [hw_R 60 0, hw_I s, hw_I h] ([z_used, z_broken, z_fed, z_textEnd, z_made, z_mready, z_modules, z_actions, z_target, z_variables, z_commands, z_updates, z_steps, z_waiting, z_nested, z_type, z_wantsOperand, z_variablesKnown, z_names, z_ownFrom, z_at, z_wrongAt, z_parties, z_states, z_choices, z_outcomes, z_sready, z_many], [z_fc, z_role, z_holds, z_fu, z_taken, z_fo, z_home, z_row, z_fout, z_offer, z_oc], [z_size, z_policies, z_found, z_told], [z_policy]) K E := by
  refine hw_meth hU hv_DG ⟨rfl, rfl⟩ (fun w X hs hX hF => ?_)
  have cuts : ∀ n : Nat, (∀ (o : Int) (v : Int → Int), 0 ≤ o → o ≤ 3200 → (4000 - o).toNat < n → w (69, [some (hw_R 60 0), some (hw_I (s)), some (hw_I (h)), some (hw_I (o))], [], ([z_used, z_broken, z_fed, z_textEnd, z_made, z_mready, z_modules, z_actions, z_target, z_variables, z_commands, z_updates, z_steps, z_waiting, z_nested, z_type, z_wantsOperand, z_variablesKnown, z_names, z_ownFrom, z_at, z_wrongAt, z_parties, z_states, z_choices, z_outcomes, z_sready, z_many], [z_fc, z_role, z_holds, z_fu, z_taken, z_fo, z_home, z_row, z_fout, z_offer, z_oc], [v, z_policies, z_found, z_told], [z_policy]))) := by
    intro n
    induction n with
    | zero =>
      repeat' (first | refine And.intro ?_ ?_ | intro _)
      all_goals omega
    | succ n ih =>
      intros
      refine hs [] _ rfl ?_
      conv => whnf
      repeat' (first | refine hw_ex32 ⟨by omega, by omega⟩ ?_ | (intro h; exact absurd h (by decide)) | intro _ | refine And.intro ?_ ?_ | (refine hs [69] _ rfl ?_; conv => whnf) | apply ih | apply hK | (apply hX; apply c_put hU) | (apply hX; apply c_copy hU) | (apply hX; apply c_toQuotient hU) | (apply hX; apply c_toProduct hU) | (apply hX; apply c_addProduct hU))
      (all_goals clear ih); all_goals (first | exact Nat.lt_succ_self _ | assumption | omega | (clear hs hX hF hK; fail))
  repeat' (first | refine hw_ex32 ⟨by omega, by omega⟩ ?_ | (intro h; exact absurd h (by decide)) | intro _ | refine And.intro ?_ ?_ | (refine hs [69] _ rfl ?_; conv => whnf) | apply (cuts _) | apply hK | (apply hX; apply c_put hU) | (apply hX; apply c_copy hU) | (apply hX; apply c_toQuotient hU) | (apply hX; apply c_toProduct hU) | (apply hX; apply c_addProduct hU))
  all_goals (first | exact Nat.lt_succ_self _ | assumption | omega | (clear hs hX hF hK; fail))
theorem c_step (hU : hw_U (hv_T kof own)) {a : Int} (ha : 0 ≤ a ∧ a ≤ 1) (hsp : sp_ok z_states z_fc) (hpl : pl_ok z_states z_fc (z_policy a)) (hK : ∀ (v : Int → Int), K none ([z_used, z_broken, z_fed, z_textEnd, z_made, z_mready, z_modules, z_actions, z_target, z_variables, z_commands, z_updates, z_steps, z_waiting, z_nested, z_type, z_wantsOperand, z_variablesKnown, z_names, z_ownFrom, z_at, z_wrongAt, z_parties, z_states, z_choices, z_outcomes, z_sready, z_many], [z_fc, z_role, z_holds, z_fu, z_taken, z_fo, z_home, z_row, z_fout, z_offer, z_oc], [v, z_policies, z_found, z_told], [z_policy])) : hw_C pg_G pg_TT scr (hv_T kof own) (d + 5) 168 [hw_R 60 0, hw_R 56 a] ([z_used, z_broken, z_fed, z_textEnd, z_made, z_mready, z_modules, z_actions, z_target, z_variables, z_commands, z_updates, z_steps, z_waiting, z_nested, z_type, z_wantsOperand, z_variablesKnown, z_names, z_ownFrom, z_at, z_wrongAt, z_parties, z_states, z_choices, z_outcomes, z_sready, z_many], [z_fc, z_role, z_holds, z_fu, z_taken, z_fo, z_home, z_row, z_fout, z_offer, z_oc], [z_size, z_policies, z_found, z_told], [z_policy]) K E := by
  refine hw_meth hU hv_DG ⟨rfl, rfl⟩ (fun w X hs hX hF => ?_)
  have cuts : ∀ n : Nat, (∀ (s : Int) (v : Int → Int), 0 ≤ s → s ≤ 24 → (300 - s).toNat < n → w (7, [some (hw_R 60 0), some (hw_R 56 a), some (hw_I (s))], [], ([z_used, z_broken, z_fed, z_textEnd, z_made, z_mready, z_modules, z_actions, z_target, z_variables, z_commands, z_updates, z_steps, z_waiting, z_nested, z_type, z_wantsOperand, z_variablesKnown, z_names, z_ownFrom, z_at, z_wrongAt, z_parties, z_states, z_choices, z_outcomes, z_sready, z_many], [z_fc, z_role, z_holds, z_fu, z_taken, z_fo, z_home, z_row, z_fout, z_offer, z_oc], [v, z_policies, z_found, z_told], [z_policy]))) ∧ (∀ (s : Int) (v : Int → Int), 0 ≤ s → s ≤ 24 → (200 - s).toNat < n → w (36, [some (hw_R 60 0), some (hw_R 56 a), some (hw_I (s))], [], ([z_used, z_broken, z_fed, z_textEnd, z_made, z_mready, z_modules, z_actions, z_target, z_variables, z_commands, z_updates, z_steps, z_waiting, z_nested, z_type, z_wantsOperand, z_variablesKnown, z_names, z_ownFrom, z_at, z_wrongAt, z_parties, z_states, z_choices, z_outcomes, z_sready, z_many], [z_fc, z_role, z_holds, z_fu, z_taken, z_fo, z_home, z_row, z_fout, z_offer, z_oc], [v, z_policies, z_found, z_told], [z_policy]))) ∧ (∀ (s : Int) (v : Int → Int), 0 ≤ s → s ≤ 24 → (100 - s).toNat < n → w (131, [some (hw_R 60 0), some (hw_R 56 a), some (hw_I (s))], [], ([z_used, z_broken, z_fed, z_textEnd, z_made, z_mready, z_modules, z_actions, z_target, z_variables, z_commands, z_updates, z_steps, z_waiting, z_nested, z_type, z_wantsOperand, z_variablesKnown, z_names, z_ownFrom, z_at, z_wrongAt, z_parties, z_states, z_choices, z_outcomes, z_sready, z_many], [z_fc, z_role, z_holds, z_fu, z_taken, z_fo, z_home, z_row, z_fout, z_offer, z_oc], [v, z_policies, z_found, z_told], [z_policy]))) := by
    intro n
    induction n with
    | zero =>
      repeat' (first | refine And.intro ?_ ?_ | intro _)
      all_goals omega
    | succ n ih =>
      obtain ⟨ih0, ih1, ih2⟩ := ih
      refine ⟨?_, ?_, ?_⟩
      · intros
        refine hs [] _ rfl ?_
        conv => whnf
        repeat' (first | refine hw_ex32 ⟨by omega, by omega⟩ ?_ | (intro h; exact absurd h (by decide)) | intro _ | refine And.intro ?_ ?_ | (refine hs [7, 36, 131] _ rfl ?_; conv => whnf) | apply ih0 | apply ih1 | apply ih2 | apply hK | (apply hX; apply c_findCommon hU) | (apply hX; apply c_put hU) | (apply hX; apply c_addProduct hU) | (apply hX; apply c_spread hU) | (apply hX; apply c_copy hU) | (apply hX; apply c_toProduct hU))
        (all_goals clear ih0 ih1 ih2); all_goals (first | exact Nat.lt_succ_self _ | assumption | omega | (have hsq := sp_b hsp (by assumption) (by assumption); have hpq := pl_b hpl (by assumption) (by assumption); omega) | (clear hs hX hF hK; fail))
      · intros
        refine hs [] _ rfl ?_
        conv => whnf
        repeat' (first | refine hw_ex32 ⟨by omega, by omega⟩ ?_ | (intro h; exact absurd h (by decide)) | intro _ | refine And.intro ?_ ?_ | (refine hs [7, 36, 131] _ rfl ?_; conv => whnf) | apply ih0 | apply ih1 | apply ih2 | apply hK | (apply hX; apply c_findCommon hU) | (apply hX; apply c_put hU) | (apply hX; apply c_addProduct hU) | (apply hX; apply c_spread hU) | (apply hX; apply c_copy hU) | (apply hX; apply c_toProduct hU))
        (all_goals clear ih0 ih1 ih2); all_goals (first | exact Nat.lt_succ_self _ | assumption | omega | (have hsq := sp_b hsp (by assumption) (by assumption); have hpq := pl_b hpl (by assumption) (by assumption); omega) | (clear hs hX hF hK; fail))
      · intros
        refine hs [] _ rfl ?_
        conv => whnf
        repeat' (first | refine hw_ex32 ⟨by omega, by omega⟩ ?_ | (intro h; exact absurd h (by decide)) | intro _ | refine And.intro ?_ ?_ | (refine hs [7, 36, 131] _ rfl ?_; conv => whnf) | apply ih0 | apply ih1 | apply ih2 | apply hK | (apply hX; apply c_findCommon hU) | (apply hX; apply c_put hU) | (apply hX; apply c_addProduct hU) | (apply hX; apply c_spread hU) | (apply hX; apply c_copy hU) | (apply hX; apply c_toProduct hU))
        (all_goals clear ih0 ih1 ih2); all_goals (first | exact Nat.lt_succ_self _ | assumption | omega | (have hsq := sp_b hsp (by assumption) (by assumption); have hpq := pl_b hpl (by assumption) (by assumption); omega) | (clear hs hX hF hK; fail))
  repeat' (first | refine hw_ex32 ⟨by omega, by omega⟩ ?_ | (intro h; exact absurd h (by decide)) | intro _ | refine And.intro ?_ ?_ | (refine hs [7, 36, 131] _ rfl ?_; conv => whnf) | apply (cuts _).1 | apply (cuts _).2.1 | apply (cuts _).2.2 | apply hK | (apply hX; apply c_findCommon hU) | (apply hX; apply c_put hU) | (apply hX; apply c_addProduct hU) | (apply hX; apply c_spread hU) | (apply hX; apply c_copy hU) | (apply hX; apply c_toProduct hU))
  all_goals (first | exact Nat.lt_succ_self _ | assumption | omega | (have hsq := sp_b hsp (by assumption) (by assumption); have hpq := pl_b hpl (by assumption) (by assumption); omega) | (clear hs hX hF hK; fail))
theorem c_go (hU : hw_U (hv_T kof own)) {a f m : Int} (ha : 0 ≤ a ∧ a ≤ 1) (hsp : sp_ok z_states z_fc) (hpl : pl_ok z_states z_fc (z_policy a)) (hm : 0 ≤ m ∧ m ≤ 100000) (hK : ∀ (v : Int → Int), K none ([z_used, z_broken, z_fed, z_textEnd, z_made, z_mready, z_modules, z_actions, z_target, z_variables, z_commands, z_updates, z_steps, z_waiting, z_nested, z_type, z_wantsOperand, z_variablesKnown, z_names, z_ownFrom, z_at, z_wrongAt, z_parties, z_states, z_choices, z_outcomes, z_sready, z_many], [z_fc, z_role, z_holds, z_fu, z_taken, z_fo, z_home, z_row, z_fout, z_offer, z_oc], [v, z_policies, z_found, z_told], [z_policy])) : hw_C pg_G pg_TT scr (hv_T kof own) (d + 6) 167 [hw_R 60 0, hw_R 56 a, hw_I f, hw_I m] ([z_used, z_broken, z_fed, z_textEnd, z_made, z_mready, z_modules, z_actions, z_target, z_variables, z_commands, z_updates, z_steps, z_waiting, z_nested, z_type, z_wantsOperand, z_variablesKnown, z_names, z_ownFrom, z_at, z_wrongAt, z_parties, z_states, z_choices, z_outcomes, z_sready, z_many], [z_fc, z_role, z_holds, z_fu, z_taken, z_fo, z_home, z_row, z_fout, z_offer, z_oc], [z_size, z_policies, z_found, z_told], [z_policy]) K E := by
  refine hw_meth hU hv_DG ⟨rfl, rfl⟩ (fun w X hs hX hF => ?_)
  have cuts : ∀ n : Nat, (∀ (s : Int) (v : Int → Int), 0 ≤ s → s ≤ 24 → (300000 - s).toNat < n → w (3, [some (hw_R 60 0), some (hw_R 56 a), some (hw_I (f)), some (hw_I (m)), some (hw_I (s))], [], ([z_used, z_broken, z_fed, z_textEnd, z_made, z_mready, z_modules, z_actions, z_target, z_variables, z_commands, z_updates, z_steps, z_waiting, z_nested, z_type, z_wantsOperand, z_variablesKnown, z_names, z_ownFrom, z_at, z_wrongAt, z_parties, z_states, z_choices, z_outcomes, z_sready, z_many], [z_fc, z_role, z_holds, z_fu, z_taken, z_fo, z_home, z_row, z_fout, z_offer, z_oc], [v, z_policies, z_found, z_told], [z_policy]))) ∧ (∀ (s : Int) (v : Int → Int), 0 ≤ s → s ≤ m → (100 + m - s).toNat < n → w (53, [some (hw_R 60 0), some (hw_R 56 a), some (hw_I (f)), some (hw_I (m)), some (hw_I (s))], [], ([z_used, z_broken, z_fed, z_textEnd, z_made, z_mready, z_modules, z_actions, z_target, z_variables, z_commands, z_updates, z_steps, z_waiting, z_nested, z_type, z_wantsOperand, z_variablesKnown, z_names, z_ownFrom, z_at, z_wrongAt, z_parties, z_states, z_choices, z_outcomes, z_sready, z_many], [z_fc, z_role, z_holds, z_fu, z_taken, z_fo, z_home, z_row, z_fout, z_offer, z_oc], [v, z_policies, z_found, z_told], [z_policy]))) ∧ (∀ (s : Int) (v : Int → Int), 0 ≤ s → s ≤ 24 → (24 - s).toNat < n → w (89, [some (hw_R 60 0), some (hw_R 56 a), some (hw_I (f)), some (hw_I (m)), some (hw_I (s))], [], ([z_used, z_broken, z_fed, z_textEnd, z_made, z_mready, z_modules, z_actions, z_target, z_variables, z_commands, z_updates, z_steps, z_waiting, z_nested, z_type, z_wantsOperand, z_variablesKnown, z_names, z_ownFrom, z_at, z_wrongAt, z_parties, z_states, z_choices, z_outcomes, z_sready, z_many], [z_fc, z_role, z_holds, z_fu, z_taken, z_fo, z_home, z_row, z_fout, z_offer, z_oc], [v, z_policies, z_found, z_told], [z_policy]))) := by
    intro n
    induction n with
    | zero =>
      repeat' (first | refine And.intro ?_ ?_ | intro _)
      all_goals omega
    | succ n ih =>
      obtain ⟨ih0, ih1, ih2⟩ := ih
      refine ⟨?_, ?_, ?_⟩
      · intros
        refine hs [] _ rfl ?_
        conv => whnf
        repeat' (first | refine hw_ex32 ⟨by omega, by omega⟩ ?_ | (intro h; exact absurd h (by decide)) | intro _ | refine And.intro ?_ ?_ | (refine hs [3, 53, 89] _ rfl ?_; conv => whnf) | apply ih0 | apply ih1 | apply ih2 | apply hK | (apply hX; apply c_put hU) | (apply hX; apply c_step hU) | (apply hX; apply c_addProduct hU))
        (all_goals clear ih0 ih1 ih2); all_goals (first | exact Nat.lt_succ_self _ | assumption | omega | (clear hs hX hF hK; fail))
      · intros
        refine hs [] _ rfl ?_
        conv => whnf
        repeat' (first | refine hw_ex32 ⟨by omega, by omega⟩ ?_ | (intro h; exact absurd h (by decide)) | intro _ | refine And.intro ?_ ?_ | (refine hs [3, 53, 89] _ rfl ?_; conv => whnf) | apply ih0 | apply ih1 | apply ih2 | apply hK | (apply hX; apply c_put hU) | (apply hX; apply c_step hU) | (apply hX; apply c_addProduct hU))
        (all_goals clear ih0 ih1 ih2); all_goals (first | exact Nat.lt_succ_self _ | assumption | omega | (clear hs hX hF hK; fail))
      · intros
        refine hs [] _ rfl ?_
        conv => whnf
        repeat' (first | refine hw_ex32 ⟨by omega, by omega⟩ ?_ | (intro h; exact absurd h (by decide)) | intro _ | refine And.intro ?_ ?_ | (refine hs [3, 53, 89] _ rfl ?_; conv => whnf) | apply ih0 | apply ih1 | apply ih2 | apply hK | (apply hX; apply c_put hU) | (apply hX; apply c_step hU) | (apply hX; apply c_addProduct hU))
        (all_goals clear ih0 ih1 ih2); all_goals (first | exact Nat.lt_succ_self _ | assumption | omega | (clear hs hX hF hK; fail))
  repeat' (first | refine hw_ex32 ⟨by omega, by omega⟩ ?_ | (intro h; exact absurd h (by decide)) | intro _ | refine And.intro ?_ ?_ | (refine hs [3, 53, 89] _ rfl ?_; conv => whnf) | apply (cuts _).1 | apply (cuts _).2.1 | apply (cuts _).2.2 | apply hK | (apply hX; apply c_put hU) | (apply hX; apply c_step hU) | (apply hX; apply c_addProduct hU))
  all_goals (first | exact Nat.lt_succ_self _ | assumption | omega | (clear hs hX hF hK; fail))
end C4g
