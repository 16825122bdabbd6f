/-! the class: Planner, choices -/
section C4d
variable {scr : Nat × (Nat → Int32)} {d : Nat} {K : Option hw_V → hw_Z → Prop} {E : Nat → hw_Z → Prop} {Z : hw_Z} {kof : Nat → Nat × Int} {own : Nat → Prop} {z_used z_broken z_fed z_textEnd z_made z_mready z_modules z_actions z_target z_variables z_commands z_updates z_steps z_waiting z_nested z_type z_wantsOperand z_variablesKnown z_names z_ownFrom z_at z_wrongAt z_parties z_states z_choices z_outcomes z_sready z_many : Int} {z_fc z_role z_holds z_fu z_taken z_fo z_home z_row z_fout z_offer z_oc z_tk z_pl z_ln z_nm z_op z_wi z_st z_ty z_lo z_hi z_bg z_nt z_wk z_wr z_wt z_wj z_be z_to z_fs z_sv z_gu z_ac z_scd z_atk z_rws z_nx z_tg z_en z_rch z_size z_policies z_found z_told : Int → Int} {z_policy : Int → Int → Int}
/-- each state has a choice -/
def sp_ok (n : Int) (fc : Int → Int) : Prop := ∃ _ : Unit, ∀ s, 0 ≤ s → s < n → 0 ≤ fc s ∧ fc s < fc (s + 1) ∧ fc (s + 1) ≤ 200
theorem sp_at {n s : Int} {fc : Int → Int} (h : sp_ok n fc) (h1 : 0 ≤ s) (h2 : s < n) : 0 ≤ fc s ∧ fc s < fc (s + 1) ∧ fc (s + 1) ≤ 200 := h.elim fun _ h => h s h1 h2
theorem sp_b {n s : Int} {fc : Int → Int} (h : sp_ok n fc) (h2 : s < n) (h1 : 0 ≤ s) : 0 ≤ fc s ∧ fc s < fc (s + 1) ∧ fc (s + 1) ≤ 200 := sp_at h h1 h2
/-- a policy takes choices that are there -/
def pl_ok (n : Int) (fc pol : Int → Int) : Prop := ∃ _ : Unit, ∀ s, 0 ≤ s → s < n → 0 ≤ pol s ∧ fc s + pol s < fc (s + 1)
theorem pl_at {n s : Int} {fc pol : Int → Int} (h : pl_ok n fc pol) (h1 : 0 ≤ s) (h2 : s < n) : 0 ≤ pol s ∧ fc s + pol s < fc (s + 1) := h.elim fun _ h => h s h1 h2
theorem pl_b {n s : Int} {fc pol : Int → Int} (h : pl_ok n fc pol) (h2 : s < n) (h1 : 0 ≤ s) : 0 ≤ pol s ∧ fc s + pol s < fc (s + 1) := pl_at h h1 h2
theorem pl_0 {fc pol : Int → Int} : pl_ok 0 fc pol := ⟨(), fun s h1 h2 => absurd h1 (by omega)⟩
theorem pl_le {n m : Int} {fc pol : Int → Int} (h : pl_ok n fc pol) (h1 : m ≤ n) : pl_ok m fc pol := ⟨(), fun s h2 h3 => pl_at h h2 (by omega)⟩
theorem pl_push {n m x : Int} {fc pol : Int → Int} (h : pl_ok n fc pol) (hm : m = n + 1) (h1 : 0 ≤ x) (h2 : fc n + x < fc (n + 1)) : pl_ok m fc (hw_up pol n x) := by
  subst hm
  refine ⟨(), fun s h3 h4 => ?_⟩
  by_cases e : s = n
  · subst e; rw [hw_up_s]; exact ⟨h1, h2⟩
  · rw [hw_up_n e]; exact pl_at h h3 (by omega)
theorem pl_put {n s x : Int} {fc pol : Int → Int} (h : pl_ok n fc pol) (h1 : 0 ≤ x) (h2 : fc s + x < fc (s + 1)) : pl_ok n fc (hw_up pol s x) := by
  refine ⟨(), fun q h3 h4 => ?_⟩
  by_cases e : q = s
  · subst e; rw [hw_up_s]; exact ⟨h1, h2⟩
  · rw [hw_up_n e]; exact pl_at h h3 h4
/-- a row of choices found or none -/
def rp_ok (n : Int) (fc row : Int → Int) : Prop := ∃ _ : Unit, ∀ s, 0 ≤ s → s < n → 0 ≤ row s → fc s + row s < fc (s + 1)
theorem rp_at {n s : Int} {fc row : Int → Int} (h : rp_ok n fc row) (h1 : 0 ≤ s) (h2 : s < n) (h3 : 0 ≤ row s) : fc s + row s < fc (s + 1) := h.elim fun _ h => h s h1 h2 h3
theorem rp_b {n s : Int} {fc row : Int → Int} (h : rp_ok n fc row) (h2 : s < n) (h3 : 0 ≤ row s) (h1 : 0 ≤ s) : fc s + row s < fc (s + 1) := rp_at h h1 h2 h3
theorem rp_0 {fc row : Int → Int} : rp_ok 0 fc row := ⟨(), fun s h1 h2 => absurd h1 (by omega)⟩
theorem rp_le {n m : Int} {fc row : Int → Int} (h : rp_ok n fc row) (h1 : m ≤ n) : rp_ok m fc row := ⟨(), fun s h2 h3 => rp_at h h2 (by omega)⟩
theorem rp_push {n m x : Int} {fc row : Int → Int} (h : rp_ok n fc row) (hm : m = n + 1) (h2 : x = -1 ∨ fc n + x < fc (n + 1)) : rp_ok m fc (hw_up row n x) := by
  subst hm
  refine ⟨(), fun s h3 h4 h5 => ?_⟩
  by_cases e : s = n
  · subst e; rw [hw_up_s] at h5 ⊢; omega
  · rw [hw_up_n e] at h5 ⊢; exact rp_at h h3 (by omega) h5
/-- rows of the equations -/
def rw_ok (n : Int) (row : Int → Int) : Prop := ∃ _ : Unit, ∀ s, 0 ≤ s → s < n → 0 ≤ row s ∧ row s ≤ 23
theorem rw_at {n s : Int} {row : Int → Int} (h : rw_ok n row) (h1 : 0 ≤ s) (h2 : s < n) : 0 ≤ row s ∧ row s ≤ 23 := h.elim fun _ h => h s h1 h2
theorem rw_0 {row : Int → Int} : rw_ok 0 row := ⟨(), fun s h1 h2 => absurd h1 (by omega)⟩
theorem rw_le {n m : Int} {row : Int → Int} (h : rw_ok n row) (h1 : m ≤ n) : rw_ok m row := ⟨(), fun s h2 h3 => rw_at h h2 (by omega)⟩
theorem rw_push {n m x : Int} {row : Int → Int} (h : rw_ok n row) (hm : m = n + 1) (h2 : 0 ≤ x) (h3 : x ≤ 23) : rw_ok m (hw_up row n x) := by
  subst hm
  refine ⟨(), fun s h4 h5 => ?_⟩
  by_cases e : s = n
  · subst e; rw [hw_up_s]; exact ⟨h2, h3⟩
  · rw [hw_up_n e]; exact rw_at h h4 (by omega)
theorem c_nearing (hU : hw_U (hv_T kof own)) {a s : Int} (ha : 0 ≤ a ∧ a ≤ 1) (hs0 : 0 ≤ s ∧ s ≤ 23) (hK : ∀ r, -1 ≤ r → (r = -1 ∨ z_fc s + r < z_fc (s + 1)) → K (some (hw_I r)) ([z_used, z_broken, z_fed, z_textEnd, z_made, z_mready, z_modules, z_actions, z_target, z_variables, z_commands, z_updates, z_steps, z_waiting, z_nested, z_type, z_wantsOperand, z_variablesKnown, z_names, z_ownFrom, z_at, z_wrongAt, z_parties, z_states, z_choices, z_outcomes, z_sready, z_many], [z_fc, z_role, z_holds, z_fu, z_taken, z_fo, z_home, z_row, z_fout, z_offer, z_oc, z_tk, z_pl, z_ln, z_nm, z_op, z_wi, z_st, z_ty, z_lo, z_hi, z_bg, z_nt, z_wk, z_wr, z_wt, z_wj, z_be, z_to, z_fs, z_sv, z_gu, z_ac, z_scd, z_atk, z_rws, z_nx, z_tg, z_en, z_rch], [z_size, z_policies, z_found, z_told], [z_policy])) : hw_C pg_G pg_TT scr (hv_T kof own) (d + 2) 144 [hw_R 50 0, hw_R 56 a, hw_I s] ([z_used, z_broken, z_fed, z_textEnd, z_made, z_mready, z_modules, z_actions, z_target, z_variables, z_commands, z_updates, z_steps, z_waiting, z_nested, z_type, z_wantsOperand, z_variablesKnown, z_names, z_ownFrom, z_at, z_wrongAt, z_parties, z_states, z_choices, z_outcomes, z_sready, z_many], [z_fc, z_role, z_holds, z_fu, z_taken, z_fo, z_home, z_row, z_fout, z_offer, z_oc, z_tk, z_pl, z_ln, z_nm, z_op, z_wi, z_st, z_ty, z_lo, z_hi, z_bg, z_nt, z_wk, z_wr, z_wt, z_wj, z_be, z_to, z_fs, z_sv, z_gu, z_ac, z_scd, z_atk, z_rws, z_nx, z_tg, z_en, z_rch], [z_size, z_policies, z_found, z_told], [z_policy]) K E := by
  refine hw_meth hU hv_DG ⟨rfl, rfl⟩ (fun w X hs hX hF => ?_)
  have cuts : ∀ n : Nat, (∀ (c : Int) (ul00 ul01 ul02 : Option hw_V), 0 ≤ c → c ≤ 200 → (10000 * (300 - c) + 9000).toNat < n → w (2, [some (hw_R 50 0), some (hw_R 56 a), some (hw_I (s)), some (hw_I (c)), ul00, ul01, ul02], [], ([z_used, z_broken, z_fed, z_textEnd, z_made, z_mready, z_modules, z_actions, z_target, z_variables, z_commands, z_updates, z_steps, z_waiting, z_nested, z_type, z_wantsOperand, z_variablesKnown, z_names, z_ownFrom, z_at, z_wrongAt, z_parties, z_states, z_choices, z_outcomes, z_sready, z_many], [z_fc, z_role, z_holds, z_fu, z_taken, z_fo, z_home, z_row, z_fout, z_offer, z_oc, z_tk, z_pl, z_ln, z_nm, z_op, z_wi, z_st, z_ty, z_lo, z_hi, z_bg, z_nt, z_wk, z_wr, z_wt, z_wj, z_be, z_to, z_fs, z_sv, z_gu, z_ac, z_scd, z_atk, z_rws, z_nx, z_tg, z_en, z_rch], [z_size, z_policies, z_found, z_told], [z_policy]))) ∧ (∀ (c h o : Int) (ul10 : Option hw_V), 0 ≤ c → z_fc s + c < z_fc (s + 1) → h = z_fc s + c → 0 ≤ z_fc s → z_fc (s + 1) ≤ 200 → 0 ≤ o → o ≤ 3200 → (10000 * (300 - c) + 4000 - o).toNat < n → w (39, [some (hw_R 50 0), some (hw_R 56 a), some (hw_I (s)), some (hw_I (c)), some (hw_I (h)), some (hw_I (o)), ul10], [], ([z_used, z_broken, z_fed, z_textEnd, z_made, z_mready, z_modules, z_actions, z_target, z_variables, z_commands, z_updates, z_steps, z_waiting, z_nested, z_type, z_wantsOperand, z_variablesKnown, z_names, z_ownFrom, z_at, z_wrongAt, z_parties, z_states, z_choices, z_outcomes, z_sready, z_many], [z_fc, z_role, z_holds, z_fu, z_taken, z_fo, z_home, z_row, z_fout, z_offer, z_oc, z_tk, z_pl, z_ln, z_nm, z_op, z_wi, z_st, z_ty, z_lo, z_hi, z_bg, z_nt, z_wk, z_wr, z_wt, z_wj, z_be, z_to, z_fs, z_sv, z_gu, z_ac, z_scd, z_atk, z_rws, z_nx, z_tg, z_en, z_rch], [z_size, z_policies, z_found, z_told], [z_policy]))) := by
    intro n
    induction n with
    | zero =>
      repeat' (first | refine And.intro ?_ ?_ | intro _)
      all_goals omega
    | succ n ih =>
      obtain ⟨ih0, ih1⟩ := ih
      refine ⟨?_, ?_⟩
      · intros
        refine hF (L' := [some _, some _, some _, some _, none, none, none]) (by repeat' (first | exact True.intro | refine And.intro rfl ?_)) ?_
        refine hs [] _ rfl ?_
        conv => whnf
        repeat' (first | refine hw_ex32 ⟨by omega, by omega⟩ ?_ | (intro h; exact absurd h (by decide)) | intro _ | refine And.intro ?_ ?_ | (refine hs [2, 39] _ rfl ?_; conv => whnf) | apply ih0 | apply ih1 | apply hK | (apply hX; apply c_choicesOf hU))
        (all_goals clear ih0 ih1); all_goals (first | exact Nat.lt_succ_self _ | assumption | omega | (clear hs hX hF hK; fail))
      · intros
        refine hF (L' := [some _, some _, some _, some _, some _, some _, none]) (by repeat' (first | exact True.intro | refine And.intro rfl ?_)) ?_
        refine hs [] _ rfl ?_
        conv => whnf
        repeat' (first | refine hw_ex32 ⟨by omega, by omega⟩ ?_ | (intro h; exact absurd h (by decide)) | intro _ | refine And.intro ?_ ?_ | (refine hs [2, 39] _ rfl ?_; conv => whnf) | apply ih0 | apply ih1 | apply hK | (apply hX; apply c_choicesOf hU))
        (all_goals clear ih0 ih1); all_goals (first | exact Nat.lt_succ_self _ | assumption | omega | (clear hs hX hF hK; fail))
  repeat' (first | refine hw_ex32 ⟨by omega, by omega⟩ ?_ | (intro h; exact absurd h (by decide)) | intro _ | refine And.intro ?_ ?_ | (refine hs [2, 39] _ rfl ?_; conv => whnf) | apply (cuts _).1 | apply (cuts _).2 | apply hK | (apply hX; apply c_choicesOf hU))
  all_goals (first | exact Nat.lt_succ_self _ | assumption | omega | (clear hs hX hF hK; fail))
theorem c_avoiding (hU : hw_U (hv_T kof own)) {a s : Int} (ha : 0 ≤ a ∧ a ≤ 1) (hs0 : 0 ≤ s ∧ s ≤ 23) (hK : ∀ r, -1 ≤ r → (r = -1 ∨ z_fc s + r < z_fc (s + 1)) → K (some (hw_I r)) ([z_used, z_broken, z_fed, z_textEnd, z_made, z_mready, z_modules, z_actions, z_target, z_variables, z_commands, z_updates, z_steps, z_waiting, z_nested, z_type, z_wantsOperand, z_variablesKnown, z_names, z_ownFrom, z_at, z_wrongAt, z_parties, z_states, z_choices, z_outcomes, z_sready, z_many], [z_fc, z_role, z_holds, z_fu, z_taken, z_fo, z_home, z_row, z_fout, z_offer, z_oc, z_tk, z_pl, z_ln, z_nm, z_op, z_wi, z_st, z_ty, z_lo, z_hi, z_bg, z_nt, z_wk, z_wr, z_wt, z_wj, z_be, z_to, z_fs, z_sv, z_gu, z_ac, z_scd, z_atk, z_rws, z_nx, z_tg, z_en, z_rch], [z_size, z_policies, z_found, z_told], [z_policy])) : hw_C pg_G pg_TT scr (hv_T kof own) (d + 2) 142 [hw_R 50 0, hw_R 56 a, hw_I s] ([z_used, z_broken, z_fed, z_textEnd, z_made, z_mready, z_modules, z_actions, z_target, z_variables, z_commands, z_updates, z_steps, z_waiting, z_nested, z_type, z_wantsOperand, z_variablesKnown, z_names, z_ownFrom, z_at, z_wrongAt, z_parties, z_states, z_choices, z_outcomes, z_sready, z_many], [z_fc, z_role, z_holds, z_fu, z_taken, z_fo, z_home, z_row, z_fout, z_offer, z_oc, z_tk, z_pl, z_ln, z_nm, z_op, z_wi, z_st, z_ty, z_lo, z_hi, z_bg, z_nt, z_wk, z_wr, z_wt, z_wj, z_be, z_to, z_fs, z_sv, z_gu, z_ac, z_scd, z_atk, z_rws, z_nx, z_tg, z_en, z_rch], [z_size, z_policies, z_found, z_told], [z_policy]) K E := by
  refine hw_meth hU hv_DG ⟨rfl, rfl⟩ (fun w X hs hX hF => ?_)
  have cuts : ∀ n : Nat, (∀ (c : Int) (ul00 ul01 ul02 ul03 : Option hw_V), 0 ≤ c → c ≤ 200 → (10000 * (300 - c) + 9000).toNat < n → w (2, [some (hw_R 50 0), some (hw_R 56 a), some (hw_I (s)), some (hw_I (c)), ul00, ul01, ul02, ul03], [], ([z_used, z_broken, z_fed, z_textEnd, z_made, z_mready, z_modules, z_actions, z_target, z_variables, z_commands, z_updates, z_steps, z_waiting, z_nested, z_type, z_wantsOperand, z_variablesKnown, z_names, z_ownFrom, z_at, z_wrongAt, z_parties, z_states, z_choices, z_outcomes, z_sready, z_many], [z_fc, z_role, z_holds, z_fu, z_taken, z_fo, z_home, z_row, z_fout, z_offer, z_oc, z_tk, z_pl, z_ln, z_nm, z_op, z_wi, z_st, z_ty, z_lo, z_hi, z_bg, z_nt, z_wk, z_wr, z_wt, z_wj, z_be, z_to, z_fs, z_sv, z_gu, z_ac, z_scd, z_atk, z_rws, z_nx, z_tg, z_en, z_rch], [z_size, z_policies, z_found, z_told], [z_policy]))) ∧ (∀ (c h g o : Int) (ul10 : Option hw_V), 0 ≤ c → z_fc s + c < z_fc (s + 1) → h = z_fc s + c → 0 ≤ z_fc s → z_fc (s + 1) ≤ 200 → 0 ≤ o → o ≤ 3200 → (10000 * (300 - c) + 4000 - o).toNat < n → w (42, [some (hw_R 50 0), some (hw_R 56 a), some (hw_I (s)), some (hw_I (c)), some (hw_I (h)), some (hw_I (g)), some (hw_I (o)), ul10], [], ([z_used, z_broken, z_fed, z_textEnd, z_made, z_mready, z_modules, z_actions, z_target, z_variables, z_commands, z_updates, z_steps, z_waiting, z_nested, z_type, z_wantsOperand, z_variablesKnown, z_names, z_ownFrom, z_at, z_wrongAt, z_parties, z_states, z_choices, z_outcomes, z_sready, z_many], [z_fc, z_role, z_holds, z_fu, z_taken, z_fo, z_home, z_row, z_fout, z_offer, z_oc, z_tk, z_pl, z_ln, z_nm, z_op, z_wi, z_st, z_ty, z_lo, z_hi, z_bg, z_nt, z_wk, z_wr, z_wt, z_wj, z_be, z_to, z_fs, z_sv, z_gu, z_ac, z_scd, z_atk, z_rws, z_nx, z_tg, z_en, z_rch], [z_size, z_policies, z_found, z_told], [z_policy]))) := by
    intro n
    induction n with
    | zero =>
      repeat' (first | refine And.intro ?_ ?_ | intro _)
      all_goals omega
    | succ n ih =>
      obtain ⟨ih0, ih1⟩ := ih
      refine ⟨?_, ?_⟩
      · intros
        refine hF (L' := [some _, some _, some _, some _, none, none, none, none]) (by repeat' (first | exact True.intro | refine And.intro rfl ?_)) ?_
        refine hs [] _ rfl ?_
        conv => whnf
        repeat' (first | refine hw_ex32 ⟨by omega, by omega⟩ ?_ | (intro h; exact absurd h (by decide)) | intro _ | refine And.intro ?_ ?_ | (refine hs [2, 42] _ rfl ?_; conv => whnf) | apply ih0 | apply ih1 | apply hK | (apply hX; apply c_choicesOf hU))
        (all_goals clear ih0 ih1); all_goals (first | exact Nat.lt_succ_self _ | assumption | omega | (clear hs hX hF hK; fail))
      · intros
        refine hF (L' := [some _, some _, some _, some _, some _, some _, some _, none]) (by repeat' (first | exact True.intro | refine And.intro rfl ?_)) ?_
        refine hs [] _ rfl ?_
        conv => whnf
        repeat' (first | refine hw_ex32 ⟨by omega, by omega⟩ ?_ | (intro h; exact absurd h (by decide)) | intro _ | refine And.intro ?_ ?_ | (refine hs [2, 42] _ rfl ?_; conv => whnf) | apply ih0 | apply ih1 | apply hK | (apply hX; apply c_choicesOf hU))
        (all_goals clear ih0 ih1); all_goals (first | exact Nat.lt_succ_self _ | assumption | omega | (clear hs hX hF hK; fail))
  repeat' (first | refine hw_ex32 ⟨by omega, by omega⟩ ?_ | (intro h; exact absurd h (by decide)) | intro _ | refine And.intro ?_ ?_ | (refine hs [2, 42] _ rfl ?_; conv => whnf) | apply (cuts _).1 | apply (cuts _).2 | apply hK | (apply hX; apply c_choicesOf hU))
  all_goals (first | exact Nat.lt_succ_self _ | assumption | omega | (clear hs hX hF hK; fail))
end C4d
