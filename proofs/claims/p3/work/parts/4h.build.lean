/-! the class: Space, all of it -/
section C4h
variable {scr : Nat × (Nat → Int32)} {d : Nat} {K : Option hw_V → hw_Z → Prop} {E : Nat → hw_Z → Prop} {Z : hw_Z} {kof : Nat → Nat × Int} {own : Nat → Prop} {z_used z_broken z_fed z_textEnd z_made z_mready z_modules z_actions z_target z_variables z_commands z_updates z_steps z_waiting z_nested z_type z_wantsOperand z_variablesKnown z_names z_ownFrom z_at z_wrongAt z_parties z_states z_choices z_outcomes z_sready z_many : Int} {z_fc z_role z_holds z_fu z_taken z_fo z_home z_row z_fout z_offer z_oc z_size z_policies z_found z_told : Int → Int} {z_policy : Int → Int → Int}
theorem of_fb {p q : Int} {f g : Int → Int} {cm : Int} (h : of_ok p f g cm) (h2 : q < p) (h1 : 0 ≤ q) : f q < f (q + 1) ∧ f (q + 1) ≤ f p := of_f h h1 h2
theorem of_gb {p q i : Int} {f g : Int → Int} {cm : Int} (h : of_ok p f g cm) (h2 : q < p) (h1 : 0 ≤ q) (h3 : 0 ≤ i) (h4 : i < f (q + 1)) : g i < cm := of_g h h1 h2 h3 h4
theorem pk_lo {lo m n cm : Int} {t : Int → Int} (h : pk_ok lo n t cm) (h1 : lo ≤ m) : pk_ok m n t cm := ⟨(), fun q h2 h3 => pk_at h (by omega) h3⟩
/-- no way, or offers -/
def oz_ok (x p : Int) (f g : Int → Int) (cm : Int) : Prop := ∃ _ : Unit, x = 0 ∨ of_ok p f g cm
theorem oz_0 {p : Int} {f g : Int → Int} {cm : Int} : oz_ok 0 p f g cm := ⟨(), Or.inl rfl⟩
theorem oz_1 {x p : Int} {f g : Int → Int} {cm : Int} (h : of_ok p f g cm) : oz_ok x p f g cm := ⟨(), Or.inr h⟩
theorem oz_of {x p : Int} {f g : Int → Int} {cm : Int} (h : oz_ok x p f g cm) (h1 : ¬ x = 0) : of_ok p f g cm := h.elim fun _ h => h.elim (fun h => absurd h h1) id
theorem oz_m {x y z q p : Int} {f g : Int → Int} {cm : Int} (h : oz_ok x p f g cm) (h1 : z = x * y + 4294967296 * q) (h2 : -2147483648 ≤ z ∧ z ≤ 2147483647) : oz_ok z p f g cm := by
  refine h.elim fun _ h => h.elim (fun h => ?_) oz_1
  subst h
  rw [Int.zero_mul] at h1
  have h3 : z = 0 := by omega
  subst h3
  exact oz_0
theorem oz_m' {x y z q p : Int} {f g : Int → Int} {cm : Int} (h1 : z = x * y + 4294967296 * q) (h2 : -2147483648 ≤ z ∧ z ≤ 2147483647) (h : oz_ok x p f g cm) : oz_ok z p f g cm := oz_m h h1 h2
/-- the states that were looked at: each has a choice -/
def sq_ok (n ch : Int) (fc : Int → Int) : Prop := ∃ _ : Unit, sp_ok n fc ∧ (0 < n → fc n = ch)
theorem sq_0 {ch : Int} {fc : Int → Int} : sq_ok 0 ch fc := ⟨(), ⟨(), fun s h1 h2 => absurd h1 (by omega)⟩, fun h => absurd h (by omega)⟩
theorem sq_e {n m ch : Int} {fc : Int → Int} (h : sq_ok n ch fc) (h1 : m ≤ n) : sp_ok m fc := h.elim fun _ h => ⟨(), fun s h2 h3 => sp_at h.1 h2 (by omega)⟩
theorem sq_push {n m ch c2 x : Int} {fc : Int → Int} (h : sq_ok n ch fc) (hm : m = n + 1) (hx : x = c2) (h0 : 0 ≤ n) (h1 : 0 ≤ ch) (h2 : c2 ≤ 200) (h3 : hw_up fc n ch n = ch → ch < c2) : sq_ok m x (hw_up (hw_up fc n ch) m c2) := by
  subst hm; subst hx
  have h4 := h3 hw_up_s
  refine h.elim fun _ h => ⟨(), ⟨(), fun s h5 h6 => ?_⟩, fun _ => hw_up_s⟩
  by_cases e : s = n
  · subst e
    have e3 : ¬ s = s + 1 := by omega
    rw [hw_up_s, hw_up_n e3, hw_up_s]
    exact ⟨h1, h4, h2⟩
  · have e3 : ¬ s = n + 1 := by omega
    have e4 : ¬ s + 1 = n + 1 := by omega
    have h7 := sp_at h.1 h5 (by omega)
    rw [hw_up_n e3, hw_up_n e4, hw_up_n e]
    by_cases e2 : s + 1 = n
    · rw [e2, hw_up_s]
      rw [e2, h.2 (by omega)] at h7
      exact h7
    · rw [hw_up_n e2]
      exact h7
theorem c_take2 (hU : hw_U (hv_T kof own)) {y : Int} (hy : 0 ≤ y) (hof : of_ok z_parties z_fo z_offer z_commands) (hK : ∀ (v : Int → Int), pk_ok 0 z_parties v z_commands → K none ([z_used, z_broken, z_fed, z_textEnd, z_made, z_mready, z_modules, z_actions, z_target, z_variables, z_commands, z_updates, z_steps, z_waiting, z_nested, z_type, z_wantsOperand, z_variablesKnown, z_names, z_ownFrom, z_at, z_wrongAt, z_parties, z_states, z_choices, z_outcomes, z_sready, z_many], [z_fc, z_role, z_holds, z_fu, v, z_fo, z_home, z_row, z_fout, z_offer, z_oc], [z_size, z_policies, z_found, z_told], [z_policy])) : hw_C pg_G pg_TT scr (hv_T kof own) (d + 2) 112 [hw_R 37 0, hw_I y] ([z_used, z_broken, z_fed, z_textEnd, z_made, z_mready, z_modules, z_actions, z_target, z_variables, z_commands, z_updates, z_steps, z_waiting, z_nested, z_type, z_wantsOperand, z_variablesKnown, z_names, z_ownFrom, z_at, z_wrongAt, z_parties, z_states, z_choices, z_outcomes, z_sready, z_many], [z_fc, z_role, z_holds, z_fu, z_taken, z_fo, z_home, z_row, z_fout, z_offer, z_oc], [z_size, z_policies, z_found, z_told], [z_policy]) K E := by
  refine hw_meth hU hv_DG ⟨rfl, rfl⟩ (fun w X hs hX hF => ?_)
  have cuts : ∀ n : Nat, (∀ (r p : Int) (v : Int → Int) (ulp0 : Option hw_V), 0 ≤ r → -1 ≤ p → p < z_parties → p ≤ 2 → pk_ok (p + 1) z_parties v z_commands → (p + 1).toNat < n → w (9, [some (hw_R 37 0), some (hw_I (y)), some (hw_I (r)), some (hw_I (p)), ulp0], [], ([z_used, z_broken, z_fed, z_textEnd, z_made, z_mready, z_modules, z_actions, z_target, z_variables, z_commands, z_updates, z_steps, z_waiting, z_nested, z_type, z_wantsOperand, z_variablesKnown, z_names, z_ownFrom, z_at, z_wrongAt, z_parties, z_states, z_choices, z_outcomes, z_sready, z_many], [z_fc, z_role, z_holds, z_fu, v, z_fo, z_home, z_row, z_fout, z_offer, z_oc], [z_size, z_policies, z_found, z_told], [z_policy]))) := by
    intro n
    induction n with
    | zero =>
      repeat' (first | refine And.intro ?_ ?_ | intro _)
      all_goals omega
    | succ n ih =>
      intros
      refine hF (L' := [some _, some _, some _, some _, none]) (by repeat' (first | exact True.intro | refine And.intro rfl ?_)) ?_
      refine hs [] _ rfl ?_
      conv => whnf
      repeat' (first | refine hw_ex32 ⟨by omega, by omega⟩ ?_ | (intro h; exact absurd h (by decide)) | intro _ | refine And.intro ?_ ?_ | (refine hs [9] _ rfl ?_; conv => whnf) | apply ih | apply hK | (apply hX; apply c_max hU))
      (all_goals clear ih); all_goals (first | exact Nat.lt_succ_self _ | assumption | omega | (refine pk_e ?_; omega) | (have hfq := of_fb hof (by assumption) (by assumption); omega) | (refine pk_lo (by assumption) ?_; omega) | (refine pk_push (by assumption) ?_ ?_ ?_ <;> first | omega | (have hfq := of_fb hof (by assumption) (by assumption); refine of_gb hof (by assumption) (by assumption) ?_ ?_ <;> omega)) | (clear hs hX hF hK; simp only [hw_lqe, if_true] at *; omega) | (clear hs hX hF hK; fail))
  repeat' (first | refine hw_ex32 ⟨by omega, by omega⟩ ?_ | (intro h; exact absurd h (by decide)) | intro _ | refine And.intro ?_ ?_ | (refine hs [9] _ rfl ?_; conv => whnf) | apply (cuts _) | apply hK | (apply hX; apply c_max hU))
  all_goals (first | exact Nat.lt_succ_self _ | assumption | omega | (refine pk_e ?_; omega) | (have hfq := of_fb hof (by assumption) (by assumption); omega) | (refine pk_lo (by assumption) ?_; omega) | (refine pk_push (by assumption) ?_ ?_ ?_ <;> first | omega | (have hfq := of_fb hof (by assumption) (by assumption); refine of_gb hof (by assumption) (by assumption) ?_ ?_ <;> omega)) | (clear hs hX hF hK; simp only [hw_lqe, if_true] at *; omega) | (clear hs hX hF hK; fail))
theorem c_addJointChoices (hU : hw_U (hv_T kof own)) {s : Int} (hs0 : 0 ≤ s ∧ s ≤ 23) (hmd : md_ok z_commands z_updates z_fu) (ho : 0 ≤ z_outcomes ∧ z_outcomes ≤ 16 * z_choices ∧ 0 ≤ z_choices) (hK : ∀ (v_broken v_states v_outcomes v_choices v_parties : Int) (v_fout v_taken v_fo v_offer : Int → Int), z_states ≤ v_states → 0 ≤ v_outcomes → v_outcomes ≤ 16 * v_choices → z_choices ≤ v_choices → K none ([z_used, v_broken, z_fed, z_textEnd, z_made, z_mready, z_modules, z_actions, z_target, z_variables, z_commands, z_updates, z_steps, z_waiting, z_nested, z_type, z_wantsOperand, z_variablesKnown, z_names, z_ownFrom, z_at, z_wrongAt, v_parties, v_states, v_choices, v_outcomes, z_sready, z_many], [z_fc, z_role, z_holds, z_fu, v_taken, v_fo, z_home, z_row, v_fout, v_offer, z_oc], [z_size, z_policies, z_found, z_told], [z_policy])) (hE : ∀ (e_broken e_parties e_states e_choices e_outcomes : Int) (e_fc e_taken e_fo e_fout e_offer : Int → Int), E 14 ([z_used, e_broken, z_fed, z_textEnd, z_made, z_mready, z_modules, z_actions, z_target, z_variables, z_commands, z_updates, z_steps, z_waiting, z_nested, z_type, z_wantsOperand, z_variablesKnown, z_names, z_ownFrom, z_at, z_wrongAt, e_parties, e_states, e_choices, e_outcomes, z_sready, z_many], [e_fc, z_role, z_holds, z_fu, e_taken, e_fo, z_home, z_row, e_fout, e_offer, z_oc], [z_size, z_policies, z_found, z_told], [z_policy])) (hE1 : ∀ (e_broken e_parties e_states e_choices e_outcomes : Int) (e_fc e_taken e_fo e_fout e_offer : Int → Int), E 18 ([z_used, e_broken, z_fed, z_textEnd, z_made, z_mready, z_modules, z_actions, z_target, z_variables, z_commands, z_updates, z_steps, z_waiting, z_nested, z_type, z_wantsOperand, z_variablesKnown, z_names, z_ownFrom, z_at, z_wrongAt, e_parties, e_states, e_choices, e_outcomes, z_sready, z_many], [e_fc, z_role, z_holds, z_fu, e_taken, e_fo, z_home, z_row, e_fout, e_offer, z_oc], [z_size, z_policies, z_found, z_told], [z_policy])) : hw_C pg_G pg_TT scr (hv_T kof own) (d + 6) 110 [hw_R 37 0, hw_I s] ([z_used, z_broken, z_fed, z_textEnd, z_made, z_mready, z_modules, z_actions, z_target, z_variables, z_commands, z_updates, z_steps, z_waiting, z_nested, z_type, z_wantsOperand, z_variablesKnown, z_names, z_ownFrom, z_at, z_wrongAt, z_parties, z_states, z_choices, z_outcomes, z_sready, z_many], [z_fc, z_role, z_holds, z_fu, z_taken, z_fo, z_home, z_row, z_fout, z_offer, z_oc], [z_size, z_policies, z_found, z_told], [z_policy]) K E := by
  refine hw_meth hU hv_DG ⟨rfl, rfl⟩ (fun w X hs hX hF => ?_)
  have hmu := md_u hmd
  have cuts : ∀ n : Nat, (∀ (i b u o ch pt : Int) (f g h e : Int → Int) (ul00 ul01 : Option hw_V), 0 ≤ i → z_states ≤ u → 0 ≤ o → o ≤ 16 * ch → z_choices ≤ ch → 0 ≤ ch → (10000000000 * (50 - i) + 9000000000).toNat < n → w (2, [some (hw_R 37 0), some (hw_I (s)), some (hw_I (i)), ul00, ul01], [], ([z_used, b, z_fed, z_textEnd, z_made, z_mready, z_modules, z_actions, z_target, z_variables, z_commands, z_updates, z_steps, z_waiting, z_nested, z_type, z_wantsOperand, z_variablesKnown, z_names, z_ownFrom, z_at, z_wrongAt, pt, u, ch, o, z_sready, z_many], [z_fc, z_role, z_holds, z_fu, g, h, z_home, z_row, f, e, z_oc], [z_size, z_policies, z_found, z_told], [z_policy]))) ∧ (∀ (i x p b u o ch pt : Int) (f g h e : Int → Int), 0 ≤ i → i ≤ 39 → 0 ≤ p → p ≤ 3 → x ≤ 2147483647 → oz_ok x pt h e z_commands → z_states ≤ u → 0 ≤ o → o ≤ 16 * ch → z_choices ≤ ch → 0 ≤ ch → (10000000000 * (50 - i) + 8000000000 - p).toNat < n → w (30, [some (hw_R 37 0), some (hw_I (s)), some (hw_I (i)), some (hw_I (x)), some (hw_I (p))], [], ([z_used, b, z_fed, z_textEnd, z_made, z_mready, z_modules, z_actions, z_target, z_variables, z_commands, z_updates, z_steps, z_waiting, z_nested, z_type, z_wantsOperand, z_variablesKnown, z_names, z_ownFrom, z_at, z_wrongAt, pt, u, ch, o, z_sready, z_many], [z_fc, z_role, z_holds, z_fu, g, h, z_home, z_row, f, e, z_oc], [z_size, z_policies, z_found, z_told], [z_policy]))) ∧ (∀ (i x y b u o ch pt : Int) (f g h e : Int → Int), 0 ≤ i → i ≤ 39 → 0 ≤ y → y ≤ 2147483647 → x ≤ 2147483647 → oz_ok x pt h e z_commands → z_states ≤ u → 0 ≤ o → o ≤ 16 * ch → z_choices ≤ ch → 0 ≤ ch → (10000000000 * (50 - i) + 3000000000 - y).toNat < n → w (68, [some (hw_R 37 0), some (hw_I (s)), some (hw_I (i)), some (hw_I (x)), some (hw_I (y))], [], ([z_used, b, z_fed, z_textEnd, z_made, z_mready, z_modules, z_actions, z_target, z_variables, z_commands, z_updates, z_steps, z_waiting, z_nested, z_type, z_wantsOperand, z_variablesKnown, z_names, z_ownFrom, z_at, z_wrongAt, pt, u, ch, o, z_sready, z_many], [z_fc, z_role, z_holds, z_fu, g, h, z_home, z_row, f, e, z_oc], [z_size, z_policies, z_found, z_told], [z_policy]))) := by
    intro n
    induction n with
    | zero =>
      repeat' (first | refine And.intro ?_ ?_ | intro _)
      all_goals omega
    | succ n ih =>
      obtain ⟨ih0, ih1, ih2⟩ := ih
      refine ⟨?_, ?_, ?_⟩
      · intros
        refine hF (L' := [some _, some _, some _, none, none]) (by repeat' (first | exact True.intro | refine And.intro rfl ?_)) ?_
        refine hs [] _ rfl ?_
        conv => whnf
        repeat' (first | refine hw_ex32 ⟨by omega, by omega⟩ ?_ | (intro h; exact absurd h (by decide)) | intro _ | refine And.intro ?_ ?_ | (refine hs [2, 30, 68] _ rfl ?_; conv => whnf) | apply ih0 | apply ih1 | apply ih2 | apply hK | apply hE | apply hE1 | (apply hX; apply c_gatherOffers hU) | (apply hX; apply c_take2 hU) | (apply hX; apply c_addChoice hU))
        (all_goals clear ih0 ih1 ih2); all_goals (first | exact Nat.lt_succ_self _ | assumption | omega | exact oz_0 | (refine oz_1 ?_; assumption) | (refine oz_of (by assumption) ?_; omega) | (refine oz_m' (by assumption) (by assumption) (by assumption)) | (refine oz_m' (by assumption) ⟨by omega, by omega⟩ (by assumption)) | (clear hs hX hF hK hE hE1; simp only [hw_lqe, if_true] at *; omega) | (clear hs hX hF hK hE hE1; fail))
      · intros
        refine hs [] _ rfl ?_
        conv => whnf
        repeat' (first | refine hw_ex32 ⟨by omega, by omega⟩ ?_ | (intro h; exact absurd h (by decide)) | intro _ | refine And.intro ?_ ?_ | (refine hs [2, 30, 68] _ rfl ?_; conv => whnf) | apply ih0 | apply ih1 | apply ih2 | apply hK | apply hE | apply hE1 | (apply hX; apply c_gatherOffers hU) | (apply hX; apply c_take2 hU) | (apply hX; apply c_addChoice hU))
        (all_goals clear ih0 ih1 ih2); all_goals (first | exact Nat.lt_succ_self _ | assumption | omega | exact oz_0 | (refine oz_1 ?_; assumption) | (refine oz_of (by assumption) ?_; omega) | (refine oz_m' (by assumption) (by assumption) (by assumption)) | (refine oz_m' (by assumption) ⟨by omega, by omega⟩ (by assumption)) | (clear hs hX hF hK hE hE1; simp only [hw_lqe, if_true] at *; omega) | (clear hs hX hF hK hE hE1; fail))
      · intros
        refine hs [] _ rfl ?_
        conv => whnf
        repeat' (first | refine hw_ex32 ⟨by omega, by omega⟩ ?_ | (intro h; exact absurd h (by decide)) | intro _ | refine And.intro ?_ ?_ | (refine hs [2, 30, 68] _ rfl ?_; conv => whnf) | apply ih0 | apply ih1 | apply ih2 | apply hK | apply hE | apply hE1 | (apply hX; apply c_gatherOffers hU) | (apply hX; apply c_take2 hU) | (apply hX; apply c_addChoice hU))
        (all_goals clear ih0 ih1 ih2); all_goals (first | exact Nat.lt_succ_self _ | assumption | omega | exact oz_0 | (refine oz_1 ?_; assumption) | (refine oz_of (by assumption) ?_; omega) | (refine oz_m' (by assumption) (by assumption) (by assumption)) | (refine oz_m' (by assumption) ⟨by omega, by omega⟩ (by assumption)) | (clear hs hX hF hK hE hE1; simp only [hw_lqe, if_true] at *; omega) | (clear hs hX hF hK hE hE1; fail))
  repeat' (first | refine hw_ex32 ⟨by omega, by omega⟩ ?_ | (intro h; exact absurd h (by decide)) | intro _ | refine And.intro ?_ ?_ | (refine hs [2, 30, 68] _ rfl ?_; conv => whnf) | apply (cuts _).1 | apply (cuts _).2.1 | apply (cuts _).2.2 | apply hK | apply hE | apply hE1 | (apply hX; apply c_gatherOffers hU) | (apply hX; apply c_take2 hU) | (apply hX; apply c_addChoice hU))
  all_goals (first | exact Nat.lt_succ_self _ | assumption | omega | exact oz_0 | (refine oz_1 ?_; assumption) | (refine oz_of (by assumption) ?_; omega) | (refine oz_m' (by assumption) (by assumption) (by assumption)) | (refine oz_m' (by assumption) ⟨by omega, by omega⟩ (by assumption)) | (clear hs hX hF hK hE hE1; simp only [hw_lqe, if_true] at *; omega) | (clear hs hX hF hK hE hE1; fail))
theorem c_build (hU : hw_U (hv_T kof own)) (hmd : md_ok z_commands z_updates z_fu) (hK : ∀ (v_broken v_states v_outcomes v_choices v_parties : Int) (v_fout v_taken v_fo v_offer v_fc : Int → Int), sp_ok v_states v_fc → K none ([z_used, v_broken, z_fed, z_textEnd, z_made, z_mready, z_modules, z_actions, z_target, z_variables, z_commands, z_updates, z_steps, z_waiting, z_nested, z_type, z_wantsOperand, z_variablesKnown, z_names, z_ownFrom, z_at, z_wrongAt, v_parties, v_states, v_choices, v_outcomes, 1, z_many], [v_fc, z_role, z_holds, z_fu, v_taken, v_fo, z_home, z_row, v_fout, v_offer, z_oc], [z_size, z_policies, z_found, z_told], [z_policy])) (hE : ∀ (e_broken e_parties e_states e_choices e_outcomes : Int) (e_fc e_taken e_fo e_fout e_offer : Int → Int), E 14 ([z_used, e_broken, z_fed, z_textEnd, z_made, z_mready, z_modules, z_actions, z_target, z_variables, z_commands, z_updates, z_steps, z_waiting, z_nested, z_type, z_wantsOperand, z_variablesKnown, z_names, z_ownFrom, z_at, z_wrongAt, e_parties, e_states, e_choices, e_outcomes, 0, z_many], [e_fc, z_role, z_holds, z_fu, e_taken, e_fo, z_home, z_row, e_fout, e_offer, z_oc], [z_size, z_policies, z_found, z_told], [z_policy])) (hE1 : ∀ (e_broken e_parties e_states e_choices e_outcomes : Int) (e_fc e_taken e_fo e_fout e_offer : Int → Int), E 18 ([z_used, e_broken, z_fed, z_textEnd, z_made, z_mready, z_modules, z_actions, z_target, z_variables, z_commands, z_updates, z_steps, z_waiting, z_nested, z_type, z_wantsOperand, z_variablesKnown, z_names, z_ownFrom, z_at, z_wrongAt, e_parties, e_states, e_choices, e_outcomes, 0, z_many], [e_fc, z_role, z_holds, z_fu, e_taken, e_fo, z_home, z_row, e_fout, e_offer, z_oc], [z_size, z_policies, z_found, z_told], [z_policy])) : hw_C pg_G pg_TT scr (hv_T kof own) (d + 7) 100 [hw_R 37 0] ([z_used, z_broken, z_fed, z_textEnd, z_made, z_mready, z_modules, z_actions, z_target, z_variables, z_commands, z_updates, z_steps, z_waiting, z_nested, z_type, z_wantsOperand, z_variablesKnown, z_names, z_ownFrom, z_at, z_wrongAt, z_parties, z_states, z_choices, z_outcomes, z_sready, z_many], [z_fc, z_role, z_holds, z_fu, z_taken, z_fo, z_home, z_row, z_fout, z_offer, z_oc], [z_size, z_policies, z_found, z_told], [z_policy]) K E := by
  refine hw_meth hU hv_DG ⟨rfl, rfl⟩ (fun w X hs hX hF => ?_)
  have cuts : ∀ n : Nat, (∀ (s b u o ch pt : Int) (f g h e k : Int → Int), 0 ≤ s → s ≤ 24 → s ≤ u → sq_ok s ch k → 0 ≤ o → o ≤ 16 * ch → 0 ≤ ch → (100 - s).toNat < n → w (40, [some (hw_R 37 0), some (hw_I (s))], [], ([z_used, b, z_fed, z_textEnd, z_made, z_mready, z_modules, z_actions, z_target, z_variables, z_commands, z_updates, z_steps, z_waiting, z_nested, z_type, z_wantsOperand, z_variablesKnown, z_names, z_ownFrom, z_at, z_wrongAt, pt, u, ch, o, 0, z_many], [k, z_role, z_holds, z_fu, g, h, z_home, z_row, f, e, z_oc], [z_size, z_policies, z_found, z_told], [z_policy]))) := by
    intro n
    induction n with
    | zero =>
      repeat' (first | refine And.intro ?_ ?_ | intro _)
      all_goals omega
    | succ n ih =>
      intros
      refine hs [] _ rfl ?_
      conv => whnf
      repeat' (first | refine hw_ex32 ⟨by omega, by omega⟩ ?_ | (intro h; exact absurd h (by decide)) | intro _ | refine And.intro ?_ ?_ | (refine hs [40] _ rfl ?_; conv => whnf) | apply ih | apply hK | apply hE | apply hE1 | (apply hX; apply c_lookAt hU) | (apply hX; apply c_addSingleChoices hU) | (apply hX; apply c_addJointChoices hU) | (apply hX; apply c_addChoice hU))
      (all_goals clear ih); all_goals (first | exact Nat.lt_succ_self _ | assumption | omega | exact sq_0 | (refine sq_e (by assumption) ?_; omega) | (refine pk_e ?_; omega) | (refine sq_push (by assumption) ?_ ?_ ?_ ?_ ?_ ?_ <;> first | omega | (intro hq; omega)) | (clear hs hX hF hK hE hE1; simp only [hw_lqe, if_true] at *; omega) | (clear hs hX hF hK hE hE1; fail))
  repeat' (first | refine hw_ex32 ⟨by omega, by omega⟩ ?_ | (intro h; exact absurd h (by decide)) | intro _ | refine And.intro ?_ ?_ | (refine hs [40] _ rfl ?_; conv => whnf) | apply (cuts _) | apply hK | apply hE | apply hE1 | (apply hX; apply c_lookAt hU) | (apply hX; apply c_addSingleChoices hU) | (apply hX; apply c_addJointChoices hU) | (apply hX; apply c_addChoice hU))
  all_goals (first | exact Nat.lt_succ_self _ | assumption | omega | exact sq_0 | (refine sq_e (by assumption) ?_; omega) | (refine pk_e ?_; omega) | (refine sq_push (by assumption) ?_ ?_ ?_ ?_ ?_ ?_ <;> first | omega | (intro hq; omega)) | (clear hs hX hF hK hE hE1; simp only [hw_lqe, if_true] at *; omega) | (clear hs hX hF hK hE hE1; fail))
end C4h
