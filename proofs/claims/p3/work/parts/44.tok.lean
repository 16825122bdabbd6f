/-! the class: Tokens, Machine, Model -/
section C44
variable {scr : Nat × (Nat → Int32)} {d : Nat} {K : Option hw_V → hw_Z → Prop} {E : Nat → hw_Z → Prop} {Z : hw_Z} {kof : Nat → Nat × Int} {own : Nat → Prop} {z_used z_broken z_fed z_textEnd z_made z_mready z_modules z_actions z_target z_variables z_commands z_updates z_steps z_waiting z_nested z_type z_wantsOperand z_variablesKnown z_names z_ownFrom z_at z_wrongAt z_parties z_states z_choices z_outcomes z_sready z_many : Int} {z_fc z_role z_holds z_fu z_taken z_fo z_home z_row z_fout z_offer z_oc z_size z_policies z_found z_told : Int → Int} {z_policy : Int → Int → Int}
theorem hs_l1 : hw_sl pg_sb ((1 : Nat) : Int) = 71 := by decide +kernel
theorem hs_l2 : hw_sl pg_sb ((2 : Nat) : Int) = 12 := by decide +kernel
theorem hs_l3 : hw_sl pg_sb ((3 : Nat) : Int) = 19 := by decide +kernel
theorem c_isDigit (hU : hw_U (hv_T kof own)) {x : Int} (hK : ∀ r, 0 ≤ r → r ≤ 1 → K (some (hw_I r)) Z) : hw_C pg_G pg_TT scr (hv_T kof own) (d + 1) 40 [hw_I x] Z K E := by
  refine hw_meth hU hv_DG ⟨rfl, rfl⟩ (fun w X hs hX hF => ?_)
  repeat' (first | refine hw_ex32 ⟨by omega, by omega⟩ ?_ | (intro h; exact absurd h (by decide)) | intro _ | refine And.intro ?_ ?_ | (refine hs [] _ rfl ?_; conv => whnf) | apply hK)
  all_goals (first | exact Nat.lt_succ_self _ | omega)
theorem c_isLetter (hU : hw_U (hv_T kof own)) {x : Int} (hK : ∀ r, 0 ≤ r → r ≤ 1 → K (some (hw_I r)) Z) : hw_C pg_G pg_TT scr (hv_T kof own) (d + 1) 38 [hw_I x] Z K E := by
  refine hw_meth hU hv_DG ⟨rfl, rfl⟩ (fun w X hs hX hF => ?_)
  repeat' (first | refine hw_ex32 ⟨by omega, by omega⟩ ?_ | (intro h; exact absurd h (by decide)) | intro _ | refine And.intro ?_ ?_ | (refine hs [] _ rfl ?_; conv => whnf) | apply hK)
  all_goals (first | exact Nat.lt_succ_self _ | omega)
theorem c_octetAt (hU : hw_U (hv_T kof own)) {i : Int} (hK : ∀ r, 0 ≤ r → r ≤ 255 → K (some (hw_I r)) ([z_used, z_broken, z_fed, z_textEnd, z_made, z_mready, z_modules, z_actions, z_target, z_variables, z_commands, z_updates, z_steps, z_waiting, z_nested, z_type, z_wantsOperand, z_variablesKnown, z_names, z_ownFrom, z_at, z_wrongAt, z_parties, z_states, z_choices, z_outcomes, z_sready, z_many], [z_fc, z_role, z_holds, z_fu, z_taken, z_fo, z_home, z_row, z_fout, z_offer, z_oc], [z_size, z_policies, z_found, z_told], [z_policy])) : hw_C pg_G pg_TT scr (hv_T kof own) (d + 1) 36 [hw_R 7 0, hw_I i] ([z_used, z_broken, z_fed, z_textEnd, z_made, z_mready, z_modules, z_actions, z_target, z_variables, z_commands, z_updates, z_steps, z_waiting, z_nested, z_type, z_wantsOperand, z_variablesKnown, z_names, z_ownFrom, z_at, z_wrongAt, z_parties, z_states, z_choices, z_outcomes, z_sready, z_many], [z_fc, z_role, z_holds, z_fu, z_taken, z_fo, z_home, z_row, z_fout, z_offer, z_oc], [z_size, z_policies, z_found, z_told], [z_policy]) K E := by
  refine hw_meth hU hv_DG ⟨rfl, rfl⟩ (fun w X hs hX hF => ?_)
  repeat' (first | refine hw_ex32 ⟨by omega, by omega⟩ ?_ | (intro h; exact absurd h (by decide)) | intro _ | refine And.intro ?_ ?_ | (refine hs [] _ rfl ?_; conv => whnf) | apply hK)
  all_goals (first | exact Nat.lt_succ_self _ | omega)
theorem c_afterBlanks (hU : hw_U (hv_T kof own)) {f : Int} (hf : 0 ≤ f) (hK : ∀ r, 0 ≤ r → r ≤ 8200 → K (some (hw_I r)) ([z_used, z_broken, z_fed, z_textEnd, z_made, z_mready, z_modules, z_actions, z_target, z_variables, z_commands, z_updates, z_steps, z_waiting, z_nested, z_type, z_wantsOperand, z_variablesKnown, z_names, z_ownFrom, z_at, z_wrongAt, z_parties, z_states, z_choices, z_outcomes, z_sready, z_many], [z_fc, z_role, z_holds, z_fu, z_taken, z_fo, z_home, z_row, z_fout, z_offer, z_oc], [z_size, z_policies, z_found, z_told], [z_policy])) : hw_C pg_G pg_TT scr (hv_T kof own) (d + 2) 35 [hw_R 7 0, hw_I f] ([z_used, z_broken, z_fed, z_textEnd, z_made, z_mready, z_modules, z_actions, z_target, z_variables, z_commands, z_updates, z_steps, z_waiting, z_nested, z_type, z_wantsOperand, z_variablesKnown, z_names, z_ownFrom, z_at, z_wrongAt, z_parties, z_states, z_choices, z_outcomes, z_sready, z_many], [z_fc, z_role, z_holds, z_fu, z_taken, z_fo, z_home, z_row, z_fout, z_offer, z_oc], [z_size, z_policies, z_found, z_told], [z_policy]) K E := by
  refine hw_meth hU hv_DG ⟨rfl, rfl⟩ (fun w X hs hX hF => ?_)
  have cuts : ∀ n : Nat, (∀ (m i : Int) (ulp0 : Option hw_V), 0 ≤ i → (8201 - i).toNat < n → w (4, [some (hw_R 7 0), some (hw_I (f)), some (hw_I (m)), some (hw_I (i)), ulp0], [], ([z_used, z_broken, z_fed, z_textEnd, z_made, z_mready, z_modules, z_actions, z_target, z_variables, z_commands, z_updates, z_steps, z_waiting, z_nested, z_type, z_wantsOperand, z_variablesKnown, z_names, z_ownFrom, z_at, z_wrongAt, z_parties, z_states, z_choices, z_outcomes, z_sready, z_many], [z_fc, z_role, z_holds, z_fu, z_taken, z_fo, z_home, z_row, z_fout, z_offer, z_oc], [z_size, z_policies, z_found, z_told], [z_policy]))) := by
    intro n
    induction n with
    | zero =>
      repeat' (first | refine And.intro ?_ ?_ | intro _)
      all_goals omega
    | succ n ih =>
      intros
      refine hF (L' := [some _, some _, some _, some _, none]) (by repeat' (first | exact True.intro | refine And.intro rfl ?_)) ?_
      refine hs [] _ rfl ?_
      conv => whnf
      repeat' (first | refine hw_ex32 ⟨by omega, by omega⟩ ?_ | (intro h; exact absurd h (by decide)) | intro _ | refine And.intro ?_ ?_ | (refine hs [4] _ rfl ?_; conv => whnf) | apply ih | apply hK | (apply hX; apply c_octetAt hU))
      (all_goals clear ih); all_goals (first | exact Nat.lt_succ_self _ | omega)
  repeat' (first | refine hw_ex32 ⟨by omega, by omega⟩ ?_ | (intro h; exact absurd h (by decide)) | intro _ | refine And.intro ?_ ?_ | (refine hs [4] _ rfl ?_; conv => whnf) | apply (cuts _) | apply hK | (apply hX; apply c_octetAt hU))
  all_goals (first | exact Nat.lt_succ_self _ | omega)
/-- octets from f on are those of a word -/
def ob_ok (g g' : Int → Int) (f q x : Int) : Prop := ∃ _ : Unit, ∀ i, 0 ≤ i → i < q → g' i = if i < f then g i else hb_and (hb_ushr x (24 - 8 * (i - f))) 255
theorem ob_at {g g' : Int → Int} {f q x i : Int} (h : ob_ok g g' f q x) (h1 : 0 ≤ i) (h2 : i < q) : g' i = if i < f then g i else hb_and (hb_ushr x (24 - 8 * (i - f))) 255 := h.elim fun _ h => h i h1 h2
theorem ob_0 {g : Int → Int} {f x : Int} : ob_ok g g f f x := ⟨(), fun i _ h => by rw [if_pos h]⟩
theorem ob_s {g g' : Int → Int} {f q q' x sh y z : Int} (h : ob_ok g g' f q x) (hy : y = hb_ushr x sh) (hz : z = hb_and y 255) (h1 : f ≤ q) (h2 : 8 * q + sh = 8 * f + 24) (h3 : q' = q + 1) : ob_ok g (hw_up g' q z) f q' x := by
  refine ⟨(), fun i i1 i2 => ?_⟩
  by_cases e : i = q
  · subst e
    have e1 : 24 - 8 * (i - f) = sh := by omega
    have e2 : ¬ i < f := by omega
    rw [hw_up_s, if_neg e2, e1, hz, hy]
  · rw [hw_up_n e]
    exact ob_at h i1 (by omega)
/-- what is fed: the octets of five words behind f others -/
def fg (g : Int → Int) (f a b c d e i : Int) : Int := if i < f then g i else hb_and (hb_ushr (if i < f + 4 then a else if i < f + 8 then b else if i < f + 12 then c else if i < f + 16 then d else e) (24 - 8 * ((i - f) % 4))) 255
def fg_ok (g g' : Int → Int) (f q a b c d e : Int) : Prop := ∃ _ : Unit, ∀ i, 0 ≤ i → i < q → g' i = fg g f a b c d e i
theorem fg_at {g g' : Int → Int} {f q a b c d e i : Int} (h : fg_ok g g' f q a b c d e) (h1 : 0 ≤ i) (h2 : i < q) : g' i = fg g f a b c d e i := h.elim fun _ h => h i h1 h2
theorem fg_5 {g g1 g2 g3 g4 g5 : Int → Int} {f q1 q2 q3 q4 q5 a b c d e : Int} (h1 : ob_ok g g1 f q1 a) (h2 : ob_ok g1 g2 q1 q2 b) (h3 : ob_ok g2 g3 q2 q3 c) (h4 : ob_ok g3 g4 q3 q4 d) (h5 : ob_ok g4 g5 q4 q5 e) (e1 : q1 = f + 4) (e2 : q2 = q1 + 4) (e3 : q3 = q2 + 4) (e4 : q4 = q3 + 4) (e5 : q5 = q4 + 4) : fg_ok g g5 f q5 a b c d e := by
  refine ⟨(), fun i i1 i2 => ?_⟩
  have k5 := ob_at h5 i1 i2
  unfold fg
  by_cases c4 : i < q4
  · rw [if_pos c4] at k5
    rw [k5, ob_at h4 i1 c4]
    by_cases c3 : i < q3
    · rw [if_pos c3, ob_at h3 i1 c3]
      by_cases c2 : i < q2
      · rw [if_pos c2, ob_at h2 i1 c2]
        by_cases c1 : i < q1
        · rw [if_pos c1, ob_at h1 i1 c1]
          by_cases c0 : i < f
          · rw [if_pos c0, if_pos c0]
          · have m : (i - f) % 4 = i - f := by omega
            rw [if_neg c0, if_neg c0, if_pos (by omega), m]
        · have m : (i - f) % 4 = i - q1 := by omega
          rw [if_neg c1, if_neg (by omega), if_neg (by omega), if_pos (by omega), m]
      · have m : (i - f) % 4 = i - q2 := by omega
        rw [if_neg c2, if_neg (by omega), if_neg (by omega), if_neg (by omega), if_pos (by omega), m]
    · have m : (i - f) % 4 = i - q3 := by omega
      rw [if_neg c3, if_neg (by omega), if_neg (by omega), if_neg (by omega), if_neg (by omega), if_pos (by omega), m]
  · have m : (i - f) % 4 = i - q4 := by omega
    rw [if_neg c4] at k5
    rw [k5, if_neg (by omega), if_neg (by omega), if_neg (by omega), if_neg (by omega), if_neg (by omega), m]
theorem c_push (hU : hw_U (hv_T kof own)) {x : Int} (hf : 0 ≤ z_fed ∧ z_fed ≤ 8196) (hK : ∀ (q : Int) (v_oc : Int → Int), q = z_fed + 4 → ob_ok z_oc v_oc z_fed q x → K none ([z_used, z_broken, q, z_textEnd, z_made, z_mready, z_modules, z_actions, z_target, z_variables, z_commands, z_updates, z_steps, z_waiting, z_nested, z_type, z_wantsOperand, z_variablesKnown, z_names, z_ownFrom, z_at, z_wrongAt, z_parties, z_states, z_choices, z_outcomes, z_sready, z_many], [z_fc, z_role, z_holds, z_fu, z_taken, z_fo, z_home, z_row, z_fout, z_offer, v_oc], [z_size, z_policies, z_found, z_told], [z_policy])) : hw_C pg_G pg_TT scr (hv_T kof own) (d + 1) 23 [hw_R 7 0, hw_I x] ([z_used, z_broken, z_fed, z_textEnd, z_made, z_mready, z_modules, z_actions, z_target, z_variables, z_commands, z_updates, z_steps, z_waiting, z_nested, z_type, z_wantsOperand, z_variablesKnown, z_names, z_ownFrom, z_at, z_wrongAt, z_parties, z_states, z_choices, z_outcomes, z_sready, z_many], [z_fc, z_role, z_holds, z_fu, z_taken, z_fo, z_home, z_row, z_fout, z_offer, z_oc], [z_size, z_policies, z_found, z_told], [z_policy]) K E := by
  refine hw_meth hU hv_DG ⟨rfl, rfl⟩ (fun w X hs hX hF => ?_)
  have cuts : ∀ n : Nat, (∀ (sh q : Int) (g : Int → Int), -8 ≤ sh → sh ≤ 24 → 8 * q + sh = 8 * z_fed + 24 → ob_ok z_oc g z_fed q x → (sh + 8).toNat < n → w (3, [some (hw_R 7 0), some (hw_I (x)), some (hw_I (sh))], [], ([z_used, z_broken, q, z_textEnd, z_made, z_mready, z_modules, z_actions, z_target, z_variables, z_commands, z_updates, z_steps, z_waiting, z_nested, z_type, z_wantsOperand, z_variablesKnown, z_names, z_ownFrom, z_at, z_wrongAt, z_parties, z_states, z_choices, z_outcomes, z_sready, z_many], [z_fc, z_role, z_holds, z_fu, z_taken, z_fo, z_home, z_row, z_fout, z_offer, g], [z_size, z_policies, z_found, z_told], [z_policy]))) := by
    intro n
    induction n with
    | zero =>
      repeat' (first | refine And.intro ?_ ?_ | intro _)
      all_goals omega
    | succ n ih =>
      intros
      refine hs [] _ rfl ?_
      conv => whnf
      repeat' (first | refine hw_ex32 ⟨by omega, by omega⟩ ?_ | (intro h; exact absurd h (by decide)) | intro _ | refine And.intro ?_ ?_ | (refine hs [3] _ rfl ?_; conv => whnf) | apply ih | apply hK)
      (all_goals clear ih); all_goals (first | exact Nat.lt_succ_self _ | omega | exact ob_0 | assumption | (refine ob_s (by assumption) (by assumption) (by assumption) ?_ ?_ ?_ <;> omega) | (have e : _ = z_fed + 4 := (by omega : _ = z_fed + 4); fail))
  repeat' (first | refine hw_ex32 ⟨by omega, by omega⟩ ?_ | (intro h; exact absurd h (by decide)) | intro _ | refine And.intro ?_ ?_ | (refine hs [3] _ rfl ?_; conv => whnf) | apply (cuts _) | apply hK)
  all_goals (first | exact Nat.lt_succ_self _ | omega | exact ob_0 | assumption | (refine ob_s (by assumption) (by assumption) (by assumption) ?_ ?_ ?_ <;> omega) | (have e : _ = z_fed + 4 := (by omega : _ = z_fed + 4); fail))
theorem c_foreignOctet (hU : hw_U (hv_T kof own)) {m : Int} (hK : ∀ r, -1 ≤ r → K (some (hw_I r)) ([z_used, z_broken, z_fed, z_textEnd, z_made, z_mready, z_modules, z_actions, z_target, z_variables, z_commands, z_updates, z_steps, z_waiting, z_nested, z_type, z_wantsOperand, z_variablesKnown, z_names, z_ownFrom, z_at, z_wrongAt, z_parties, z_states, z_choices, z_outcomes, z_sready, z_many], [z_fc, z_role, z_holds, z_fu, z_taken, z_fo, z_home, z_row, z_fout, z_offer, z_oc], [z_size, z_policies, z_found, z_told], [z_policy])) : hw_C pg_G pg_TT scr (hv_T kof own) (d + 1) 30 [hw_R 7 0, hw_I m] ([z_used, z_broken, z_fed, z_textEnd, z_made, z_mready, z_modules, z_actions, z_target, z_variables, z_commands, z_updates, z_steps, z_waiting, z_nested, z_type, z_wantsOperand, z_variablesKnown, z_names, z_ownFrom, z_at, z_wrongAt, z_parties, z_states, z_choices, z_outcomes, z_sready, z_many], [z_fc, z_role, z_holds, z_fu, z_taken, z_fo, z_home, z_row, z_fout, z_offer, z_oc], [z_size, z_policies, z_found, z_told], [z_policy]) K E := by
  refine hw_meth hU hv_DG ⟨rfl, rfl⟩ (fun w X hs hX hF => ?_)
  have cuts : ∀ n : Nat, (∀ (i : Int), 0 ≤ i → i ≤ 8200 → (8200 - i).toNat < n → w (2, [some (hw_R 7 0), some (hw_I (m)), some (hw_I (i))], [], ([z_used, z_broken, z_fed, z_textEnd, z_made, z_mready, z_modules, z_actions, z_target, z_variables, z_commands, z_updates, z_steps, z_waiting, z_nested, z_type, z_wantsOperand, z_variablesKnown, z_names, z_ownFrom, z_at, z_wrongAt, z_parties, z_states, z_choices, z_outcomes, z_sready, z_many], [z_fc, z_role, z_holds, z_fu, z_taken, z_fo, z_home, z_row, z_fout, z_offer, z_oc], [z_size, z_policies, z_found, z_told], [z_policy]))) := by
    intro n
    induction n with
    | zero =>
      repeat' (first | refine And.intro ?_ ?_ | intro _)
      all_goals omega
    | succ n ih =>
      intros
      refine hs [] _ rfl ?_
      conv => whnf
      repeat' (first | refine hw_ex32 ⟨by omega, by omega⟩ ?_ | (intro h; exact absurd h (by decide)) | intro _ | refine And.intro ?_ ?_ | (refine hs [2] _ rfl ?_; conv => whnf) | apply ih | apply hK)
      (all_goals clear ih); all_goals (first | exact Nat.lt_succ_self _ | omega)
  repeat' (first | refine hw_ex32 ⟨by omega, by omega⟩ ?_ | (intro h; exact absurd h (by decide)) | intro _ | refine And.intro ?_ ?_ | (refine hs [2] _ rfl ?_; conv => whnf) | apply (cuts _) | apply hK)
  all_goals (first | exact Nat.lt_succ_self _ | omega)
theorem c_digitsFrom (hU : hw_U (hv_T kof own)) {f : Int} (hf : 0 ≤ f) (hK : ∀ r, 0 ≤ r → r ≤ 8200 → K (some (hw_I r)) ([z_used, z_broken, z_fed, z_textEnd, z_made, z_mready, z_modules, z_actions, z_target, z_variables, z_commands, z_updates, z_steps, z_waiting, z_nested, z_type, z_wantsOperand, z_variablesKnown, z_names, z_ownFrom, z_at, z_wrongAt, z_parties, z_states, z_choices, z_outcomes, z_sready, z_many], [z_fc, z_role, z_holds, z_fu, z_taken, z_fo, z_home, z_row, z_fout, z_offer, z_oc], [z_size, z_policies, z_found, z_told], [z_policy])) : hw_C pg_G pg_TT scr (hv_T kof own) (d + 2) 51 [hw_R 7 0, hw_I f] ([z_used, z_broken, z_fed, z_textEnd, z_made, z_mready, z_modules, z_actions, z_target, z_variables, z_commands, z_updates, z_steps, z_waiting, z_nested, z_type, z_wantsOperand, z_variablesKnown, z_names, z_ownFrom, z_at, z_wrongAt, z_parties, z_states, z_choices, z_outcomes, z_sready, z_many], [z_fc, z_role, z_holds, z_fu, z_taken, z_fo, z_home, z_row, z_fout, z_offer, z_oc], [z_size, z_policies, z_found, z_told], [z_policy]) K E := by
  refine hw_meth hU hv_DG ⟨rfl, rfl⟩ (fun w X hs hX hF => ?_)
  have cuts : ∀ n : Nat, (∀ (k i : Int), 0 ≤ k → k = i - f → (i = f ∨ i ≤ 8200) → (8200 - i).toNat < n → w (4, [some (hw_R 7 0), some (hw_I (f)), some (hw_I (k)), some (hw_I (i))], [], ([z_used, z_broken, z_fed, z_textEnd, z_made, z_mready, z_modules, z_actions, z_target, z_variables, z_commands, z_updates, z_steps, z_waiting, z_nested, z_type, z_wantsOperand, z_variablesKnown, z_names, z_ownFrom, z_at, z_wrongAt, z_parties, z_states, z_choices, z_outcomes, z_sready, z_many], [z_fc, z_role, z_holds, z_fu, z_taken, z_fo, z_home, z_row, z_fout, z_offer, z_oc], [z_size, z_policies, z_found, z_told], [z_policy]))) := by
    intro n
    induction n with
    | zero =>
      repeat' (first | refine And.intro ?_ ?_ | intro _)
      all_goals omega
    | succ n ih =>
      intros
      refine hs [] _ rfl ?_
      conv => whnf
      repeat' (first | refine hw_ex32 ⟨by omega, by omega⟩ ?_ | (intro h; exact absurd h (by decide)) | intro _ | refine And.intro ?_ ?_ | (refine hs [4] _ rfl ?_; conv => whnf) | apply ih | apply hK | (apply hX; apply c_octetAt hU) | (apply hX; apply c_isDigit hU))
      (all_goals clear ih); all_goals (first | exact Nat.lt_succ_self _ | omega)
  repeat' (first | refine hw_ex32 ⟨by omega, by omega⟩ ?_ | (intro h; exact absurd h (by decide)) | intro _ | refine And.intro ?_ ?_ | (refine hs [4] _ rfl ?_; conv => whnf) | apply (cuts _) | apply hK | (apply hX; apply c_octetAt hU) | (apply hX; apply c_isDigit hU))
  all_goals (first | exact Nat.lt_succ_self _ | omega)
theorem c_decimal (hU : hw_U (hv_T kof own)) {f m : Int} (hm : m ≤ 2147483647) (hK : ∀ r, K (some (hw_I r)) ([z_used, z_broken, z_fed, z_textEnd, z_made, z_mready, z_modules, z_actions, z_target, z_variables, z_commands, z_updates, z_steps, z_waiting, z_nested, z_type, z_wantsOperand, z_variablesKnown, z_names, z_ownFrom, z_at, z_wrongAt, z_parties, z_states, z_choices, z_outcomes, z_sready, z_many], [z_fc, z_role, z_holds, z_fu, z_taken, z_fo, z_home, z_row, z_fout, z_offer, z_oc], [z_size, z_policies, z_found, z_told], [z_policy])) : hw_C pg_G pg_TT scr (hv_T kof own) (d + 2) 52 [hw_R 7 0, hw_I f, hw_I m] ([z_used, z_broken, z_fed, z_textEnd, z_made, z_mready, z_modules, z_actions, z_target, z_variables, z_commands, z_updates, z_steps, z_waiting, z_nested, z_type, z_wantsOperand, z_variablesKnown, z_names, z_ownFrom, z_at, z_wrongAt, z_parties, z_states, z_choices, z_outcomes, z_sready, z_many], [z_fc, z_role, z_holds, z_fu, z_taken, z_fo, z_home, z_row, z_fout, z_offer, z_oc], [z_size, z_policies, z_found, z_told], [z_policy]) K E := by
  refine hw_meth hU hv_DG ⟨rfl, rfl⟩ (fun w X hs hX hF => ?_)
  have cuts : ∀ n : Nat, (∀ (k i : Int), 0 ≤ i → (m - i).toNat < n → w (5, [some (hw_R 7 0), some (hw_I (f)), some (hw_I (m)), some (hw_I (k)), some (hw_I (i))], [], ([z_used, z_broken, z_fed, z_textEnd, z_made, z_mready, z_modules, z_actions, z_target, z_variables, z_commands, z_updates, z_steps, z_waiting, z_nested, z_type, z_wantsOperand, z_variablesKnown, z_names, z_ownFrom, z_at, z_wrongAt, z_parties, z_states, z_choices, z_outcomes, z_sready, z_many], [z_fc, z_role, z_holds, z_fu, z_taken, z_fo, z_home, z_row, z_fout, z_offer, z_oc], [z_size, z_policies, z_found, z_told], [z_policy]))) := by
    intro n
    induction n with
    | zero =>
      repeat' (first | refine And.intro ?_ ?_ | intro _)
      all_goals omega
    | succ n ih =>
      intros
      refine hs [] _ rfl ?_
      conv => whnf
      repeat' (first | refine hw_ex32 ⟨by omega, by omega⟩ ?_ | (intro h; exact absurd h (by decide)) | intro _ | refine And.intro ?_ ?_ | (refine hs [5] _ rfl ?_; conv => whnf) | apply ih | apply hK | (apply hX; apply c_octetAt hU))
      (all_goals clear ih); all_goals (first | exact Nat.lt_succ_self _ | omega)
  repeat' (first | refine hw_ex32 ⟨by omega, by omega⟩ ?_ | (intro h; exact absurd h (by decide)) | intro _ | refine And.intro ?_ ?_ | (refine hs [5] _ rfl ?_; conv => whnf) | apply (cuts _) | apply hK | (apply hX; apply c_octetAt hU))
  all_goals (first | exact Nat.lt_succ_self _ | omega)
theorem c_isWord (hU : hw_U (hv_T kof own)) {f s m : Int} (hs0 : 0 ≤ s ∧ s ≤ 71) (hm : m ≤ 20) (hK : ∀ r, 0 ≤ r → r ≤ 1 → K (some (hw_I r)) ([z_used, z_broken, z_fed, z_textEnd, z_made, z_mready, z_modules, z_actions, z_target, z_variables, z_commands, z_updates, z_steps, z_waiting, z_nested, z_type, z_wantsOperand, z_variablesKnown, z_names, z_ownFrom, z_at, z_wrongAt, z_parties, z_states, z_choices, z_outcomes, z_sready, z_many], [z_fc, z_role, z_holds, z_fu, z_taken, z_fo, z_home, z_row, z_fout, z_offer, z_oc], [z_size, z_policies, z_found, z_told], [z_policy])) : hw_C pg_G pg_TT scr (hv_T kof own) (d + 5) 49 [hw_R 7 0, hw_I f, hw_I s, hw_I m] ([z_used, z_broken, z_fed, z_textEnd, z_made, z_mready, z_modules, z_actions, z_target, z_variables, z_commands, z_updates, z_steps, z_waiting, z_nested, z_type, z_wantsOperand, z_variablesKnown, z_names, z_ownFrom, z_at, z_wrongAt, z_parties, z_states, z_choices, z_outcomes, z_sready, z_many], [z_fc, z_role, z_holds, z_fu, z_taken, z_fo, z_home, z_row, z_fout, z_offer, z_oc], [z_size, z_policies, z_found, z_told], [z_policy]) K E := by
  refine hw_meth hU hv_DG ⟨rfl, rfl⟩ (fun w X hs hX hF => ?_)
  have hl1 : hw_sl pg_sb ((1 : Nat) : Int) = 71 := hs_l1
  have hl2 : hw_sl pg_sb ((2 : Nat) : Int) = 12 := hs_l2
  have hl3 : hw_sl pg_sb ((3 : Nat) : Int) = 19 := hs_l3
  have cuts : ∀ n : Nat, (∀ (i : Int), 0 ≤ i → (m - i).toNat < n → w (3, [some (hw_R 7 0), some (hw_I (f)), some (hw_I (s)), some (hw_I (m)), some (hw_I (i))], [], ([z_used, z_broken, z_fed, z_textEnd, z_made, z_mready, z_modules, z_actions, z_target, z_variables, z_commands, z_updates, z_steps, z_waiting, z_nested, z_type, z_wantsOperand, z_variablesKnown, z_names, z_ownFrom, z_at, z_wrongAt, z_parties, z_states, z_choices, z_outcomes, z_sready, z_many], [z_fc, z_role, z_holds, z_fu, z_taken, z_fo, z_home, z_row, z_fout, z_offer, z_oc], [z_size, z_policies, z_found, z_told], [z_policy]))) := by
    intro n
    induction n with
    | zero =>
      repeat' (first | refine And.intro ?_ ?_ | intro _)
      all_goals omega
    | succ n ih =>
      intros
      refine hs [] _ rfl ?_
      conv => whnf
      repeat' (first | refine hw_ex32 ⟨by omega, by omega⟩ ?_ | (intro h; exact absurd h (by decide)) | intro _ | refine And.intro ?_ ?_ | (refine hs [3] _ rfl ?_; conv => whnf) | apply ih | apply hK | (apply hX; apply c_octetAt hU) | (apply hX; apply s_length hU) | (apply hX; apply s_charAt hU))
      (all_goals clear ih); all_goals (first | exact Nat.lt_succ_self _ | omega)
  repeat' (first | refine hw_ex32 ⟨by omega, by omega⟩ ?_ | (intro h; exact absurd h (by decide)) | intro _ | refine And.intro ?_ ?_ | (refine hs [3] _ rfl ?_; conv => whnf) | apply (cuts _) | apply hK | (apply hX; apply c_octetAt hU) | (apply hX; apply s_length hU) | (apply hX; apply s_charAt hU))
  all_goals (first | exact Nat.lt_succ_self _ | omega)
theorem c_wordOrName (hU : hw_U (hv_T kof own)) {f m : Int} (hm : m ≤ 20) (hK : ∀ r, K (some (hw_I r)) ([z_used, z_broken, z_fed, z_textEnd, z_made, z_mready, z_modules, z_actions, z_target, z_variables, z_commands, z_updates, z_steps, z_waiting, z_nested, z_type, z_wantsOperand, z_variablesKnown, z_names, z_ownFrom, z_at, z_wrongAt, z_parties, z_states, z_choices, z_outcomes, z_sready, z_many], [z_fc, z_role, z_holds, z_fu, z_taken, z_fo, z_home, z_row, z_fout, z_offer, z_oc], [z_size, z_policies, z_found, z_told], [z_policy])) : hw_C pg_G pg_TT scr (hv_T kof own) (d + 6) 41 [hw_R 7 0, hw_I f, hw_I m] ([z_used, z_broken, z_fed, z_textEnd, z_made, z_mready, z_modules, z_actions, z_target, z_variables, z_commands, z_updates, z_steps, z_waiting, z_nested, z_type, z_wantsOperand, z_variablesKnown, z_names, z_ownFrom, z_at, z_wrongAt, z_parties, z_states, z_choices, z_outcomes, z_sready, z_many], [z_fc, z_role, z_holds, z_fu, z_taken, z_fo, z_home, z_row, z_fout, z_offer, z_oc], [z_size, z_policies, z_found, z_told], [z_policy]) K E := by
  refine hw_meth hU hv_DG ⟨rfl, rfl⟩ (fun w X hs hX hF => ?_)
  have hl1 : hw_sl pg_sb ((1 : Nat) : Int) = 71 := hs_l1
  have hl2 : hw_sl pg_sb ((2 : Nat) : Int) = 12 := hs_l2
  have hl3 : hw_sl pg_sb ((3 : Nat) : Int) = 19 := hs_l3
  have cuts : ∀ n : Nat, (∀ (k s i : Int), 0 ≤ s → s ≤ i → i ≤ 71 → (71 - i).toNat < n → w (8, [some (hw_R 7 0), some (hw_I (f)), some (hw_I (m)), some (hw_I (k)), some (hw_I (s)), some (hw_I (i))], [], ([z_used, z_broken, z_fed, z_textEnd, z_made, z_mready, z_modules, z_actions, z_target, z_variables, z_commands, z_updates, z_steps, z_waiting, z_nested, z_type, z_wantsOperand, z_variablesKnown, z_names, z_ownFrom, z_at, z_wrongAt, z_parties, z_states, z_choices, z_outcomes, z_sready, z_many], [z_fc, z_role, z_holds, z_fu, z_taken, z_fo, z_home, z_row, z_fout, z_offer, z_oc], [z_size, z_policies, z_found, z_told], [z_policy]))) := by
    intro n
    induction n with
    | zero =>
      repeat' (first | refine And.intro ?_ ?_ | intro _)
      all_goals omega
    | succ n ih =>
      intros
      refine hs [] _ rfl ?_
      conv => whnf
      repeat' (first | refine hw_ex32 ⟨by omega, by omega⟩ ?_ | (intro h; exact absurd h (by decide)) | intro _ | refine And.intro ?_ ?_ | (refine hs [8] _ rfl ?_; conv => whnf) | apply ih | apply hK | (apply hX; apply c_isWord hU) | (apply hX; apply s_length hU) | (apply hX; apply s_charAt hU))
      (all_goals clear ih); all_goals (first | exact Nat.lt_succ_self _ | omega)
  repeat' (first | refine hw_ex32 ⟨by omega, by omega⟩ ?_ | (intro h; exact absurd h (by decide)) | intro _ | refine And.intro ?_ ?_ | (refine hs [8] _ rfl ?_; conv => whnf) | apply (cuts _) | apply hK | (apply hX; apply c_isWord hU) | (apply hX; apply s_length hU) | (apply hX; apply s_charAt hU))
  all_goals (first | exact Nat.lt_succ_self _ | omega)
theorem c_scanName (hU : hw_U (hv_T kof own)) {i f : Int} (hi : 0 ≤ i ∧ i ≤ 1500) (hK : K none ([z_used, z_broken, z_fed, z_textEnd, z_made, z_mready, z_modules, z_actions, z_target, z_variables, z_commands, z_updates, z_steps, z_waiting, z_nested, z_type, z_wantsOperand, z_variablesKnown, z_names, z_ownFrom, z_at, z_wrongAt, z_parties, z_states, z_choices, z_outcomes, z_sready, z_many], [z_fc, z_role, z_holds, z_fu, z_taken, z_fo, z_home, z_row, z_fout, z_offer, z_oc], [z_size, z_policies, z_found, z_told], [z_policy])) : hw_C pg_G pg_TT scr (hv_T kof own) (d + 7) 39 [hw_R 7 0, hw_I i, hw_I f] ([z_used, z_broken, z_fed, z_textEnd, z_made, z_mready, z_modules, z_actions, z_target, z_variables, z_commands, z_updates, z_steps, z_waiting, z_nested, z_type, z_wantsOperand, z_variablesKnown, z_names, z_ownFrom, z_at, z_wrongAt, z_parties, z_states, z_choices, z_outcomes, z_sready, z_many], [z_fc, z_role, z_holds, z_fu, z_taken, z_fo, z_home, z_row, z_fout, z_offer, z_oc], [z_size, z_policies, z_found, z_told], [z_policy]) K E := by
  refine hw_meth hU hv_DG ⟨rfl, rfl⟩ (fun w X hs hX hF => ?_)
  have cuts : ∀ n : Nat, (∀ (m k : Int) (ulp0 : Option hw_V), 1 ≤ m → m ≤ 20 → 1 ≤ k → k ≤ 20 → (20 - k).toNat < n → w (5, [some (hw_R 7 0), some (hw_I (i)), some (hw_I (f)), some (hw_I (m)), some (hw_I (k)), ulp0], [], ([z_used, z_broken, z_fed, z_textEnd, z_made, z_mready, z_modules, z_actions, z_target, z_variables, z_commands, z_updates, z_steps, z_waiting, z_nested, z_type, z_wantsOperand, z_variablesKnown, z_names, z_ownFrom, z_at, z_wrongAt, z_parties, z_states, z_choices, z_outcomes, z_sready, z_many], [z_fc, z_role, z_holds, z_fu, z_taken, z_fo, z_home, z_row, z_fout, z_offer, z_oc], [z_size, z_policies, z_found, z_told], [z_policy]))) := by
    intro n
    induction n with
    | zero =>
      repeat' (first | refine And.intro ?_ ?_ | intro _)
      all_goals omega
    | succ n ih =>
      intros
      refine hF (L' := [some _, some _, some _, some _, some _, none]) (by repeat' (first | exact True.intro | refine And.intro rfl ?_)) ?_
      refine hs [] _ rfl ?_
      conv => whnf
      repeat' (first | refine hw_ex32 ⟨by omega, by omega⟩ ?_ | (intro h; exact absurd h (by decide)) | intro _ | refine And.intro ?_ ?_ | (refine hs [5] _ rfl ?_; conv => whnf) | apply ih | apply hK | (apply hX; apply c_octetAt hU) | (apply hX; apply c_isLetter hU) | (apply hX; apply c_isDigit hU) | (apply hX; apply c_wordOrName hU))
      (all_goals clear ih); all_goals (first | exact Nat.lt_succ_self _ | omega)
  repeat' (first | refine hw_ex32 ⟨by omega, by omega⟩ ?_ | (intro h; exact absurd h (by decide)) | intro _ | refine And.intro ?_ ?_ | (refine hs [5] _ rfl ?_; conv => whnf) | apply (cuts _) | apply hK | (apply hX; apply c_octetAt hU) | (apply hX; apply c_isLetter hU) | (apply hX; apply c_isDigit hU) | (apply hX; apply c_wordOrName hU))
  all_goals (first | exact Nat.lt_succ_self _ | omega)
theorem c_scanNumber (hU : hw_U (hv_T kof own)) {i f : Int} (hi : 0 ≤ i ∧ i ≤ 1500) (hf : 0 ≤ f ∧ f ≤ 8200) (hK : K none ([z_used, z_broken, z_fed, z_textEnd, z_made, z_mready, z_modules, z_actions, z_target, z_variables, z_commands, z_updates, z_steps, z_waiting, z_nested, z_type, z_wantsOperand, z_variablesKnown, z_names, z_ownFrom, z_at, z_wrongAt, z_parties, z_states, z_choices, z_outcomes, z_sready, z_many], [z_fc, z_role, z_holds, z_fu, z_taken, z_fo, z_home, z_row, z_fout, z_offer, z_oc], [z_size, z_policies, z_found, z_told], [z_policy])) : hw_C pg_G pg_TT scr (hv_T kof own) (d + 3) 50 [hw_R 7 0, hw_I i, hw_I f] ([z_used, z_broken, z_fed, z_textEnd, z_made, z_mready, z_modules, z_actions, z_target, z_variables, z_commands, z_updates, z_steps, z_waiting, z_nested, z_type, z_wantsOperand, z_variablesKnown, z_names, z_ownFrom, z_at, z_wrongAt, z_parties, z_states, z_choices, z_outcomes, z_sready, z_many], [z_fc, z_role, z_holds, z_fu, z_taken, z_fo, z_home, z_row, z_fout, z_offer, z_oc], [z_size, z_policies, z_found, z_told], [z_policy]) K E := by
  refine hw_meth hU hv_DG ⟨rfl, rfl⟩ (fun w X hs hX hF => ?_)
  have cuts : ∀ n : Nat, (∀ (wh fr m t k : Int), 0 ≤ k → wh ≤ 8200 → 0 ≤ wh → (3 - k).toNat < n → w (127, [some (hw_R 7 0), some (hw_I (i)), some (hw_I (f)), some (hw_I (wh)), some (hw_I (fr)), some (hw_I (m)), some (hw_I (t)), some (hw_I (k))], [], ([z_used, z_broken, z_fed, z_textEnd, z_made, z_mready, z_modules, z_actions, z_target, z_variables, z_commands, z_updates, z_steps, z_waiting, z_nested, z_type, z_wantsOperand, z_variablesKnown, z_names, z_ownFrom, z_at, z_wrongAt, z_parties, z_states, z_choices, z_outcomes, z_sready, z_many], [z_fc, z_role, z_holds, z_fu, z_taken, z_fo, z_home, z_row, z_fout, z_offer, z_oc], [z_size, z_policies, z_found, z_told], [z_policy]))) := by
    intro n
    induction n with
    | zero =>
      repeat' (first | refine And.intro ?_ ?_ | intro _)
      all_goals omega
    | succ n ih =>
      intros
      refine hs [] _ rfl ?_
      conv => whnf
      repeat' (first | refine hw_ex32 ⟨by omega, by omega⟩ ?_ | (intro h; exact absurd h (by decide)) | intro _ | refine And.intro ?_ ?_ | (refine hs [127] _ rfl ?_; conv => whnf) | apply ih | apply hK | (apply hX; apply c_digitsFrom hU) | (apply hX; apply c_octetAt hU) | (apply hX; apply c_isLetter hU) | (apply hX; apply c_decimal hU))
      (all_goals clear ih); all_goals (first | exact Nat.lt_succ_self _ | omega)
  repeat' (first | refine hw_ex32 ⟨by omega, by omega⟩ ?_ | (intro h; exact absurd h (by decide)) | intro _ | refine And.intro ?_ ?_ | (refine hs [127] _ rfl ?_; conv => whnf) | apply (cuts _) | apply hK | (apply hX; apply c_digitsFrom hU) | (apply hX; apply c_octetAt hU) | (apply hX; apply c_isLetter hU) | (apply hX; apply c_decimal hU))
  all_goals (first | exact Nat.lt_succ_self _ | omega)
theorem c_scanSign (hU : hw_U (hv_T kof own)) {i c x : Int} (hi : 0 ≤ i ∧ i ≤ 1500) (hK : K none ([z_used, z_broken, z_fed, z_textEnd, z_made, z_mready, z_modules, z_actions, z_target, z_variables, z_commands, z_updates, z_steps, z_waiting, z_nested, z_type, z_wantsOperand, z_variablesKnown, z_names, z_ownFrom, z_at, z_wrongAt, z_parties, z_states, z_choices, z_outcomes, z_sready, z_many], [z_fc, z_role, z_holds, z_fu, z_taken, z_fo, z_home, z_row, z_fout, z_offer, z_oc], [z_size, z_policies, z_found, z_told], [z_policy])) : hw_C pg_G pg_TT scr (hv_T kof own) (d + 5) 53 [hw_R 7 0, hw_I i, hw_I c, hw_I x] ([z_used, z_broken, z_fed, z_textEnd, z_made, z_mready, z_modules, z_actions, z_target, z_variables, z_commands, z_updates, z_steps, z_waiting, z_nested, z_type, z_wantsOperand, z_variablesKnown, z_names, z_ownFrom, z_at, z_wrongAt, z_parties, z_states, z_choices, z_outcomes, z_sready, z_many], [z_fc, z_role, z_holds, z_fu, z_taken, z_fo, z_home, z_row, z_fout, z_offer, z_oc], [z_size, z_policies, z_found, z_told], [z_policy]) K E := by
  refine hw_meth hU hv_DG ⟨rfl, rfl⟩ (fun w X hs hX hF => ?_)
  have hl1 : hw_sl pg_sb ((1 : Nat) : Int) = 71 := hs_l1
  have hl2 : hw_sl pg_sb ((2 : Nat) : Int) = 12 := hs_l2
  have hl3 : hw_sl pg_sb ((3 : Nat) : Int) = 19 := hs_l3
  have cuts : ∀ n : Nat, (∀ (k : Int), 0 ≤ k → k ≤ 13 → (13 - k).toNat < n → w (3, [some (hw_R 7 0), some (hw_I (i)), some (hw_I (c)), some (hw_I (x)), some (hw_I (k))], [], ([z_used, z_broken, z_fed, z_textEnd, z_made, z_mready, z_modules, z_actions, z_target, z_variables, z_commands, z_updates, z_steps, z_waiting, z_nested, z_type, z_wantsOperand, z_variablesKnown, z_names, z_ownFrom, z_at, z_wrongAt, z_parties, z_states, z_choices, z_outcomes, z_sready, z_many], [z_fc, z_role, z_holds, z_fu, z_taken, z_fo, z_home, z_row, z_fout, z_offer, z_oc], [z_size, z_policies, z_found, z_told], [z_policy]))) := by
    intro n
    induction n with
    | zero =>
      repeat' (first | refine And.intro ?_ ?_ | intro _)
      all_goals omega
    | succ n ih =>
      intros
      refine hs [] _ rfl ?_
      conv => whnf
      repeat' (first | refine hw_ex32 ⟨by omega, by omega⟩ ?_ | (intro h; exact absurd h (by decide)) | intro _ | refine And.intro ?_ ?_ | (refine hs [3] _ rfl ?_; conv => whnf) | apply ih | apply hK | (apply hX; apply s_length hU) | (apply hX; apply s_charAt hU) | (apply hX; apply s_ix hU))
      (all_goals clear ih); all_goals (first | exact Nat.lt_succ_self _ | omega)
  repeat' (first | refine hw_ex32 ⟨by omega, by omega⟩ ?_ | (intro h; exact absurd h (by decide)) | intro _ | refine And.intro ?_ ?_ | (refine hs [3] _ rfl ?_; conv => whnf) | apply (cuts _) | apply hK | (apply hX; apply s_length hU) | (apply hX; apply s_charAt hU) | (apply hX; apply s_ix hU))
  all_goals (first | exact Nat.lt_succ_self _ | omega)
theorem c_scanToken (hU : hw_U (hv_T kof own)) {i f : Int} (hi : 0 ≤ i ∧ i ≤ 1500) (hf : 0 ≤ f ∧ f ≤ 8200) (hK : K none ([z_used, z_broken, z_fed, z_textEnd, z_made, z_mready, z_modules, z_actions, z_target, z_variables, z_commands, z_updates, z_steps, z_waiting, z_nested, z_type, z_wantsOperand, z_variablesKnown, z_names, z_ownFrom, z_at, z_wrongAt, z_parties, z_states, z_choices, z_outcomes, z_sready, z_many], [z_fc, z_role, z_holds, z_fu, z_taken, z_fo, z_home, z_row, z_fout, z_offer, z_oc], [z_size, z_policies, z_found, z_told], [z_policy])) : hw_C pg_G pg_TT scr (hv_T kof own) (d + 8) 37 [hw_R 7 0, hw_I i, hw_I f] ([z_used, z_broken, z_fed, z_textEnd, z_made, z_mready, z_modules, z_actions, z_target, z_variables, z_commands, z_updates, z_steps, z_waiting, z_nested, z_type, z_wantsOperand, z_variablesKnown, z_names, z_ownFrom, z_at, z_wrongAt, z_parties, z_states, z_choices, z_outcomes, z_sready, z_many], [z_fc, z_role, z_holds, z_fu, z_taken, z_fo, z_home, z_row, z_fout, z_offer, z_oc], [z_size, z_policies, z_found, z_told], [z_policy]) K E := by
  refine hw_meth hU hv_DG ⟨rfl, rfl⟩ (fun w X hs hX hF => ?_)
  repeat' (first | refine hw_ex32 ⟨by omega, by omega⟩ ?_ | (intro h; exact absurd h (by decide)) | intro _ | refine And.intro ?_ ?_ | (refine hs [] _ rfl ?_; conv => whnf) | apply hK | (apply hX; apply c_octetAt hU) | (apply hX; apply c_isLetter hU) | (apply hX; apply c_isDigit hU) | (apply hX; apply c_scanName hU) | (apply hX; apply c_scanNumber hU) | (apply hX; apply c_scanSign hU))
  all_goals (first | exact Nat.lt_succ_self _ | omega)
theorem c_scan (hU : hw_U (hv_T kof own)) {m : Int} (hm : 0 ≤ m) (hK : ∀ t e, K none ([z_used, z_broken, z_fed, t, e, z_mready, z_modules, z_actions, z_target, z_variables, z_commands, z_updates, z_steps, z_waiting, z_nested, z_type, z_wantsOperand, z_variablesKnown, z_names, z_ownFrom, z_at, z_wrongAt, z_parties, z_states, z_choices, z_outcomes, z_sready, z_many], [z_fc, z_role, z_holds, z_fu, z_taken, z_fo, z_home, z_row, z_fout, z_offer, z_oc], [z_size, z_policies, z_found, z_told], [z_policy])) : hw_C pg_G pg_TT scr (hv_T kof own) (d + 9) 33 [hw_R 7 0, hw_I m] ([z_used, z_broken, z_fed, z_textEnd, z_made, z_mready, z_modules, z_actions, z_target, z_variables, z_commands, z_updates, z_steps, z_waiting, z_nested, z_type, z_wantsOperand, z_variablesKnown, z_names, z_ownFrom, z_at, z_wrongAt, z_parties, z_states, z_choices, z_outcomes, z_sready, z_many], [z_fc, z_role, z_holds, z_fu, z_taken, z_fo, z_home, z_row, z_fout, z_offer, z_oc], [z_size, z_policies, z_found, z_told], [z_policy]) K E := by
  refine hw_meth hU hv_DG ⟨rfl, rfl⟩ (fun w X hs hX hF => ?_)
  have cuts : ∀ n : Nat, (∀ (t e f b i : Int), 0 ≤ f → f ≤ 30000 → (b = 0 ∨ b = 1) → 0 ≤ i → i ≤ 1501 → (1501 - i).toNat < n → w (25, [some (hw_R 7 0), some (hw_I (m)), some (hw_I (f)), some (hw_I (b)), some (hw_I (i))], [], ([z_used, z_broken, z_fed, t, e, z_mready, z_modules, z_actions, z_target, z_variables, z_commands, z_updates, z_steps, z_waiting, z_nested, z_type, z_wantsOperand, z_variablesKnown, z_names, z_ownFrom, z_at, z_wrongAt, z_parties, z_states, z_choices, z_outcomes, z_sready, z_many], [z_fc, z_role, z_holds, z_fu, z_taken, z_fo, z_home, z_row, z_fout, z_offer, z_oc], [z_size, z_policies, z_found, z_told], [z_policy]))) := by
    intro n
    induction n with
    | zero =>
      repeat' (first | refine And.intro ?_ ?_ | intro _)
      all_goals omega
    | succ n ih =>
      intros
      refine hs [] _ rfl ?_
      conv => whnf
      repeat' (first | refine hw_ex32 ⟨by omega, by omega⟩ ?_ | (intro h; exact absurd h (by decide)) | intro _ | refine And.intro ?_ ?_ | (refine hs [25] _ rfl ?_; conv => whnf) | apply ih | apply hK | (apply hX; apply c_min hU) | (apply hX; apply c_afterBlanks hU) | (apply hX; apply c_scanToken hU))
      (all_goals clear ih); all_goals (first | exact Nat.lt_succ_self _ | omega)
  repeat' (first | refine hw_ex32 ⟨by omega, by omega⟩ ?_ | (intro h; exact absurd h (by decide)) | intro _ | refine And.intro ?_ ?_ | (refine hs [25] _ rfl ?_; conv => whnf) | apply (cuts _) | apply hK | (apply hX; apply c_min hU) | (apply hX; apply c_afterBlanks hU) | (apply hX; apply c_scanToken hU))
  all_goals (first | exact Nat.lt_succ_self _ | omega)
theorem c_same (hU : hw_U (hv_T kof own)) {i j : Int} (hK : ∀ r, 0 ≤ r → r ≤ 1 → K (some (hw_I r)) ([z_used, z_broken, z_fed, z_textEnd, z_made, z_mready, z_modules, z_actions, z_target, z_variables, z_commands, z_updates, z_steps, z_waiting, z_nested, z_type, z_wantsOperand, z_variablesKnown, z_names, z_ownFrom, z_at, z_wrongAt, z_parties, z_states, z_choices, z_outcomes, z_sready, z_many], [z_fc, z_role, z_holds, z_fu, z_taken, z_fo, z_home, z_row, z_fout, z_offer, z_oc], [z_size, z_policies, z_found, z_told], [z_policy])) : hw_C pg_G pg_TT scr (hv_T kof own) (d + 1) 66 [hw_R 7 0, hw_I i, hw_I j] ([z_used, z_broken, z_fed, z_textEnd, z_made, z_mready, z_modules, z_actions, z_target, z_variables, z_commands, z_updates, z_steps, z_waiting, z_nested, z_type, z_wantsOperand, z_variablesKnown, z_names, z_ownFrom, z_at, z_wrongAt, z_parties, z_states, z_choices, z_outcomes, z_sready, z_many], [z_fc, z_role, z_holds, z_fu, z_taken, z_fo, z_home, z_row, z_fout, z_offer, z_oc], [z_size, z_policies, z_found, z_told], [z_policy]) K E := by
  refine hw_meth hU hv_DG ⟨rfl, rfl⟩ (fun w X hs hX hF => ?_)
  have cuts : ∀ n : Nat, (∀ (k : Int) (ulp0 ulp1 : Option hw_V), 0 ≤ k → k ≤ 16401 → 0 ≤ i → i ≤ 1500 → 0 ≤ j → j ≤ 1500 → (16401 - k).toNat < n → w (43, [some (hw_R 7 0), some (hw_I (i)), some (hw_I (j)), some (hw_I (k)), ulp0, ulp1], [], ([z_used, z_broken, z_fed, z_textEnd, z_made, z_mready, z_modules, z_actions, z_target, z_variables, z_commands, z_updates, z_steps, z_waiting, z_nested, z_type, z_wantsOperand, z_variablesKnown, z_names, z_ownFrom, z_at, z_wrongAt, z_parties, z_states, z_choices, z_outcomes, z_sready, z_many], [z_fc, z_role, z_holds, z_fu, z_taken, z_fo, z_home, z_row, z_fout, z_offer, z_oc], [z_size, z_policies, z_found, z_told], [z_policy]))) := by
    intro n
    induction n with
    | zero =>
      repeat' (first | refine And.intro ?_ ?_ | intro _)
      all_goals omega
    | succ n ih =>
      intros
      refine hF (L' := [some _, some _, some _, some _, none, none]) (by repeat' (first | exact True.intro | refine And.intro rfl ?_)) ?_
      refine hs [] _ rfl ?_
      conv => whnf
      repeat' (first | refine hw_ex32 ⟨by omega, by omega⟩ ?_ | (intro h; exact absurd h (by decide)) | intro _ | refine And.intro ?_ ?_ | (refine hs [43] _ rfl ?_; conv => whnf) | apply ih | apply hK)
      (all_goals clear ih); all_goals (first | exact Nat.lt_succ_self _ | omega)
  repeat' (first | refine hw_ex32 ⟨by omega, by omega⟩ ?_ | (intro h; exact absurd h (by decide)) | intro _ | refine And.intro ?_ ?_ | (refine hs [43] _ rfl ?_; conv => whnf) | apply (cuts _) | apply hK)
  all_goals (first | exact Nat.lt_succ_self _ | omega)
theorem c_emit (hU : hw_U (hv_T kof own)) {x y : Int} (hK : ∀ r u, K (some (hw_I r)) ([u, z_broken, z_fed, z_textEnd, z_made, z_mready, z_modules, z_actions, z_target, z_variables, z_commands, z_updates, z_steps, z_waiting, z_nested, z_type, z_wantsOperand, z_variablesKnown, z_names, z_ownFrom, z_at, z_wrongAt, z_parties, z_states, z_choices, z_outcomes, z_sready, z_many], [z_fc, z_role, z_holds, z_fu, z_taken, z_fo, z_home, z_row, z_fout, z_offer, z_oc], [z_size, z_policies, z_found, z_told], [z_policy])) : hw_C pg_G pg_TT scr (hv_T kof own) (d + 1) 71 [hw_R 3 0, hw_I x, hw_I y] ([z_used, z_broken, z_fed, z_textEnd, z_made, z_mready, z_modules, z_actions, z_target, z_variables, z_commands, z_updates, z_steps, z_waiting, z_nested, z_type, z_wantsOperand, z_variablesKnown, z_names, z_ownFrom, z_at, z_wrongAt, z_parties, z_states, z_choices, z_outcomes, z_sready, z_many], [z_fc, z_role, z_holds, z_fu, z_taken, z_fo, z_home, z_row, z_fout, z_offer, z_oc], [z_size, z_policies, z_found, z_told], [z_policy]) K E := by
  refine hw_meth hU hv_DG ⟨rfl, rfl⟩ (fun w X hs hX hF => ?_)
  repeat' (first | refine hw_ex32 ⟨by omega, by omega⟩ ?_ | (intro h; exact absurd h (by decide)) | intro _ | refine And.intro ?_ ?_ | (refine hs [] _ rfl ?_; conv => whnf) | apply hK)
  all_goals (first | exact Nat.lt_succ_self _ | omega)
theorem c_aim (hU : hw_U (hv_T kof own)) {x : Int} (hK : K none ([z_used, z_broken, z_fed, z_textEnd, z_made, z_mready, z_modules, z_actions, z_target, z_variables, z_commands, z_updates, z_steps, z_waiting, z_nested, z_type, z_wantsOperand, z_variablesKnown, z_names, z_ownFrom, z_at, z_wrongAt, z_parties, z_states, z_choices, z_outcomes, z_sready, z_many], [z_fc, z_role, z_holds, z_fu, z_taken, z_fo, z_home, z_row, z_fout, z_offer, z_oc], [z_size, z_policies, z_found, z_told], [z_policy])) : hw_C pg_G pg_TT scr (hv_T kof own) (d + 1) 78 [hw_R 3 0, hw_I x] ([z_used, z_broken, z_fed, z_textEnd, z_made, z_mready, z_modules, z_actions, z_target, z_variables, z_commands, z_updates, z_steps, z_waiting, z_nested, z_type, z_wantsOperand, z_variablesKnown, z_names, z_ownFrom, z_at, z_wrongAt, z_parties, z_states, z_choices, z_outcomes, z_sready, z_many], [z_fc, z_role, z_holds, z_fu, z_taken, z_fo, z_home, z_row, z_fout, z_offer, z_oc], [z_size, z_policies, z_found, z_told], [z_policy]) K E := by
  refine hw_meth hU hv_DG ⟨rfl, rfl⟩ (fun w X hs hX hF => ?_)
  repeat' (first | refine hw_ex32 ⟨by omega, by omega⟩ ?_ | (intro h; exact absurd h (by decide)) | intro _ | refine And.intro ?_ ?_ | (refine hs [] _ rfl ?_; conv => whnf) | apply hK)
  all_goals (first | exact Nat.lt_succ_self _ | omega)
theorem c_join (hU : hw_U (hv_T kof own)) {x y v : Int} (hK : ∀ r b, K (some (hw_I r)) ([z_used, b, z_fed, z_textEnd, z_made, z_mready, z_modules, z_actions, z_target, z_variables, z_commands, z_updates, z_steps, z_waiting, z_nested, z_type, z_wantsOperand, z_variablesKnown, z_names, z_ownFrom, z_at, z_wrongAt, z_parties, z_states, z_choices, z_outcomes, z_sready, z_many], [z_fc, z_role, z_holds, z_fu, z_taken, z_fo, z_home, z_row, z_fout, z_offer, z_oc], [z_size, z_policies, z_found, z_told], [z_policy])) : hw_C pg_G pg_TT scr (hv_T kof own) (d + 2) 82 [hw_R 3 0, hw_I x, hw_I y, hw_I v] ([z_used, z_broken, z_fed, z_textEnd, z_made, z_mready, z_modules, z_actions, z_target, z_variables, z_commands, z_updates, z_steps, z_waiting, z_nested, z_type, z_wantsOperand, z_variablesKnown, z_names, z_ownFrom, z_at, z_wrongAt, z_parties, z_states, z_choices, z_outcomes, z_sready, z_many], [z_fc, z_role, z_holds, z_fu, z_taken, z_fo, z_home, z_row, z_fout, z_offer, z_oc], [z_size, z_policies, z_found, z_told], [z_policy]) K E := by
  refine hw_meth hU hv_DG ⟨rfl, rfl⟩ (fun w X hs hX hF => ?_)
  repeat' (first | refine hw_ex32 ⟨by omega, by omega⟩ ?_ | (intro h; exact absurd h (by decide)) | intro _ | refine And.intro ?_ ?_ | (refine hs [] _ rfl ?_; conv => whnf) | apply hK | (apply hX; apply c_min hU) | (apply hX; apply c_max hU) | (apply hX; apply c_floorMod hU))
  all_goals (first | exact Nat.lt_succ_self _ | omega)
theorem c_run_low (hU : hw_U (hv_T kof own)) {f m : Int} (hK : ∀ r b, K (some (hw_I r)) ([z_used, b, z_fed, z_textEnd, z_made, z_mready, z_modules, z_actions, z_target, z_variables, z_commands, z_updates, z_steps, z_waiting, z_nested, z_type, z_wantsOperand, z_variablesKnown, z_names, z_ownFrom, z_at, z_wrongAt, z_parties, z_states, z_choices, z_outcomes, z_sready, z_many], [z_fc, z_role, z_holds, z_fu, z_taken, z_fo, z_home, z_row, z_fout, z_offer, z_oc], [z_size, z_policies, z_found, z_told], [z_policy])) : hw_C pg_G pg_TT scr (hv_T kof own) (d + 3) 81 [hw_R 3 0, hw_I f, hw_R 15 0, hw_I m] ([z_used, z_broken, z_fed, z_textEnd, z_made, z_mready, z_modules, z_actions, z_target, z_variables, z_commands, z_updates, z_steps, z_waiting, z_nested, z_type, z_wantsOperand, z_variablesKnown, z_names, z_ownFrom, z_at, z_wrongAt, z_parties, z_states, z_choices, z_outcomes, z_sready, z_many], [z_fc, z_role, z_holds, z_fu, z_taken, z_fo, z_home, z_row, z_fout, z_offer, z_oc], [z_size, z_policies, z_found, z_told], [z_policy]) K E := by
  refine hw_meth hU hv_DG ⟨rfl, rfl⟩ (fun w X hs hX hF => ?_)
  have cuts : ∀ n : Nat, (∀ (b t k i : Int) (ul00 ul01 ul02 ul03 : Option hw_V), 0 ≤ t → t ≤ 247 → 0 ≤ i → i ≤ 1501 → (10 * (1501 - i) + 9).toNat < n → w (14, [some (hw_R 3 0), some (hw_I (f)), some (hw_R 15 0), some (hw_I (m)), some (hw_I (t)), some (hw_I (k)), some (hw_I (i)), ul00, ul01, ul02, ul03], [], ([z_used, b, z_fed, z_textEnd, z_made, z_mready, z_modules, z_actions, z_target, z_variables, z_commands, z_updates, z_steps, z_waiting, z_nested, z_type, z_wantsOperand, z_variablesKnown, z_names, z_ownFrom, z_at, z_wrongAt, z_parties, z_states, z_choices, z_outcomes, z_sready, z_many], [z_fc, z_role, z_holds, z_fu, z_taken, z_fo, z_home, z_row, z_fout, z_offer, z_oc], [z_size, z_policies, z_found, z_told], [z_policy]))) ∧ (∀ (b t k i c o : Int) (ul10 ul11 : Option hw_V), 1 ≤ t → t ≤ 246 → 0 ≤ i → i ≤ 1500 → (10 * (1501 - i) + 7).toNat < n → w (288, [some (hw_R 3 0), some (hw_I (f)), some (hw_R 15 0), some (hw_I (m)), some (hw_I (t)), some (hw_I (k)), some (hw_I (i)), some (hw_I (c)), some (hw_I (o)), ul10, ul11], [], ([z_used, b, z_fed, z_textEnd, z_made, z_mready, z_modules, z_actions, z_target, z_variables, z_commands, z_updates, z_steps, z_waiting, z_nested, z_type, z_wantsOperand, z_variablesKnown, z_names, z_ownFrom, z_at, z_wrongAt, z_parties, z_states, z_choices, z_outcomes, z_sready, z_many], [z_fc, z_role, z_holds, z_fu, z_taken, z_fo, z_home, z_row, z_fout, z_offer, z_oc], [z_size, z_policies, z_found, z_told], [z_policy]))) ∧ (∀ (b t k i c o j : Int) (ul20 : Option hw_V), 1 ≤ t → t ≤ 246 → 0 ≤ i → i ≤ 1500 → 0 ≤ j → j ≤ 1 → (10 * (1501 - i) + 5).toNat < n → w (334, [some (hw_R 3 0), some (hw_I (f)), some (hw_R 15 0), some (hw_I (m)), some (hw_I (t)), some (hw_I (k)), some (hw_I (i)), some (hw_I (c)), some (hw_I (o)), ul20, some (hw_I (j))], [], ([z_used, b, z_fed, z_textEnd, z_made, z_mready, z_modules, z_actions, z_target, z_variables, z_commands, z_updates, z_steps, z_waiting, z_nested, z_type, z_wantsOperand, z_variablesKnown, z_names, z_ownFrom, z_at, z_wrongAt, z_parties, z_states, z_choices, z_outcomes, z_sready, z_many], [z_fc, z_role, z_holds, z_fu, z_taken, z_fo, z_home, z_row, z_fout, z_offer, z_oc], [z_size, z_policies, z_found, z_told], [z_policy]))) ∧ (∀ (b t k i c o j : Int) (ul30 : Option hw_V), 1 ≤ t → t ≤ 246 → 0 ≤ i → i ≤ 1500 → 0 ≤ j → j ≤ 1 → (10 * (1501 - i) + 4).toNat < n → w (357, [some (hw_R 3 0), some (hw_I (f)), some (hw_R 15 0), some (hw_I (m)), some (hw_I (t)), some (hw_I (k)), some (hw_I (i)), some (hw_I (c)), some (hw_I (o)), ul30, some (hw_I (j))], [], ([z_used, b, z_fed, z_textEnd, z_made, z_mready, z_modules, z_actions, z_target, z_variables, z_commands, z_updates, z_steps, z_waiting, z_nested, z_type, z_wantsOperand, z_variablesKnown, z_names, z_ownFrom, z_at, z_wrongAt, z_parties, z_states, z_choices, z_outcomes, z_sready, z_many], [z_fc, z_role, z_holds, z_fu, z_taken, z_fo, z_home, z_row, z_fout, z_offer, z_oc], [z_size, z_policies, z_found, z_told], [z_policy]))) ∧ (∀ (b t k i c o : Int) (ul40 ul41 : Option hw_V), 0 ≤ t → t ≤ 247 → 0 ≤ i → i ≤ 1500 → (10 * (1501 - i) + 1).toNat < n → w (407, [some (hw_R 3 0), some (hw_I (f)), some (hw_R 15 0), some (hw_I (m)), some (hw_I (t)), some (hw_I (k)), some (hw_I (i)), some (hw_I (c)), some (hw_I (o)), ul40, ul41], [], ([z_used, b, z_fed, z_textEnd, z_made, z_mready, z_modules, z_actions, z_target, z_variables, z_commands, z_updates, z_steps, z_waiting, z_nested, z_type, z_wantsOperand, z_variablesKnown, z_names, z_ownFrom, z_at, z_wrongAt, z_parties, z_states, z_choices, z_outcomes, z_sready, z_many], [z_fc, z_role, z_holds, z_fu, z_taken, z_fo, z_home, z_row, z_fout, z_offer, z_oc], [z_size, z_policies, z_found, z_told], [z_policy]))) ∧ (∀ (b t k i : Int) (ul50 ul51 ul52 ul53 : Option hw_V), 0 ≤ t → t ≤ 247 → 0 ≤ i → i ≤ 1501 → ((0 : Int)).toNat < n → w (413, [some (hw_R 3 0), some (hw_I (f)), some (hw_R 15 0), some (hw_I (m)), some (hw_I (t)), some (hw_I (k)), some (hw_I (i)), ul50, ul51, ul52, ul53], [], ([z_used, b, z_fed, z_textEnd, z_made, z_mready, z_modules, z_actions, z_target, z_variables, z_commands, z_updates, z_steps, z_waiting, z_nested, z_type, z_wantsOperand, z_variablesKnown, z_names, z_ownFrom, z_at, z_wrongAt, z_parties, z_states, z_choices, z_outcomes, z_sready, z_many], [z_fc, z_role, z_holds, z_fu, z_taken, z_fo, z_home, z_row, z_fout, z_offer, z_oc], [z_size, z_policies, z_found, z_told], [z_policy]))) := by
    intro n
    induction n with
    | zero =>
      repeat' (first | refine And.intro ?_ ?_ | intro _)
      all_goals omega
    | succ n ih =>
      obtain ⟨ih0, ih1, ih2, ih3, ih4, ih5⟩ := ih
      refine ⟨?_, ?_, ?_, ?_, ?_, ?_⟩
      · intros
        refine hF (L' := [some _, some _, some _, some _, some _, some _, some _, none, none, none, none]) (by repeat' (first | exact True.intro | refine And.intro rfl ?_)) ?_
        refine hs [] _ rfl ?_
        conv => whnf
        repeat' (first | refine hw_ex32 ⟨by omega, by omega⟩ ?_ | (intro h; exact absurd h (by decide)) | intro _ | refine And.intro ?_ ?_ | (refine hs [14, 288, 334, 357, 407, 413] _ rfl ?_; conv => whnf) | apply ih0 | apply ih1 | apply ih2 | apply ih3 | apply ih4 | apply ih5 | apply hK | (apply hX; apply c_join hU))
        (all_goals clear ih0 ih1 ih2 ih3 ih4 ih5); all_goals (first | exact Nat.lt_succ_self _ | omega)
      · intros
        refine hF (L' := [some _, some _, some _, some _, some _, some _, some _, some _, some _, none, none]) (by repeat' (first | exact True.intro | refine And.intro rfl ?_)) ?_
        refine hs [] _ rfl ?_
        conv => whnf
        repeat' (first | refine hw_ex32 ⟨by omega, by omega⟩ ?_ | (intro h; exact absurd h (by decide)) | intro _ | refine And.intro ?_ ?_ | (refine hs [14, 288, 334, 357, 407, 413] _ rfl ?_; conv => whnf) | apply ih0 | apply ih1 | apply ih2 | apply ih3 | apply ih4 | apply ih5 | apply hK | (apply hX; apply c_join hU))
        (all_goals clear ih0 ih1 ih2 ih3 ih4 ih5); all_goals (first | exact Nat.lt_succ_self _ | omega)
      · intros
        refine hF (L' := [some _, some _, some _, some _, some _, some _, some _, some _, some _, none, some _]) (by repeat' (first | exact True.intro | refine And.intro rfl ?_)) ?_
        refine hs [] _ rfl ?_
        conv => whnf
        repeat' (first | refine hw_ex32 ⟨by omega, by omega⟩ ?_ | (intro h; exact absurd h (by decide)) | intro _ | refine And.intro ?_ ?_ | (refine hs [14, 288, 334, 357, 407, 413] _ rfl ?_; conv => whnf) | apply ih0 | apply ih1 | apply ih2 | apply ih3 | apply ih4 | apply ih5 | apply hK | (apply hX; apply c_join hU))
        (all_goals clear ih0 ih1 ih2 ih3 ih4 ih5); all_goals (first | exact Nat.lt_succ_self _ | omega)
      · intros
        refine hF (L' := [some _, some _, some _, some _, some _, some _, some _, some _, some _, none, some _]) (by repeat' (first | exact True.intro | refine And.intro rfl ?_)) ?_
        refine hs [] _ rfl ?_
        conv => whnf
        repeat' (first | refine hw_ex32 ⟨by omega, by omega⟩ ?_ | (intro h; exact absurd h (by decide)) | intro _ | refine And.intro ?_ ?_ | (refine hs [14, 288, 334, 357, 407, 413] _ rfl ?_; conv => whnf) | apply ih0 | apply ih1 | apply ih2 | apply ih3 | apply ih4 | apply ih5 | apply hK | (apply hX; apply c_join hU))
        (all_goals clear ih0 ih1 ih2 ih3 ih4 ih5); all_goals (first | exact Nat.lt_succ_self _ | omega)
      · intros
        refine hF (L' := [some _, some _, some _, some _, some _, some _, some _, some _, some _, none, none]) (by repeat' (first | exact True.intro | refine And.intro rfl ?_)) ?_
        refine hs [] _ rfl ?_
        conv => whnf
        repeat' (first | refine hw_ex32 ⟨by omega, by omega⟩ ?_ | (intro h; exact absurd h (by decide)) | intro _ | refine And.intro ?_ ?_ | (refine hs [14, 288, 334, 357, 407, 413] _ rfl ?_; conv => whnf) | apply ih0 | apply ih1 | apply ih2 | apply ih3 | apply ih4 | apply ih5 | apply hK | (apply hX; apply c_join hU))
        (all_goals clear ih0 ih1 ih2 ih3 ih4 ih5); all_goals (first | exact Nat.lt_succ_self _ | omega)
      · intros
        refine hF (L' := [some _, some _, some _, some _, some _, some _, some _, none, none, none, none]) (by repeat' (first | exact True.intro | refine And.intro rfl ?_)) ?_
        refine hs [] _ rfl ?_
        conv => whnf
        repeat' (first | refine hw_ex32 ⟨by omega, by omega⟩ ?_ | (intro h; exact absurd h (by decide)) | intro _ | refine And.intro ?_ ?_ | (refine hs [14, 288, 334, 357, 407, 413] _ rfl ?_; conv => whnf) | apply ih0 | apply ih1 | apply ih2 | apply ih3 | apply ih4 | apply ih5 | apply hK | (apply hX; apply c_join hU))
        (all_goals clear ih0 ih1 ih2 ih3 ih4 ih5); all_goals (first | exact Nat.lt_succ_self _ | omega)
  repeat' (first | refine hw_ex32 ⟨by omega, by omega⟩ ?_ | (intro h; exact absurd h (by decide)) | intro _ | refine And.intro ?_ ?_ | (refine hs [14, 288, 334, 357, 407, 413] _ rfl ?_; conv => whnf) | apply (cuts _).1 | apply (cuts _).2.1 | apply (cuts _).2.2.1 | apply (cuts _).2.2.2.1 | apply (cuts _).2.2.2.2.1 | apply (cuts _).2.2.2.2.2 | apply hK | (apply hX; apply c_join hU))
  all_goals (first | exact Nat.lt_succ_self _ | omega)
theorem c_run_rows (hU : hw_U (hv_T kof own)) {f m : Int} (hK : ∀ r b, K (some (hw_I r)) ([z_used, b, z_fed, z_textEnd, z_made, z_mready, z_modules, z_actions, z_target, z_variables, z_commands, z_updates, z_steps, z_waiting, z_nested, z_type, z_wantsOperand, z_variablesKnown, z_names, z_ownFrom, z_at, z_wrongAt, z_parties, z_states, z_choices, z_outcomes, z_sready, z_many], [z_fc, z_role, z_holds, z_fu, z_taken, z_fo, z_home, z_row, z_fout, z_offer, z_oc], [z_size, z_policies, z_found, z_told], [z_policy])) : hw_C pg_G pg_TT scr (hv_T kof own) (d + 3) 81 [hw_R 3 0, hw_I f, hw_R 38 0, hw_I m] ([z_used, z_broken, z_fed, z_textEnd, z_made, z_mready, z_modules, z_actions, z_target, z_variables, z_commands, z_updates, z_steps, z_waiting, z_nested, z_type, z_wantsOperand, z_variablesKnown, z_names, z_ownFrom, z_at, z_wrongAt, z_parties, z_states, z_choices, z_outcomes, z_sready, z_many], [z_fc, z_role, z_holds, z_fu, z_taken, z_fo, z_home, z_row, z_fout, z_offer, z_oc], [z_size, z_policies, z_found, z_told], [z_policy]) K E := by
  refine hw_meth hU hv_DG ⟨rfl, rfl⟩ (fun w X hs hX hF => ?_)
  have cuts : ∀ n : Nat, (∀ (b t k i : Int) (ul00 ul01 ul02 ul03 : Option hw_V), 0 ≤ t → t ≤ 247 → 0 ≤ i → i ≤ 1501 → (10 * (1501 - i) + 9).toNat < n → w (14, [some (hw_R 3 0), some (hw_I (f)), some (hw_R 38 0), some (hw_I (m)), some (hw_I (t)), some (hw_I (k)), some (hw_I (i)), ul00, ul01, ul02, ul03], [], ([z_used, b, z_fed, z_textEnd, z_made, z_mready, z_modules, z_actions, z_target, z_variables, z_commands, z_updates, z_steps, z_waiting, z_nested, z_type, z_wantsOperand, z_variablesKnown, z_names, z_ownFrom, z_at, z_wrongAt, z_parties, z_states, z_choices, z_outcomes, z_sready, z_many], [z_fc, z_role, z_holds, z_fu, z_taken, z_fo, z_home, z_row, z_fout, z_offer, z_oc], [z_size, z_policies, z_found, z_told], [z_policy]))) ∧ (∀ (b t k i c o : Int) (ul10 ul11 : Option hw_V), 1 ≤ t → t ≤ 246 → 0 ≤ i → i ≤ 1500 → (10 * (1501 - i) + 7).toNat < n → w (288, [some (hw_R 3 0), some (hw_I (f)), some (hw_R 38 0), some (hw_I (m)), some (hw_I (t)), some (hw_I (k)), some (hw_I (i)), some (hw_I (c)), some (hw_I (o)), ul10, ul11], [], ([z_used, b, z_fed, z_textEnd, z_made, z_mready, z_modules, z_actions, z_target, z_variables, z_commands, z_updates, z_steps, z_waiting, z_nested, z_type, z_wantsOperand, z_variablesKnown, z_names, z_ownFrom, z_at, z_wrongAt, z_parties, z_states, z_choices, z_outcomes, z_sready, z_many], [z_fc, z_role, z_holds, z_fu, z_taken, z_fo, z_home, z_row, z_fout, z_offer, z_oc], [z_size, z_policies, z_found, z_told], [z_policy]))) ∧ (∀ (b t k i c o j : Int) (ul20 : Option hw_V), 1 ≤ t → t ≤ 246 → 0 ≤ i → i ≤ 1500 → 0 ≤ j → j ≤ 1 → (10 * (1501 - i) + 5).toNat < n → w (334, [some (hw_R 3 0), some (hw_I (f)), some (hw_R 38 0), some (hw_I (m)), some (hw_I (t)), some (hw_I (k)), some (hw_I (i)), some (hw_I (c)), some (hw_I (o)), ul20, some (hw_I (j))], [], ([z_used, b, z_fed, z_textEnd, z_made, z_mready, z_modules, z_actions, z_target, z_variables, z_commands, z_updates, z_steps, z_waiting, z_nested, z_type, z_wantsOperand, z_variablesKnown, z_names, z_ownFrom, z_at, z_wrongAt, z_parties, z_states, z_choices, z_outcomes, z_sready, z_many], [z_fc, z_role, z_holds, z_fu, z_taken, z_fo, z_home, z_row, z_fout, z_offer, z_oc], [z_size, z_policies, z_found, z_told], [z_policy]))) ∧ (∀ (b t k i c o j : Int) (ul30 : Option hw_V), 1 ≤ t → t ≤ 246 → 0 ≤ i → i ≤ 1500 → 0 ≤ j → j ≤ 1 → (10 * (1501 - i) + 4).toNat < n → w (357, [some (hw_R 3 0), some (hw_I (f)), some (hw_R 38 0), some (hw_I (m)), some (hw_I (t)), some (hw_I (k)), some (hw_I (i)), some (hw_I (c)), some (hw_I (o)), ul30, some (hw_I (j))], [], ([z_used, b, z_fed, z_textEnd, z_made, z_mready, z_modules, z_actions, z_target, z_variables, z_commands, z_updates, z_steps, z_waiting, z_nested, z_type, z_wantsOperand, z_variablesKnown, z_names, z_ownFrom, z_at, z_wrongAt, z_parties, z_states, z_choices, z_outcomes, z_sready, z_many], [z_fc, z_role, z_holds, z_fu, z_taken, z_fo, z_home, z_row, z_fout, z_offer, z_oc], [z_size, z_policies, z_found, z_told], [z_policy]))) ∧ (∀ (b t k i c o : Int) (ul40 ul41 : Option hw_V), 0 ≤ t → t ≤ 247 → 0 ≤ i → i ≤ 1500 → (10 * (1501 - i) + 1).toNat < n → w (407, [some (hw_R 3 0), some (hw_I (f)), some (hw_R 38 0), some (hw_I (m)), some (hw_I (t)), some (hw_I (k)), some (hw_I (i)), some (hw_I (c)), some (hw_I (o)), ul40, ul41], [], ([z_used, b, z_fed, z_textEnd, z_made, z_mready, z_modules, z_actions, z_target, z_variables, z_commands, z_updates, z_steps, z_waiting, z_nested, z_type, z_wantsOperand, z_variablesKnown, z_names, z_ownFrom, z_at, z_wrongAt, z_parties, z_states, z_choices, z_outcomes, z_sready, z_many], [z_fc, z_role, z_holds, z_fu, z_taken, z_fo, z_home, z_row, z_fout, z_offer, z_oc], [z_size, z_policies, z_found, z_told], [z_policy]))) ∧ (∀ (b t k i : Int) (ul50 ul51 ul52 ul53 : Option hw_V), 0 ≤ t → t ≤ 247 → 0 ≤ i → i ≤ 1501 → ((0 : Int)).toNat < n → w (413, [some (hw_R 3 0), some (hw_I (f)), some (hw_R 38 0), some (hw_I (m)), some (hw_I (t)), some (hw_I (k)), some (hw_I (i)), ul50, ul51, ul52, ul53], [], ([z_used, b, z_fed, z_textEnd, z_made, z_mready, z_modules, z_actions, z_target, z_variables, z_commands, z_updates, z_steps, z_waiting, z_nested, z_type, z_wantsOperand, z_variablesKnown, z_names, z_ownFrom, z_at, z_wrongAt, z_parties, z_states, z_choices, z_outcomes, z_sready, z_many], [z_fc, z_role, z_holds, z_fu, z_taken, z_fo, z_home, z_row, z_fout, z_offer, z_oc], [z_size, z_policies, z_found, z_told], [z_policy]))) := by
    intro n
    induction n with
    | zero =>
      repeat' (first | refine And.intro ?_ ?_ | intro _)
      all_goals omega
    | succ n ih =>
      obtain ⟨ih0, ih1, ih2, ih3, ih4, ih5⟩ := ih
      refine ⟨?_, ?_, ?_, ?_, ?_, ?_⟩
      · intros
        refine hF (L' := [some _, some _, some _, some _, some _, some _, some _, none, none, none, none]) (by repeat' (first | exact True.intro | refine And.intro rfl ?_)) ?_
        refine hs [] _ rfl ?_
        conv => whnf
        repeat' (first | refine hw_ex32 ⟨by omega, by omega⟩ ?_ | (intro h; exact absurd h (by decide)) | intro _ | refine And.intro ?_ ?_ | (refine hs [14, 288, 334, 357, 407, 413] _ rfl ?_; conv => whnf) | apply ih0 | apply ih1 | apply ih2 | apply ih3 | apply ih4 | apply ih5 | apply hK | (apply hX; apply c_join hU))
        (all_goals clear ih0 ih1 ih2 ih3 ih4 ih5); all_goals (first | exact Nat.lt_succ_self _ | omega)
      · intros
        refine hF (L' := [some _, some _, some _, some _, some _, some _, some _, some _, some _, none, none]) (by repeat' (first | exact True.intro | refine And.intro rfl ?_)) ?_
        refine hs [] _ rfl ?_
        conv => whnf
        repeat' (first | refine hw_ex32 ⟨by omega, by omega⟩ ?_ | (intro h; exact absurd h (by decide)) | intro _ | refine And.intro ?_ ?_ | (refine hs [14, 288, 334, 357, 407, 413] _ rfl ?_; conv => whnf) | apply ih0 | apply ih1 | apply ih2 | apply ih3 | apply ih4 | apply ih5 | apply hK | (apply hX; apply c_join hU))
        (all_goals clear ih0 ih1 ih2 ih3 ih4 ih5); all_goals (first | exact Nat.lt_succ_self _ | omega)
      · intros
        refine hF (L' := [some _, some _, some _, some _, some _, some _, some _, some _, some _, none, some _]) (by repeat' (first | exact True.intro | refine And.intro rfl ?_)) ?_
        refine hs [] _ rfl ?_
        conv => whnf
        repeat' (first | refine hw_ex32 ⟨by omega, by omega⟩ ?_ | (intro h; exact absurd h (by decide)) | intro _ | refine And.intro ?_ ?_ | (refine hs [14, 288, 334, 357, 407, 413] _ rfl ?_; conv => whnf) | apply ih0 | apply ih1 | apply ih2 | apply ih3 | apply ih4 | apply ih5 | apply hK | (apply hX; apply c_join hU))
        (all_goals clear ih0 ih1 ih2 ih3 ih4 ih5); all_goals (first | exact Nat.lt_succ_self _ | omega)
      · intros
        refine hF (L' := [some _, some _, some _, some _, some _, some _, some _, some _, some _, none, some _]) (by repeat' (first | exact True.intro | refine And.intro rfl ?_)) ?_
        refine hs [] _ rfl ?_
        conv => whnf
        repeat' (first | refine hw_ex32 ⟨by omega, by omega⟩ ?_ | (intro h; exact absurd h (by decide)) | intro _ | refine And.intro ?_ ?_ | (refine hs [14, 288, 334, 357, 407, 413] _ rfl ?_; conv => whnf) | apply ih0 | apply ih1 | apply ih2 | apply ih3 | apply ih4 | apply ih5 | apply hK | (apply hX; apply c_join hU))
        (all_goals clear ih0 ih1 ih2 ih3 ih4 ih5); all_goals (first | exact Nat.lt_succ_self _ | omega)
      · intros
        refine hF (L' := [some _, some _, some _, some _, some _, some _, some _, some _, some _, none, none]) (by repeat' (first | exact True.intro | refine And.intro rfl ?_)) ?_
        refine hs [] _ rfl ?_
        conv => whnf
        repeat' (first | refine hw_ex32 ⟨by omega, by omega⟩ ?_ | (intro h; exact absurd h (by decide)) | intro _ | refine And.intro ?_ ?_ | (refine hs [14, 288, 334, 357, 407, 413] _ rfl ?_; conv => whnf) | apply ih0 | apply ih1 | apply ih2 | apply ih3 | apply ih4 | apply ih5 | apply hK | (apply hX; apply c_join hU))
        (all_goals clear ih0 ih1 ih2 ih3 ih4 ih5); all_goals (first | exact Nat.lt_succ_self _ | omega)
      · intros
        refine hF (L' := [some _, some _, some _, some _, some _, some _, some _, none, none, none, none]) (by repeat' (first | exact True.intro | refine And.intro rfl ?_)) ?_
        refine hs [] _ rfl ?_
        conv => whnf
        repeat' (first | refine hw_ex32 ⟨by omega, by omega⟩ ?_ | (intro h; exact absurd h (by decide)) | intro _ | refine And.intro ?_ ?_ | (refine hs [14, 288, 334, 357, 407, 413] _ rfl ?_; conv => whnf) | apply ih0 | apply ih1 | apply ih2 | apply ih3 | apply ih4 | apply ih5 | apply hK | (apply hX; apply c_join hU))
        (all_goals clear ih0 ih1 ih2 ih3 ih4 ih5); all_goals (first | exact Nat.lt_succ_self _ | omega)
  repeat' (first | refine hw_ex32 ⟨by omega, by omega⟩ ?_ | (intro h; exact absurd h (by decide)) | intro _ | refine And.intro ?_ ?_ | (refine hs [14, 288, 334, 357, 407, 413] _ rfl ?_; conv => whnf) | apply (cuts _).1 | apply (cuts _).2.1 | apply (cuts _).2.2.1 | apply (cuts _).2.2.2.1 | apply (cuts _).2.2.2.2.1 | apply (cuts _).2.2.2.2.2 | apply hK | (apply hX; apply c_join hU))
  all_goals (first | exact Nat.lt_succ_self _ | omega)
theorem c_updatesOf (hU : hw_U (hv_T kof own)) {c : Int} (hc : 0 ≤ c ∧ c ≤ 39) (hK : ∀ r, r = z_fu (c + 1) - z_fu c → 0 ≤ z_fu c → z_fu c ≤ 6 * c → 0 ≤ z_fu (c + 1) → z_fu (c + 1) ≤ 6 * c + 6 → K (some (hw_I r)) ([z_used, z_broken, z_fed, z_textEnd, z_made, z_mready, z_modules, z_actions, z_target, z_variables, z_commands, z_updates, z_steps, z_waiting, z_nested, z_type, z_wantsOperand, z_variablesKnown, z_names, z_ownFrom, z_at, z_wrongAt, z_parties, z_states, z_choices, z_outcomes, z_sready, z_many], [z_fc, z_role, z_holds, z_fu, z_taken, z_fo, z_home, z_row, z_fout, z_offer, z_oc], [z_size, z_policies, z_found, z_told], [z_policy])) : hw_C pg_G pg_TT scr (hv_T kof own) (d + 1) 106 [hw_R 13 0, hw_I c] ([z_used, z_broken, z_fed, z_textEnd, z_made, z_mready, z_modules, z_actions, z_target, z_variables, z_commands, z_updates, z_steps, z_waiting, z_nested, z_type, z_wantsOperand, z_variablesKnown, z_names, z_ownFrom, z_at, z_wrongAt, z_parties, z_states, z_choices, z_outcomes, z_sready, z_many], [z_fc, z_role, z_holds, z_fu, z_taken, z_fo, z_home, z_row, z_fout, z_offer, z_oc], [z_size, z_policies, z_found, z_told], [z_policy]) K E := by
  refine hw_meth hU hv_DG ⟨rfl, rfl⟩ (fun w X hs hX hF => ?_)
  repeat' (first | refine hw_ex32 ⟨by omega, by omega⟩ ?_ | (intro h; exact absurd h (by decide)) | intro _ | refine And.intro ?_ ?_ | (refine hs [] _ rfl ?_; conv => whnf) | apply hK)
  all_goals (first | exact Nat.lt_succ_self _ | omega)
theorem c_mclear (hU : hw_U (hv_T kof own)) (hK : K none ([z_used, z_broken, z_fed, z_textEnd, z_made, z_mready, 0, 0, z_target, 0, 0, 0, 0, z_waiting, z_nested, z_type, z_wantsOperand, z_variablesKnown, z_names, z_ownFrom, z_at, z_wrongAt, z_parties, z_states, z_choices, z_outcomes, z_sready, z_many], [z_fc, z_role, z_holds, z_fu, z_taken, z_fo, z_home, z_row, z_fout, z_offer, z_oc], [z_size, z_policies, z_found, z_told], [z_policy])) : hw_C pg_G pg_TT scr (hv_T kof own) (d + 1) 29 [hw_R 13 0] ([z_used, z_broken, z_fed, z_textEnd, z_made, z_mready, z_modules, z_actions, z_target, z_variables, z_commands, z_updates, z_steps, z_waiting, z_nested, z_type, z_wantsOperand, z_variablesKnown, z_names, z_ownFrom, z_at, z_wrongAt, z_parties, z_states, z_choices, z_outcomes, z_sready, z_many], [z_fc, z_role, z_holds, z_fu, z_taken, z_fo, z_home, z_row, z_fout, z_offer, z_oc], [z_size, z_policies, z_found, z_told], [z_policy]) K E := by
  refine hw_meth hU hv_DG ⟨rfl, rfl⟩ (fun w X hs hX hF => ?_)
  repeat' (first | refine hw_ex32 ⟨by omega, by omega⟩ ?_ | (intro h; exact absurd h (by decide)) | intro _ | refine And.intro ?_ ?_ | (refine hs [] _ rfl ?_; conv => whnf) | apply hK)
  all_goals (first | exact Nat.lt_succ_self _ | omega)
end C44
