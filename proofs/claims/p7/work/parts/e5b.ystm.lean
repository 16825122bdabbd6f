/-! the model: TOKENS, one after the other -/
section CY5b
variable {scr : Nat × (Nat → Int32)} {d : Nat} {K : Option hw_V → hw_Z → Prop} {E : Nat → hw_Z → Prop} {Z : hw_Z} {kof : Nat → Nat × Int} {own : Nat → Prop} {z_m_err z_m_fed z_m_wrong z_m_letters z_m_there z_m_kind z_m_word z_m_from z_m_to z_m_tokens z_m_names z_m_vars z_m_modules z_m_commands z_m_actions z_m_target z_m_phase z_m_codes z_m_deep z_m_bool z_m_broken z_m_explored z_m_states z_m_choices z_m_outcomes z_m_problem : Int} {z_m_text z_m_nameFrom z_m_nameSize z_m_nameKind z_m_nameValue z_m_actionFrom z_m_actionSize z_m_commandModule z_m_commandAction z_m_guard z_m_updates z_m_over z_m_under z_m_setTo z_m_code z_m_firstChoice z_m_firstOutcome z_m_goesTo z_m_taken z_m_step z_m_chosen z_m_isTarget z_m_holds z_m_above z_m_below z_m_solved z_m_known z_m_zero z_m_policy z_m_unknown z_m_index z_m_got z_m_set z_m_stack z_m_now z_m_next z_m_value z_m_octets z_m_varModule z_m_low z_m_high z_m_first z_m_isBool z_nn : Int → Int} {z_dg : Int → Int → Int}
theorem tke_ad {k : Int → Int} {x j : Int} {Y : Option Int} (h : k j = x) (ha : ad k j = Y) : tke k x j = Y := by
  unfold tke
  rw [if_pos h]
  exact ha
theorem ycn_k {f g : Int → Int} {a b c : Int} (h : ycn (uC f a b)) (hs : ucs f g c) (h0 : 0 ≤ a) (hb : b % 2 = 0) (hc : b ≤ c) : ycn (uC g a b) := by rw [uC_k hs h0 hb hc]; exact h
theorem yval_k {f g : Int → Int} {a b c : Int} {Y : Option Int} (h : yval (uC g a b) = Y) (hs : ucs f g c) (h0 : 0 ≤ a) (hb : b % 2 = 0) (hc : b ≤ c) : yval (uC f a b) = Y := by rw [← uC_k hs h0 hb hc]; exact h
theorem u21_k {f g : Int → Int} {b c : Int} (h : f b = 21) (hs : ucs f g c) (hc : b < c) : g b = 21 := by rw [ucs_at hs hc]; exact h
theorem pConst_v {t : Int → Int} {n j a b c d e : Int} {L : yN} {C : yC} (h0 : tke (kd t n) 6 j = some a) (h1 : tke (kd t n) 7 a = some b) (h2 : nwn t n L b = some c) (h3 : tke (kd t n) 24 c = some d) (h4 : yex t n L 0 1 d = some (e, C)) (h6 : yval C = none) : pConst t n L j = none := by
  cases h5 : tke (kd t n) 36 e with
  | none => exact pConst_n5 h0 h1 h2 h3 h4 h5
  | some f => exact pConst_n6 h0 h1 h2 h3 h4 h5 h6
theorem pBounds_v {t : Int → Int} {n j a b c d : Int} {L : yN} {C C2 : yC} (h0 : tke (kd t n) 41 j = some a) (h1 : yex t n L 0 1 a = some (b, C)) (h2 : tke (kd t n) 19 b = some c) (h3 : yex t n L 0 1 c = some (d, C2)) (h5 : yval C2 = none ∨ yval C = none ∨ ∃ lo hi, yval C = some lo ∧ yval C2 = some hi ∧ ¬ (lo ≤ hi ∧ hi - lo < 1000)) : pBounds t n L j = none := by
  cases h4 : tke (kd t n) 42 d with
  | none => exact pBounds_n4 h0 h1 h2 h3 h4
  | some e =>
    cases q : yval C2 with
    | none => exact pBounds_n5 h0 h1 h2 h3 h4 q
    | some hi =>
      cases q2 : yval C with
      | none => exact pBounds_n6 h0 h1 h2 h3 h4 q q2
      | some lo =>
        refine pBounds_n7 h0 h1 h2 h3 h4 q q2 (cnd_n ?_)
        rw [q, q2] at h5
        rcases h5 with z | z | ⟨l, h, z1, z2, z3⟩
        · cases z
        · cases z
        · cases z1; cases z2; exact z3
theorem pBounds_v1 {t : Int → Int} {n j a b c d lo hi : Int} {L : yN} {C C2 : yC} (h0 : tke (kd t n) 41 j = some a) (h1 : yex t n L 0 1 a = some (b, C)) (h2 : tke (kd t n) 19 b = some c) (h3 : yex t n L 0 1 c = some (d, C2)) (h5 : yval C = some lo) (h6 : yval C2 = some hi) (h7 : ¬ (lo ≤ hi ∧ hi - lo < 1000)) : pBounds t n L j = none := pBounds_v h0 h1 h2 h3 (Or.inr (Or.inr ⟨lo, hi, h5, h6, h7⟩))
theorem pBounds_s1 {t : Int → Int} {n j a b c d e lo hi x y : Int} {L : yN} {C C2 : yC} (h0 : tke (kd t n) 41 j = some a) (h1 : yex t n L 0 1 a = some (b, C)) (h2 : tke (kd t n) 19 b = some c) (h3 : yex t n L 0 1 c = some (d, C2)) (h4 : tke (kd t n) 42 d = some e) (h5 : yval C2 = some hi) (h6 : yval C = some lo) (h7 : lo ≤ hi ∧ hi - lo < 1000) (hx : x = lo) (hy : y = hi) : pBounds t n L j = some (e, x, y) := by subst hx hy; exact pBounds_s h0 h1 h2 h3 h4 h5 h6 (cnd_s h7)
theorem uty_0 {ib : Int → Int} {e : Int} : 0 = uty ib 0 e := rfl
theorem uty_2 {ib : Int → Int} {e : Int} : 0 = uty ib 2 e := rfl
theorem uty_1 {ib : Int → Int} {e ty : Int} (h : ty = ib e + 1) : ty = uty ib 1 e := h
theorem ul_su {t : Int → Int} {n k w fr to tn N N' V V' b c e ty : Int} {L : yN} {nf nz nk nv ib ib' : Int → Int} (hm : um_ok t n k w fr to tn) (h : ul_ok t n L N V nf nz nk nv ib) (hb : b = to - fr) (hc : 0 ≤ c ∧ c ≤ 2) (he : c = 1 → 0 ≤ e ∧ e < V') (hV : V ≤ V') (hN : N' = N + 1) (hi : ∀ v, 0 ≤ v → v < V → ib' v = ib v) (hty : ty = uty ib' c e) : ul_ok t n (L ++ [(tn - 1, c, e, ty)]) N' V' (hw_up nf N fr) (hw_up nz N b) (hw_up nk N c) (hw_up nv N e) ib' := by
  have q := um_b hm
  exact ul_s h q.2.2.1 (by omega) (by omega) hc he hV hN hi hty
theorem ul_sv {t : Int → Int} {n k w fr to tn N N' V V' b c e ty q : Int} {L : yN} {nf nz nk nv ib ib' : Int → Int} (hm : um_ok t n k w fr to tn) (h : ul_ok t n L N V nf nz nk nv ib) (hb : b = to - fr + 4294967296 * q) (hr : -2147483648 ≤ b ∧ b ≤ 2147483647) (hc : 0 ≤ c ∧ c ≤ 2) (he : c = 1 → 0 ≤ e ∧ e < V') (hV : V ≤ V') (hN : N' = N + 1) (hi : ∀ v, 0 ≤ v → v < V → ib' v = ib v) (hty : ty = uty ib' c e) : ul_ok t n (L ++ [(tn - 1, c, e, ty)]) N' V' (hw_up nf N fr) (hw_up nz N b) (hw_up nk N c) (hw_up nv N e) ib' := by
  have z := um_b hm
  exact ul_su hm h (by omega) hc he hV hN hi hty
/-- a variable: what is left is the semicolon -/
def pvF (Y : Option Int) (L : yN) (e : Int × Int × Int × Int) (lo hi v : Int) : Option (Int × yN × Int × Int × Int) := match Y with
  | none => none
  | some d => some (d, L ++ [e], lo, hi, v)
theorem pvI_t {t : Int → Int} {n ty lo hi j a b v : Int} {L : yN} {C : yC} (h0 : ad (kd t n) j = some a) (h1 : yex t n L 0 ty a = some (b, C)) (h3 : yval C = some v) (h4 : lo ≤ v ∧ v ≤ hi) : pvI t n L ty lo hi j = tkl (tke (kd t n) 36 b) v := by
  cases h2 : tke (kd t n) 36 b with
  | none => exact pvI_n2 h0 h1 h2
  | some c => exact pvI_s h0 h1 h2 h3 (cnd_s h4)
theorem pvI_v {t : Int → Int} {n ty lo hi j a b : Int} {L : yN} {C : yC} (h0 : ad (kd t n) j = some a) (h1 : yex t n L 0 ty a = some (b, C)) (h3 : yval C = none) : pvI t n L ty lo hi j = none := by
  cases h2 : tke (kd t n) 36 b with
  | none => exact pvI_n2 h0 h1 h2
  | some c => exact pvI_n3 h0 h1 h2 h3
theorem pvI_w {t : Int → Int} {n ty lo hi j a b v : Int} {L : yN} {C : yC} (h0 : ad (kd t n) j = some a) (h1 : yex t n L 0 ty a = some (b, C)) (h3 : yval C = some v) (h4 : v < lo ∨ hi < v) : pvI t n L ty lo hi j = none := by
  cases h2 : tke (kd t n) 36 b with
  | none => exact pvI_n2 h0 h1 h2
  | some c => exact pvI_n4 h0 h1 h2 h3 (cnd_n (by omega))
theorem pVar_t {t : Int → Int} {n V j c ty lo hi v v' : Int} {L : yN} {Y : Option Int} (h0 : pvA t n L V j = some (c, ty, lo, hi)) (h1 : pInit t n L ty lo hi c = tkl Y v) (hv : v' = v) : pVar t n L V j = pvF Y L (j, 1, V, ty) lo hi v' := by
  subst hv
  cases Y with
  | none => exact pVar_n1 h0 h1
  | some d => exact pVar_s h0 h1
theorem pVar_tn {t : Int → Int} {n V j c ty lo hi : Int} {L : yN} (h0 : pvA t n L V j = some (c, ty, lo, hi)) (hk : kd t n c = 11) (h1 : pvI t n L ty lo hi c = none) : pVar t n L V j = none := pVar_n1 h0 (pInit_g h1 hk rfl rfl)
theorem pVar_f {t : Int → Int} {n V j lo hi v : Int} {L : yN} {Y : Option Int} {e : Int × Int × Int × Int} (h : pVar t n L V j = pvF Y L e lo hi v) (hY : Y = none) : pVar t n L V j = none := by subst hY; exact h
theorem pVar_g {t : Int → Int} {n V j d lo hi v : Int} {L : yN} {Y : Option Int} {e : Int × Int × Int × Int} (h : pVar t n L V j = pvF Y L e lo hi v) (hY : Y = some d) : pVar t n L V j = some (d, L ++ [e], lo, hi, v) := by subst hY; exact h
/-- changed at one place alone -/
def uup (f g : Int → Int) (k : Int) : Prop := ∃ _ : Unit, ∀ i, ¬ i = k → g i = f i
theorem uup_0 {f : Int → Int} {k : Int} : uup f f k := ⟨(), fun _ _ => rfl⟩
theorem uup_u {f g : Int → Int} {k x : Int} (h : uup f g k) : uup f (hw_up g k x) k := h.elim fun _ h => ⟨(), fun i hi => (hw_up_n hi).trans (h i hi)⟩
theorem pvA_q {t : Int → Int} {n V j c ty lo hi ty' lo' hi' : Int} {L : yN} (h : pvA t n L V j = some (c, ty, lo, hi)) (h1 : ty = ty') (h2 : lo = lo') (h3 : hi = hi') : pvA t n L V j = some (c, ty', lo', hi') := by subst h1 h2 h3; exact h
theorem u_nx (hU : hw_U (hm_T kof own)) (ht : um_ok z_m_text z_m_letters z_m_kind z_m_word z_m_from z_m_to z_m_tokens) (hK : ∀ (kd_ wd fr t tn : Int), ad (kd z_m_text z_m_letters) (z_m_tokens - 1) = some (tn - 1) → tn = z_m_tokens + 1 → tn ≤ 1500 → um_ok z_m_text z_m_letters kd_ wd fr t tn → K (some (hw_I 1)) ([z_m_err, z_m_fed, z_m_wrong, z_m_letters, z_m_there, kd_, wd, fr, t, tn, z_m_names, z_m_vars, z_m_modules, z_m_commands, z_m_actions, z_m_target, z_m_phase, z_m_codes, z_m_deep, z_m_bool, z_m_broken, z_m_explored, z_m_states, z_m_choices, z_m_outcomes, z_m_problem], [z_m_text, z_m_nameFrom, z_m_nameSize, z_m_nameKind, z_m_nameValue, z_m_actionFrom, z_m_actionSize, z_m_commandModule, z_m_commandAction, z_m_guard, z_m_updates, z_m_over, z_m_under, z_m_setTo, z_m_code, z_m_firstChoice, z_m_firstOutcome, z_m_goesTo, z_m_taken, z_m_step, z_m_chosen, z_m_isTarget, z_m_holds, z_m_above, z_m_below, z_m_solved, z_m_known, z_m_zero, z_m_policy, z_m_unknown, z_m_index, z_m_got, z_m_set, z_m_stack, z_m_now, z_m_next, z_m_value, z_m_octets, z_m_varModule, z_m_low, z_m_high, z_m_first, z_m_isBool], [z_nn], [z_dg])) (hK1 : ∀ (kd_ wd fr t tn wr : Int), ad (kd z_m_text z_m_letters) (z_m_tokens - 1) = none → K (some (hw_I 0)) ([z_m_err, z_m_fed, wr, z_m_letters, z_m_there, kd_, wd, fr, t, tn, z_m_names, z_m_vars, z_m_modules, z_m_commands, z_m_actions, z_m_target, z_m_phase, z_m_codes, z_m_deep, z_m_bool, z_m_broken, z_m_explored, z_m_states, z_m_choices, z_m_outcomes, z_m_problem], [z_m_text, z_m_nameFrom, z_m_nameSize, z_m_nameKind, z_m_nameValue, z_m_actionFrom, z_m_actionSize, z_m_commandModule, z_m_commandAction, z_m_guard, z_m_updates, z_m_over, z_m_under, z_m_setTo, z_m_code, z_m_firstChoice, z_m_firstOutcome, z_m_goesTo, z_m_taken, z_m_step, z_m_chosen, z_m_isTarget, z_m_holds, z_m_above, z_m_below, z_m_solved, z_m_known, z_m_zero, z_m_policy, z_m_unknown, z_m_index, z_m_got, z_m_set, z_m_stack, z_m_now, z_m_next, z_m_value, z_m_octets, z_m_varModule, z_m_low, z_m_high, z_m_first, z_m_isBool], [z_nn], [z_dg])) : hw_C pg_G pg_TT scr (hm_T kof own) (d + 6) 196 [hw_R 2 0] ([z_m_err, z_m_fed, z_m_wrong, z_m_letters, z_m_there, z_m_kind, z_m_word, z_m_from, z_m_to, z_m_tokens, z_m_names, z_m_vars, z_m_modules, z_m_commands, z_m_actions, z_m_target, z_m_phase, z_m_codes, z_m_deep, z_m_bool, z_m_broken, z_m_explored, z_m_states, z_m_choices, z_m_outcomes, z_m_problem], [z_m_text, z_m_nameFrom, z_m_nameSize, z_m_nameKind, z_m_nameValue, z_m_actionFrom, z_m_actionSize, z_m_commandModule, z_m_commandAction, z_m_guard, z_m_updates, z_m_over, z_m_under, z_m_setTo, z_m_code, z_m_firstChoice, z_m_firstOutcome, z_m_goesTo, z_m_taken, z_m_step, z_m_chosen, z_m_isTarget, z_m_holds, z_m_above, z_m_below, z_m_solved, z_m_known, z_m_zero, z_m_policy, z_m_unknown, z_m_index, z_m_got, z_m_set, z_m_stack, z_m_now, z_m_next, z_m_value, z_m_octets, z_m_varModule, z_m_low, z_m_high, z_m_first, z_m_isBool], [z_nn], [z_dg]) K E := by
  have Q := um_b ht
  exact u_next hU (um_s ht) (by omega) (by omega) (by omega) (fun kd_ wd fr t tn h1 h2 => hK kd_ wd fr t tn (nx_s h2 rfl (by omega)) h1 (by have := um_b h2; omega) h2) (fun kd_ wd fr t tn wr h => hK1 kd_ wd fr t tn wr (nx_n h (by omega)))
theorem u_nd (hU : hw_U (hm_T kof own)) {j x : Int} (hx : x = j + 1) (hj : 4 ≤ j ∧ j ≤ 41) (ht : um_ok z_m_text z_m_letters z_m_kind z_m_word z_m_from z_m_to z_m_tokens) (hK : ∀ (kd_ wd fr t tn : Int), tke (kd z_m_text z_m_letters) x (z_m_tokens - 1) = some (tn - 1) → tn = z_m_tokens + 1 → tn ≤ 1500 → um_ok z_m_text z_m_letters kd_ wd fr t tn → K (some (hw_I 1)) ([z_m_err, z_m_fed, z_m_wrong, z_m_letters, z_m_there, kd_, wd, fr, t, tn, z_m_names, z_m_vars, z_m_modules, z_m_commands, z_m_actions, z_m_target, z_m_phase, z_m_codes, z_m_deep, z_m_bool, z_m_broken, z_m_explored, z_m_states, z_m_choices, z_m_outcomes, z_m_problem], [z_m_text, z_m_nameFrom, z_m_nameSize, z_m_nameKind, z_m_nameValue, z_m_actionFrom, z_m_actionSize, z_m_commandModule, z_m_commandAction, z_m_guard, z_m_updates, z_m_over, z_m_under, z_m_setTo, z_m_code, z_m_firstChoice, z_m_firstOutcome, z_m_goesTo, z_m_taken, z_m_step, z_m_chosen, z_m_isTarget, z_m_holds, z_m_above, z_m_below, z_m_solved, z_m_known, z_m_zero, z_m_policy, z_m_unknown, z_m_index, z_m_got, z_m_set, z_m_stack, z_m_now, z_m_next, z_m_value, z_m_octets, z_m_varModule, z_m_low, z_m_high, z_m_first, z_m_isBool], [z_nn], [z_dg])) (hK1 : ∀ (kd_ wd fr t tn wr : Int), tke (kd z_m_text z_m_letters) x (z_m_tokens - 1) = none → K (some (hw_I 0)) ([z_m_err, z_m_fed, wr, z_m_letters, z_m_there, kd_, wd, fr, t, tn, z_m_names, z_m_vars, z_m_modules, z_m_commands, z_m_actions, z_m_target, z_m_phase, z_m_codes, z_m_deep, z_m_bool, z_m_broken, z_m_explored, z_m_states, z_m_choices, z_m_outcomes, z_m_problem], [z_m_text, z_m_nameFrom, z_m_nameSize, z_m_nameKind, z_m_nameValue, z_m_actionFrom, z_m_actionSize, z_m_commandModule, z_m_commandAction, z_m_guard, z_m_updates, z_m_over, z_m_under, z_m_setTo, z_m_code, z_m_firstChoice, z_m_firstOutcome, z_m_goesTo, z_m_taken, z_m_step, z_m_chosen, z_m_isTarget, z_m_holds, z_m_above, z_m_below, z_m_solved, z_m_known, z_m_zero, z_m_policy, z_m_unknown, z_m_index, z_m_got, z_m_set, z_m_stack, z_m_now, z_m_next, z_m_value, z_m_octets, z_m_varModule, z_m_low, z_m_high, z_m_first, z_m_isBool], [z_nn], [z_dg])) : hw_C pg_G pg_TT scr (hm_T kof own) (d + 7) 202 [hw_R 2 0, hw_R 1000000 j] ([z_m_err, z_m_fed, z_m_wrong, z_m_letters, z_m_there, z_m_kind, z_m_word, z_m_from, z_m_to, z_m_tokens, z_m_names, z_m_vars, z_m_modules, z_m_commands, z_m_actions, z_m_target, z_m_phase, z_m_codes, z_m_deep, z_m_bool, z_m_broken, z_m_explored, z_m_states, z_m_choices, z_m_outcomes, z_m_problem], [z_m_text, z_m_nameFrom, z_m_nameSize, z_m_nameKind, z_m_nameValue, z_m_actionFrom, z_m_actionSize, z_m_commandModule, z_m_commandAction, z_m_guard, z_m_updates, z_m_over, z_m_under, z_m_setTo, z_m_code, z_m_firstChoice, z_m_firstOutcome, z_m_goesTo, z_m_taken, z_m_step, z_m_chosen, z_m_isTarget, z_m_holds, z_m_above, z_m_below, z_m_solved, z_m_known, z_m_zero, z_m_policy, z_m_unknown, z_m_index, z_m_got, z_m_set, z_m_stack, z_m_now, z_m_next, z_m_value, z_m_octets, z_m_varModule, z_m_low, z_m_high, z_m_first, z_m_isBool], [z_nn], [z_dg]) K E := by
  exact u_need hU hx hj ht (fun kd_ wd fr t tn h0 h1 h2 => hK kd_ wd fr t tn h0 h1 (by have := um_b h2; omega) h2) hK1
end CY5b
