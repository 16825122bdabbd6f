/-! count and claim, in one form -/
theorem cnt_m {Do : Option dT} {Yo : Option qY} {th x cn vn md an tg ex ns oc nc : Int} {cd gu up st cm ca lo hi fi vl go fo fc tga : Int → Int} (hdo : mDo Do th cd gu up st cm ca lo hi fi cn vn md an tg) (hyo : mYo Yo vn ex vl go fo fc tga ns oc nc) : cntv x th ex vn md cn an ns nc oc (tgc tga ns.toNat) = qcnt Do Yo x := by
  unfold cntv qcnt
  by_cases hx : x < 4
  · rw [if_pos hx, if_pos hx]
    cases Do with
    | none =>
      (try dsimp only)
      rw [if_pos (hdo.elim fun _ h => h.1 rfl)]
    | some D =>
      (try dsimp only)
      obtain ⟨c1, c2⟩ := hdo.elim fun _ h => h.2 D rfl
      have n := mH_n c2
      rw [if_neg c1, n.1, n.2.1, n.2.2.2.1, n.2.2.2.2]
  · rw [if_neg hx, if_neg hx]
    cases Yo with
    | none =>
      (try dsimp only)
      rw [if_pos (hyo.elim fun _ h => h.1 rfl)]
    | some Y =>
      (try dsimp only)
      obtain ⟨c1, c2, _⟩ := hyo.elim fun _ h => h.2 Y rfl
      have c2 := mYe_y c2
      have n := mY_n c2
      rw [if_neg c1, tgc_l (c2.elim fun _ h => h.2.2), n.1, n.2.1, n.2.2.1]
section CM2
variable {scr : Nat × (Nat → Int32)} {d : Nat} {K : Option hw_V → hw_Z → Prop} {E : Nat → hw_Z → Prop} {Z : hw_Z} {kof : Nat → Nat × Int} {own : Nat → Prop} {f er : Int} {g : Int → Int} {Do : Option dT} {Yo : Option qY}
theorem r_countF (hU : hw_U (hm_T kof own)) {x : Int} (hZ : hm_I f er g Do Yo Z) (hK : 0 ≤ x → x ≤ 7 → ∀ Z', hm_I f 0 g Do Yo Z' → K (some (hw_I (qcnt Do Yo x))) Z') (hK1 : (x < 0 ∨ 7 < x) → ∀ Z', hm_I f 1 g Do Yo Z' → K (some (hw_I 0)) Z') : hw_C pg_G pg_TT scr (hm_T kof own) (d + 2) 280 [hw_R 2 0, hw_I x] Z K E := by
  refine hm_e (P := fun Z => hw_C pg_G pg_TT scr (hm_T kof own) (d + 2) 280 [hw_R 2 0, hw_I x] Z K E) hZ (fun z_m_wrong z_m_letters z_m_there z_m_kind z_m_word z_m_from z_m_to z_m_tokens z_m_names z_m_vars z_m_modules z_m_commands z_m_actions z_m_target z_m_phase z_m_codes z_m_deep z_m_bool z_m_broken z_m_explored z_m_states z_m_choices z_m_outcomes z_m_problem z_m_text z_m_nameFrom z_m_nameSize z_m_nameKind z_m_nameValue z_m_actionFrom z_m_actionSize z_m_commandModule z_m_commandAction z_m_guard z_m_updates z_m_over z_m_under z_m_setTo z_m_code z_m_firstChoice z_m_firstOutcome z_m_goesTo z_m_taken z_m_step z_m_chosen z_m_isTarget z_m_holds z_m_above z_m_below z_m_solved z_m_known z_m_zero z_m_policy z_m_unknown z_m_index z_m_got z_m_set z_m_stack z_m_now z_m_next z_m_value z_m_octets z_m_varModule z_m_low z_m_high z_m_first z_m_isBool z_nn z_dg va hv hi hm ha hoc hdo hyo => ?_)
  refine g_count hU ?_ ?_
  · intro h
    exact hK1 h _ (hm_i hv hi hm ha hoc hdo hyo)
  · intro r h1 h2 h3
    rw [cnt_m hdo hyo] at h3
    subst h3
    exact hK h1 h2 _ (hm_i hv hi hm ha hoc hdo hyo)
theorem r_claimF (hU : hw_U (hm_T kof own)) {s a b : Int} (ha1 : -9223372036854775808 ≤ a ∧ a ≤ 9223372036854775807) (hb1 : -9223372036854775808 ≤ b ∧ b ≤ 9223372036854775807) (hZ : hm_I f er g Do Yo Z) (hK0 : 0 < b → 0 ≤ a → (∃ Y, Yo = some Y ∧ 0 ≤ s ∧ s < (Y.1.1.length : Int)) → ∀ Z', hm_I f 0 g Do Yo Z' → K none Z') (hK1 : (b ≤ 0 ∨ a < 0) → ∀ Z', hm_I f 1 g Do Yo Z' → K none Z') (hK2 : 0 < b → 0 ≤ a → Yo = none → ∀ Z', hm_I f 2 g Do Yo Z' → K none Z') (hK3 : 0 < b → 0 ≤ a → (∃ Y, Yo = some Y ∧ (s < 0 ∨ (Y.1.1.length : Int) ≤ s)) → ∀ Z', hm_I f 3 g Do Yo Z' → K none Z') : hw_C pg_G pg_TT scr (hm_T kof own) (d + 2) 271 [hw_R 2 0, hw_I s, hw_J a, hw_J b] Z K E := by
  refine hm_e (P := fun Z => hw_C pg_G pg_TT scr (hm_T kof own) (d + 2) 271 [hw_R 2 0, hw_I s, hw_J a, hw_J b] Z K E) hZ (fun z_m_wrong z_m_letters z_m_there z_m_kind z_m_word z_m_from z_m_to z_m_tokens z_m_names z_m_vars z_m_modules z_m_commands z_m_actions z_m_target z_m_phase z_m_codes z_m_deep z_m_bool z_m_broken z_m_explored z_m_states z_m_choices z_m_outcomes z_m_problem z_m_text z_m_nameFrom z_m_nameSize z_m_nameKind z_m_nameValue z_m_actionFrom z_m_actionSize z_m_commandModule z_m_commandAction z_m_guard z_m_updates z_m_over z_m_under z_m_setTo z_m_code z_m_firstChoice z_m_firstOutcome z_m_goesTo z_m_taken z_m_step z_m_chosen z_m_isTarget z_m_holds z_m_above z_m_below z_m_solved z_m_known z_m_zero z_m_policy z_m_unknown z_m_index z_m_got z_m_set z_m_stack z_m_now z_m_next z_m_value z_m_octets z_m_varModule z_m_low z_m_high z_m_first z_m_isBool z_nn z_dg va hv hi hm ha hoc hdo hyo => ?_)
  have hy : (Yo = none ∧ z_m_explored = 0) ∨ ∃ Y, Yo = some Y ∧ ¬ z_m_explored = 0 ∧ z_m_states = (Y.1.1.length : Int) := by
    cases Yo with
    | none => exact Or.inl ⟨rfl, hyo.elim fun _ h => h.1 rfl⟩
    | some Y =>
      obtain ⟨c1, c2, _⟩ := hyo.elim fun _ h => h.2 Y rfl
      exact Or.inr ⟨Y, rfl, c1, (mY_n (mYe_y c2)).1⟩
  refine g_claim hU hv hi ha1 hb1 ?_ ?_ ?_ ?_
  · intro h
    exact hK1 h _ (hm_i hv hi hm ha hoc hdo hyo)
  · intro h1 h2 h3
    rcases hy with ⟨e, _⟩ | ⟨Y, e, z, _⟩
    · exact hK2 h1 h2 e _ (hm_i hv hi hm ha hoc hdo hyo)
    · exact absurd h3 z
  · intro h1 h2 h3 h4
    rcases hy with ⟨_, z⟩ | ⟨Y, e, _, n⟩
    · exact absurd z h3
    · exact hK3 h1 h2 ⟨Y, e, by omega⟩ _ (hm_i hv hi hm ha hoc hdo hyo)
  · intros
    rename_i p1 p2 h1 h2 h3 h4 h5
    rcases hy with ⟨_, z⟩ | ⟨Y, e, _, n⟩
    · exact absurd z h3
    · exact hK0 h1 h2 ⟨Y, e, h4, by omega⟩ _ (hm_i p1 p2 hm ha hoc hdo hyo)
theorem r_outcomeF (hU : hw_U (hm_T kof own)) {s c o : Int} (ho : -2147483648 ≤ o ∧ o ≤ 2147483647) (hZ : hm_I f er g Do Yo Z) (hK0 : ∀ Y, Yo = some Y → oin Y s c o → ∀ Z', hm_I f 0 g Do Yo Z' → K (some (hw_I (oto Y s c o))) Z') (hK1 : Yo = none → ∀ Z', hm_I f 1 g Do Yo Z' → K (some (hw_I 0)) Z') (hK2 : ∀ Y, Yo = some Y → ¬ oin Y s c o → ∀ Z', hm_I f 2 g Do Yo Z' → K (some (hw_I 0)) Z') : hw_C pg_G pg_TT scr (hm_T kof own) (d + 3) 276 [hw_R 2 0, hw_I s, hw_I c, hw_I o] Z K E := by
  refine hm_e (P := fun Z => hw_C pg_G pg_TT scr (hm_T kof own) (d + 3) 276 [hw_R 2 0, hw_I s, hw_I c, hw_I o] Z K E) hZ (fun z_m_wrong z_m_letters z_m_there z_m_kind z_m_word z_m_from z_m_to z_m_tokens z_m_names z_m_vars z_m_modules z_m_commands z_m_actions z_m_target z_m_phase z_m_codes z_m_deep z_m_bool z_m_broken z_m_explored z_m_states z_m_choices z_m_outcomes z_m_problem z_m_text z_m_nameFrom z_m_nameSize z_m_nameKind z_m_nameValue z_m_actionFrom z_m_actionSize z_m_commandModule z_m_commandAction z_m_guard z_m_updates z_m_over z_m_under z_m_setTo z_m_code z_m_firstChoice z_m_firstOutcome z_m_goesTo z_m_taken z_m_step z_m_chosen z_m_isTarget z_m_holds z_m_above z_m_below z_m_solved z_m_known z_m_zero z_m_policy z_m_unknown z_m_index z_m_got z_m_set z_m_stack z_m_now z_m_next z_m_value z_m_octets z_m_varModule z_m_low z_m_high z_m_first z_m_isBool z_nn z_dg va hv hi hm ha hoc hdo hyo => ?_)
  have hy : (Yo = none ∧ z_m_explored = 0) ∨ ∃ Y, Yo = some Y ∧ ¬ z_m_explored = 0 ∧ ((oar z_m_firstChoice z_m_firstOutcome z_m_states s c o ↔ oin Y s c o) ∧ (oin Y s c o → z_m_goesTo (z_m_firstOutcome (z_m_firstChoice s + c) + o) = oto Y s c o)) := by
    cases Yo with
    | none => exact Or.inl ⟨rfl, hyo.elim fun _ h => h.1 rfl⟩
    | some Y =>
      obtain ⟨c1, c2, c3⟩ := hyo.elim fun _ h => h.2 Y rfl
      have c4 := mYe_e c2
      have c2 := mYe_y c2
      exact Or.inr ⟨Y, rfl, c1, oin_a c3 (mY_n c2).1 (c2.elim fun _ h => h.2.1) (mY_f c2) (mY_g c2) (fun _ => c4.2) (fun _ => c4.1)⟩
  refine g_outcome hU hv hi ho ?_ ?_ ?_
  · intro h
    rcases hy with ⟨e, _⟩ | ⟨Y, e, z, _⟩
    · exact hK1 e _ (hm_i hv hi hm ha hoc hdo hyo)
    · exact absurd h z
  · intro h1 h2
    rcases hy with ⟨_, z⟩ | ⟨Y, e, _, n1, n2⟩
    · exact absurd z h1
    · exact hK2 Y e (fun q => by obtain ⟨k1, k2, k3, k4, k5, k6⟩ := n1.mpr q; omega) _ (hm_i hv hi hm ha hoc hdo hyo)
  · intros
    rename_i p1 p2 h1 k1 k2 k3 k4 k5 k6 h3
    have h2 : oar z_m_firstChoice z_m_firstOutcome z_m_states s c o := ⟨k1, k2, k3, k4, k5, k6⟩
    rcases hy with ⟨_, z⟩ | ⟨Y, e, _, n1, n2⟩
    · exact absurd z h1
    · have n3 := n2 (n1.mp h2)
      rw [n3] at h3
      subst h3
      exact hK0 Y e (n1.mp h2) _ (hm_i p1 p2 hm ha hoc hdo hyo)
end CM2
