/-! the model: the worth of a choice -/
section C5g
variable {scr : Nat × (Nat → Int32)} {d : Nat} {K : Option hw_V → hw_Z → Prop} {E : Nat → hw_Z → Prop} {Z : hw_Z} {kof : Nat → Nat × Int} {own : Nat → Prop} {z_m_err z_m_fed z_m_wrong z_m_letters z_m_there z_m_kind z_m_word z_m_from z_m_to z_m_tokens z_m_names z_m_vars z_m_modules z_m_commands z_m_actions z_m_target z_m_phase z_m_codes z_m_deep z_m_bool z_m_broken z_m_explored z_m_states z_m_choices z_m_outcomes z_m_problem : Int} {z_m_text z_m_nameFrom z_m_nameSize z_m_nameKind z_m_nameValue z_m_actionFrom z_m_actionSize z_m_commandModule z_m_commandAction z_m_guard z_m_updates z_m_over z_m_under z_m_setTo z_m_code z_m_firstChoice z_m_firstOutcome z_m_goesTo z_m_taken z_m_step z_m_chosen z_m_isTarget z_m_holds z_m_above z_m_below z_m_solved z_m_known z_m_zero z_m_policy z_m_unknown z_m_index z_m_got z_m_set z_m_stack z_m_now z_m_next z_m_value z_m_octets z_m_varModule z_m_low z_m_high z_m_first z_m_isBool z_nn : Int → Int} {z_dg : Int → Int → Int}
/-- a choice: how many outcomes, their common denominator, their chances by it -/
def nq (fo : Int → Int) (c : Int) : Nat := (fo (c + 1) - fo c).toNat
def Lq (fo be : Int → Int) (c : Int) : Int := lcr be (fo c) (fo (c + 1) - fo c).toNat
def hq (fo ab be : Int → Int) (c : Int) (x : Nat) : Int := Lq fo be c / bw be ((fo c + x) * 20) * bw ab ((fo c + x) * 20)
def ch_ok (fo go ab be : Int → Int) (n c : Int) : Prop := ∃ _ : Unit, (0 ≤ c ∧ c ≤ 199) ∧ (0 ≤ fo c ∧ fo c ≤ fo (c + 1) ∧ fo (c + 1) ≤ 3200) ∧ lc_ok be (fo c) (fo (c + 1)) ∧ (∀ x : Nat, x < nq fo c → (0 ≤ go (fo c + x) ∧ go (fo c + x) < n) ∧ 0 < hq fo ab be c x) ∧ sm (nq fo c) (hq fo ab be c) = Lq fo be c
theorem ch_c {fo go ab be : Int → Int} {n c : Int} (h : ch_ok fo go ab be n c) : 0 ≤ c ∧ c ≤ 199 := h.elim fun _ h => h.1
theorem ch_fo {fo go ab be : Int → Int} {n c : Int} (h : ch_ok fo go ab be n c) : 0 ≤ fo c ∧ fo c ≤ fo (c + 1) ∧ fo (c + 1) ≤ 3200 := h.elim fun _ h => h.2.1
theorem ch_l {fo go ab be : Int → Int} {n c : Int} (h : ch_ok fo go ab be n c) : lc_ok be (fo c) (fo (c + 1)) := h.elim fun _ h => h.2.2.1
theorem ch_L {fo go ab be : Int → Int} {n c : Int} (h : ch_ok fo go ab be n c) : 1 ≤ Lq fo be c ∧ Lq fo be c < wB 6 := by
  have h1 := ch_fo h
  refine (ch_l h).elim fun _ h2 => ?_
  have h3 := h2 (fo (c + 1) - fo c).toNat (by omega)
  exact ⟨h3.2.1, h3.1⟩
theorem ch_o {fo go ab be : Int → Int} {n c o : Int} (h : ch_ok fo go ab be n c) (h1 : fo c ≤ o) (h2 : o < fo (c + 1)) : 0 ≤ go o ∧ go o < n ∧ 1 ≤ bw be (o * 20) := by
  obtain ⟨x, hx⟩ := Int.eq_ofNat_of_zero_le (by omega : 0 ≤ o - fo c)
  obtain rfl : o = fo c + x := by omega
  refine h.elim fun _ h => ?_
  have h3 := (h.2.2.2.1 x (by unfold nq; omega)).1
  exact h.2.2.1.elim fun _ h4 => ⟨h3.1, h3.2, ((h4 x (by omega)).2.2 h2).1⟩
theorem ch_h {fo go ab be : Int → Int} {n c : Int} {x : Nat} (h : ch_ok fo go ab be n c) (hx : x < nq fo c) : 0 ≤ hq fo ab be c x := h.elim fun _ h => Int.le_of_lt (h.2.2.2.1 x hx).2
theorem ch_p {fo go ab be : Int → Int} {n c : Int} {x : Nat} (h : ch_ok fo go ab be n c) (hx : x < nq fo c) : 0 < hq fo ab be c x := h.elim fun _ h => (h.2.2.2.1 x hx).2
theorem ch_s {fo go ab be : Int → Int} {n c : Int} (h : ch_ok fo go ab be n c) : sm (nq fo c) (hq fo ab be c) = Lq fo be c := h.elim fun _ h => h.2.2.2.2
theorem sm_mono {n k : Nat} {f : Nat → Int} (h : k ≤ n) (h1 : ∀ x, x < n → 0 ≤ f x) : sm k f ≤ sm n f := by
  induction h with
  | refl => exact Int.le_refl _
  | step h ih =>
    rename_i l
    have h2 := ih (fun x hx => h1 x (by omega))
    have h3 := h1 l (Nat.lt_succ_self l)
    rw [Nat.succ_eq_add_one, sm_s]
    omega
theorem sm_bd {n : Nat} {f v : Nat → Int} {W : Int} (h1 : ∀ x, x < n → 0 ≤ f x) (h2 : ∀ x, x < n → v x ≤ W) : sm n (fun x => f x * v x) ≤ sm n f * W := by
  induction n with
  | zero => show (0 : Int) ≤ 0 * W; omega
  | succ n ih =>
    have h3 := ih (fun x hx => h1 x (by omega)) (fun x hx => h2 x (by omega))
    have h4 := Int.mul_le_mul_of_nonneg_left (h2 n (Nat.lt_succ_self n)) (h1 n (Nat.lt_succ_self n))
    rw [sm_s, sm_s, Int.add_mul]
    omega
/-- the worth of a choice, so far -/
def wo_ok (fo go ab be V : Int → Int) (c o X : Int) : Prop := ∃ x : Nat, o = fo c + x ∧ X = sm x (fun x => hq fo ab be c x * V (go (fo c + x)))
theorem wo_0 {fo go ab be V : Int → Int} {c : Int} : wo_ok fo go ab be V c (fo c) 0 := ⟨0, by omega, rfl⟩
theorem wo_s {fo go ab be V : Int → Int} {c o X Y m : Int} (h : wo_ok fo go ab be V c o X) (hm : m = o + 1) (hY : Y = X + Lq fo be c / bw be (o * 20) * bw ab (o * 20) * V (go o)) : wo_ok fo go ab be V c m Y := by
  obtain ⟨x, rfl, rfl⟩ := h
  exact ⟨x + 1, by omega, hY⟩
theorem wo_s2 {fo go ab be V : Int → Int} {c o X m p l h v : Int} (h0 : wo_ok fo go ab be V c o X) (hp : p = X) (hl : l = Lq fo be c) (hh : h = l / bw be (o * 20) * bw ab (o * 20)) (hv : v = V (go o)) (hm : m = o + 1) : wo_ok fo go ab be V c m (p + h * v) := by
  subst hp
  subst hl
  subst hh
  subst hv
  exact wo_s h0 hm rfl
theorem wo_s3 {fo go ab be V : Int → Int} {c o X m p h v : Int} (h0 : wo_ok fo go ab be V c o X) (hp : p = X) (hh : h = Lq fo be c / bw be (o * 20) * bw ab (o * 20)) (hv : v = V (go o)) (hm : m = o + 1) : wo_ok fo go ab be V c m (p + h * v) := wo_s2 h0 hp rfl hh hv hm
theorem wo_h {fo ab be : Int → Int} {c o l h : Int} (hh : h = l / bw be (o * 20) * bw ab (o * 20)) (hl : l = Lq fo be c) : h = Lq fo be c / bw be (o * 20) * bw ab (o * 20) := by rw [hh, hl]
theorem wo_e {fo go ab be V : Int → Int} {c o X : Int} (h : wo_ok fo go ab be V c o X) (ho : o = fo (c + 1)) : X = sm (nq fo c) (fun x => hq fo ab be c x * V (go (fo c + x))) := by
  obtain ⟨x, h1, h2⟩ := h
  rw [h2]
  have e : x = nq fo c := by unfold nq; omega
  rw [e]
theorem wo_b {fo go ab be V : Int → Int} {n c o X : Int} (h : wo_ok fo go ab be V c o X) (hc : ch_ok fo go ab be n c) (h1 : o < fo (c + 1)) (hV : ∀ t : Int, 0 ≤ t → t < n → 0 ≤ V t ∧ V t < wB 151) : 0 ≤ Lq fo be c / bw be (o * 20) * bw ab (o * 20) ∧ Lq fo be c / bw be (o * 20) * bw ab (o * 20) < wB 6 ∧ V (go o) < wB 151 ∧ X + Lq fo be c / bw be (o * 20) * bw ab (o * 20) * V (go o) < wB 157 := by
  obtain ⟨x, rfl, rfl⟩ := h
  have hx : x < nq fo c := by unfold nq; omega
  have a1 := ch_h hc hx
  have a2 := ch_s hc
  have a3 := sm_ge (f := hq fo ab be c) hx (fun y hy => ch_h hc hy)
  have a4 := ch_L hc
  have a5 := ch_o hc (o := fo c + x) (by omega) h1
  have a6 := hV _ a5.1 a5.2.1
  have a7 := sm_bd (n := x + 1) (f := hq fo ab be c) (v := fun y => V (go (fo c + y))) (W := wB 151) (fun y hy => ch_h hc (by omega)) (fun y hy => by
    have b1 := ch_o hc (o := fo c + y) (by omega) (by unfold nq at hx; omega)
    have := hV _ b1.1 b1.2.1
    omega)
  have a8 := sm_mono (k := x + 1) (n := nq fo c) (f := hq fo ab be c) (by omega) (fun y hy => ch_h hc hy)
  rw [a2] at a8 a3
  have a9 := Int.mul_le_mul_of_nonneg_right a8 (Int.le_of_lt (wB_pos (m := 151)))
  have a10 : Lq fo be c * wB 151 < wB 6 * wB 151 := Int.mul_lt_mul_of_pos_right a4.2 wB_pos
  have e : wB 157 = wB 6 * wB 151 := Int.pow_add _ 6 151
  rw [sm_s] at a7
  refine ⟨a1, Int.lt_of_le_of_lt a3 a4.2, a6.2, ?_⟩
  rw [e]
  refine Int.lt_of_le_of_lt (Int.le_trans ?_ a9) a10
  exact a7
theorem wo_p {fo go ab be V : Int → Int} {n c o X : Int} (h : wo_ok fo go ab be V c o X) (hc : ch_ok fo go ab be n c) (h1 : o ≤ fo (c + 1)) (hV : ∀ t : Int, 0 ≤ t → t < n → 0 ≤ V t ∧ V t < wB 151) : 0 ≤ X := by
  obtain ⟨x, rfl, rfl⟩ := h
  exact sm_nn (fun y hy => by
    have b0 : y < nq fo c := by unfold nq; omega
    have b1 := ch_o hc (o := fo c + y) (by omega) (by unfold nq at b0; omega)
    exact Int.mul_nonneg (ch_h hc b0) (hV _ b1.1 b1.2.1).1)
/-- all numbers but some of the scratch ones are as they were -/
def sg (va vb : Int → Int) : Prop := ∃ _ : Unit, ∀ k : Int, (k < 775 ∨ (782 < k ∧ k < 785) ∨ 787 < k) → vb k = va k
theorem sg_0 {va : Int → Int} : sg va va := ⟨(), fun _ _ => rfl⟩
theorem sg_u {va vb : Int → Int} {k y : Int} (h : sg va vb) (hk : (775 ≤ k ∧ k ≤ 782) ∨ (785 ≤ k ∧ k ≤ 787)) : sg va (hw_up vb k y) := h.elim fun _ h => ⟨(), fun q h1 => (hw_up_n (by omega)).trans (h q h1)⟩
theorem sg_e {va vb : Int → Int} {k : Int} (h : sg va vb) (h1 : k < 775 ∨ (782 < k ∧ k < 785) ∨ 787 < k) : vb k = va k := h.elim fun _ h => h k h1
theorem sg_f {p q : Int} {va vb vc : Int → Int} (h1 : fr p q vb vc) (h : sg va vb) (hp : 775 ≤ p) (hq : q ≤ 782) : sg va vc := h.elim fun _ h => h1.elim fun _ h1 => ⟨(), fun k hk => (h1 k (by omega)).trans (h k hk)⟩
/-- values in their bounds -/
def vl_ok (va : Int → Int) (k n : Int) : Prop := ∃ _ : Unit, ∀ t : Int, 0 ≤ t → t < n → va (k * 24 + t) < wB 151
theorem vl_V {p : Int → Int} {q : Int → Int → Int} {va : Int → Int} {k n : Int} (hv : wa_all p q va) (h : vl_ok va k n) : ∀ t : Int, 0 ≤ t → t < n → 0 ≤ (fun t => va (k * 24 + t)) t ∧ (fun t => va (k * 24 + t)) t < wB 151 := h.elim fun _ h => fun t h0 h1 => ⟨wa_nn hv _, h t h0 h1⟩
theorem m_sumOf (hU : hw_U (hm_T kof own)) {va : Int → Int} {k c ns : Int} (hv : wa_all z_nn z_dg va) (hk : 0 ≤ k ∧ k ≤ 1) (hc : ch_ok z_m_firstOutcome z_m_goesTo z_m_above z_m_below ns c) (hn : ns ≤ 24) (hl : vl_ok va k ns) (hK : ∀ (u : Int → Int) (g : Int → Int → Int) (vb : Int → Int), wa_all u g vb → sg va vb → vb 786 = Lq z_m_firstOutcome z_m_below c → vb 785 = sm (nq z_m_firstOutcome c) (fun x => hq z_m_firstOutcome z_m_above z_m_below c x * va (k * 24 + z_m_goesTo (z_m_firstOutcome c + x))) → K none ([z_m_err, z_m_fed, z_m_wrong, z_m_letters, z_m_there, z_m_kind, z_m_word, z_m_from, z_m_to, z_m_tokens, z_m_names, z_m_vars, z_m_modules, z_m_commands, z_m_actions, z_m_target, z_m_phase, z_m_codes, z_m_deep, z_m_bool, z_m_broken, z_m_explored, z_m_states, z_m_choices, z_m_outcomes, z_m_problem], [z_m_text, z_m_nameFrom, z_m_nameSize, z_m_nameKind, z_m_nameValue, z_m_actionFrom, z_m_actionSize, z_m_commandModule, z_m_commandAction, z_m_guard, z_m_updates, z_m_over, z_m_under, z_m_setTo, z_m_code, z_m_firstChoice, z_m_firstOutcome, z_m_goesTo, z_m_taken, z_m_step, z_m_chosen, z_m_isTarget, z_m_holds, z_m_above, z_m_below, z_m_solved, z_m_known, z_m_zero, z_m_policy, z_m_unknown, z_m_index, z_m_got, z_m_set, z_m_stack, z_m_now, z_m_next, z_m_value, z_m_octets, z_m_varModule, z_m_low, z_m_high, z_m_first, z_m_isBool], [u], [g])) : hw_C pg_G pg_TT scr (hm_T kof own) (d + 6) 268 [hw_R 2 0, hw_I k, hw_I c] ([z_m_err, z_m_fed, z_m_wrong, z_m_letters, z_m_there, z_m_kind, z_m_word, z_m_from, z_m_to, z_m_tokens, z_m_names, z_m_vars, z_m_modules, z_m_commands, z_m_actions, z_m_target, z_m_phase, z_m_codes, z_m_deep, z_m_bool, z_m_broken, z_m_explored, z_m_states, z_m_choices, z_m_outcomes, z_m_problem], [z_m_text, z_m_nameFrom, z_m_nameSize, z_m_nameKind, z_m_nameValue, z_m_actionFrom, z_m_actionSize, z_m_commandModule, z_m_commandAction, z_m_guard, z_m_updates, z_m_over, z_m_under, z_m_setTo, z_m_code, z_m_firstChoice, z_m_firstOutcome, z_m_goesTo, z_m_taken, z_m_step, z_m_chosen, z_m_isTarget, z_m_holds, z_m_above, z_m_below, z_m_solved, z_m_known, z_m_zero, z_m_policy, z_m_unknown, z_m_index, z_m_got, z_m_set, z_m_stack, z_m_now, z_m_next, z_m_value, z_m_octets, z_m_varModule, z_m_low, z_m_high, z_m_first, z_m_isBool], [z_nn], [z_dg]) K E := by
  refine hw_meth hU hv_DG ⟨rfl, rfl⟩ (fun w X hs hX hF => ?_)
  have r775 : hm_rm 775 = 1300 := by decide
  have r777 : hm_rm 777 = 1300 := by decide
  have r779 : hm_rm 779 = 1300 := by decide
  have r782 : hm_rm 782 = 300 := by decide
  have r785 : hm_rm 785 = 600 := by decide
  have r786 : hm_rm 786 = 300 := by decide
  have r787 : hm_rm 787 = 900 := by decide
  have hV := vl_V hv hl
  have cc := ch_c hc
  have cf := ch_fo hc
  have cl := ch_L hc
  have wb1 := wB_le (show 6 ≤ 151 by omega)
  have cuts : ∀ n : Nat, (∀ (o : Int) (u : Int → Int) (g : Int → Int → Int) (vb : Int → Int), wa_all u g vb → sg va vb → z_m_firstOutcome c ≤ o → o ≤ z_m_firstOutcome (c + 1) → (o < z_m_firstOutcome (c + 1) → 0 ≤ z_m_goesTo o ∧ z_m_goesTo o < ns) → vb 782 = Lq z_m_firstOutcome z_m_below c → vb 786 = Lq z_m_firstOutcome z_m_below c → wo_ok z_m_firstOutcome z_m_goesTo z_m_above z_m_below (fun t => va (k * 24 + t)) c o (vb 785) → (3200 - o).toNat < n → w (31, [some (hw_R 2 0), some (hw_I (k)), some (hw_I (c)), some (hw_I (o))], [], ([z_m_err, z_m_fed, z_m_wrong, z_m_letters, z_m_there, z_m_kind, z_m_word, z_m_from, z_m_to, z_m_tokens, z_m_names, z_m_vars, z_m_modules, z_m_commands, z_m_actions, z_m_target, z_m_phase, z_m_codes, z_m_deep, z_m_bool, z_m_broken, z_m_explored, z_m_states, z_m_choices, z_m_outcomes, z_m_problem], [z_m_text, z_m_nameFrom, z_m_nameSize, z_m_nameKind, z_m_nameValue, z_m_actionFrom, z_m_actionSize, z_m_commandModule, z_m_commandAction, z_m_guard, z_m_updates, z_m_over, z_m_under, z_m_setTo, z_m_code, z_m_firstChoice, z_m_firstOutcome, z_m_goesTo, z_m_taken, z_m_step, z_m_chosen, z_m_isTarget, z_m_holds, z_m_above, z_m_below, z_m_solved, z_m_known, z_m_zero, z_m_policy, z_m_unknown, z_m_index, z_m_got, z_m_set, z_m_stack, z_m_now, z_m_next, z_m_value, z_m_octets, z_m_varModule, z_m_low, z_m_high, z_m_first, z_m_isBool], [u], [g]))) := by
    intro n
    induction n with
    | zero =>
      repeat' (first | refine And.intro ?_ ?_ | intro _)
      all_goals omega
    | succ n ih =>
      intro o u g vb
      intros
      refine hs [] _ rfl ?_
      conv => whnf
      repeat' (first | refine hw_ex32 ⟨by omega, by omega⟩ ?_ | (intro h; exact absurd h (by decide)) | intro _ | refine And.intro ?_ ?_ | (refine hs [31] _ rfl ?_; conv => whnf) | (refine ih _ _ _ _ (by first | with_reducible assumption | with_reducible exact wa_z (by with_reducible assumption)) ?_ ?_ ?_ ?_ ?_ ?_ ?_ ?_) | (refine hK _ _ _ (by with_reducible assumption) ?_ ?_ ?_) | (apply hX; refine m_baseOf hU (by with_reducible assumption) ?_ ?_ ?_ ?_ ?_ ?_) | (apply hX; refine v_copy hU (m := 6) (by with_reducible assumption) ?_ ?_ ?_ ?_) | (apply hX; refine m_chanceOf hU (by with_reducible assumption) ?_ ?_ ?_ ?_) | (apply hX; refine v_times hU (m1 := 6) (m2 := 151) (by with_reducible assumption) ?_ ?_ ?_ ?_ ?_ ?_) | (apply hX; refine v_add hU (m := 157) (by with_reducible assumption) ?_ ?_ ?_ ?_))
      (all_goals clear ih); all_goals (first | with_reducible exact Nat.lt_succ_self _ | with_reducible assumption | omega | ((repeat' (first | with_reducible assumption | exact sg_0 | refine sg_u ?_ (by omega) | (refine sg_f (by with_reducible assumption) ?_ (by omega) (by omega)))); done) | with_reducible exact ch_l hc | with_reducible exact (ch_o hc (by omega) (by omega)).1 | with_reducible exact (ch_o hc (by omega) (by omega)).2.1 | with_reducible exact (ch_o hc (by omega) (by omega)).2.2 | (clear hs hX hF hK; (try simp only [hw_up_e, Int.reduceEq, reduceIte, Int.zero_add] at *); first | omega | with_reducible assumption | with_reducible exact wo_0 | with_reducible exact wa_z (by with_reducible assumption)) | (clear hs hX hF hK; unfold Lq at *; (try simp only [hw_up_e, Int.reduceEq, reduceIte, Int.zero_add] at *); first | omega | with_reducible assumption) | (with_reducible exact wo_e (V := fun t => va (k * 24 + t)) (by with_reducible assumption) (by omega)) | (clear hs hX hF hK; have F := wo_b (V := fun t => va (k * 24 + t)) (by with_reducible assumption) hc (by omega) hV; have F2 := wo_p (V := fun t => va (k * 24 + t)) (by with_reducible assumption) hc (by omega) hV; have G := ch_o hc (o := o) (by omega) (by omega); have c1 : ¬ k * 24 + z_m_goesTo o = 779 := (by omega); first | omega | (have e1 := fr_e (k := 782) (by with_reducible assumption) (by omega); have e2 := fr_e (k := 785) (by with_reducible assumption) (by omega); have e3 := fr_e (k := 786) (by with_reducible assumption) (by omega); have e4 := fr_e (k := k * 24 + z_m_goesTo o) (by with_reducible assumption) (by omega); have e5 := sg_e (k := k * 24 + z_m_goesTo o) (by with_reducible assumption) (by omega); have e6 := wo_h (fo := z_m_firstOutcome) (c := c) (by with_reducible assumption) (by with_reducible assumption); (try simp only [hw_up_e, Int.reduceEq, reduceIte, Int.zero_add] at *); first | omega | with_reducible assumption | with_reducible exact wo_s3 (by with_reducible assumption) e2 e6 (e4.trans e5) (by omega) | (rw [e2, e4, e5, e6]; omega))) | (clear hs hX hF hK; fail))
  repeat' (first | refine hw_ex32 ⟨by omega, by omega⟩ ?_ | (intro h; exact absurd h (by decide)) | intro _ | refine And.intro ?_ ?_ | (refine hs [31] _ rfl ?_; conv => whnf) | (refine (cuts 1000000000000) _ _ _ _ (by first | with_reducible assumption | with_reducible exact wa_z (by with_reducible assumption)) ?_ ?_ ?_ ?_ ?_ ?_ ?_ ?_) | (refine hK _ _ _ (by with_reducible assumption) ?_ ?_ ?_) | (apply hX; refine m_baseOf hU (by with_reducible assumption) ?_ ?_ ?_ ?_ ?_ ?_) | (apply hX; refine v_copy hU (m := 6) (by with_reducible assumption) ?_ ?_ ?_ ?_) | (apply hX; refine m_chanceOf hU (by with_reducible assumption) ?_ ?_ ?_ ?_) | (apply hX; refine v_times hU (m1 := 6) (m2 := 151) (by with_reducible assumption) ?_ ?_ ?_ ?_ ?_ ?_) | (apply hX; refine v_add hU (m := 157) (by with_reducible assumption) ?_ ?_ ?_ ?_))
  all_goals (first | with_reducible exact Nat.lt_succ_self _ | with_reducible assumption | omega | ((repeat' (first | with_reducible assumption | exact sg_0 | refine sg_u ?_ (by omega) | (refine sg_f (by with_reducible assumption) ?_ (by omega) (by omega)))); done) | with_reducible exact ch_l hc | with_reducible exact (ch_o hc (by omega) (by omega)).1 | with_reducible exact (ch_o hc (by omega) (by omega)).2.1 | with_reducible exact (ch_o hc (by omega) (by omega)).2.2 | (clear hs hX hF hK; (try simp only [hw_up_e, Int.reduceEq, reduceIte, Int.zero_add] at *); first | omega | with_reducible assumption | with_reducible exact wo_0 | with_reducible exact wa_z (by with_reducible assumption)) | (clear hs hX hF hK; unfold Lq at *; (try simp only [hw_up_e, Int.reduceEq, reduceIte, Int.zero_add] at *); first | omega | with_reducible assumption) | (with_reducible exact wo_e (V := fun t => va (k * 24 + t)) (by with_reducible assumption) (by omega)) | (clear hs hX hF hK; have F := wo_b (V := fun t => va (k * 24 + t)) (by with_reducible assumption) hc (by omega) hV; have F2 := wo_p (V := fun t => va (k * 24 + t)) (by with_reducible assumption) hc (by omega) hV; have G := ch_o hc (o := o) (by omega) (by omega); have c1 : ¬ k * 24 + z_m_goesTo o = 779 := (by omega); first | omega | (have e1 := fr_e (k := 782) (by with_reducible assumption) (by omega); have e2 := fr_e (k := 785) (by with_reducible assumption) (by omega); have e3 := fr_e (k := 786) (by with_reducible assumption) (by omega); have e4 := fr_e (k := k * 24 + z_m_goesTo o) (by with_reducible assumption) (by omega); have e5 := sg_e (k := k * 24 + z_m_goesTo o) (by with_reducible assumption) (by omega); have e6 := wo_h (fo := z_m_firstOutcome) (c := c) (by with_reducible assumption) (by with_reducible assumption); (try simp only [hw_up_e, Int.reduceEq, reduceIte, Int.zero_add] at *); first | omega | with_reducible assumption | with_reducible exact wo_s3 (by with_reducible assumption) e2 e6 (e4.trans e5) (by omega) | (rw [e2, e4, e5, e6]; omega))) | (clear hs hX hF hK; fail))
end C5g
