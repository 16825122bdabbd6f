/-! the model: the worth of a choice once more -/
section C5q
variable {scr : Nat × (Nat → Int32)} {d : Nat} {K : Option hw_V → hw_Z → Prop} {E : Nat → hw_Z → Prop} {Z : hw_Z} {kof : Nat → Nat × Int} {own : Nat → Prop} {z_m_err z_m_fed z_m_wrong z_m_letters z_m_there z_m_kind z_m_word z_m_from z_m_to z_m_tokens z_m_names z_m_vars z_m_modules z_m_commands z_m_actions z_m_target z_m_phase z_m_codes z_m_deep z_m_bool z_m_broken z_m_explored z_m_states z_m_choices z_m_outcomes z_m_problem : Int} {z_m_text z_m_nameFrom z_m_nameSize z_m_nameKind z_m_nameValue z_m_actionFrom z_m_actionSize z_m_commandModule z_m_commandAction z_m_guard z_m_updates z_m_over z_m_under z_m_setTo z_m_code z_m_firstChoice z_m_firstOutcome z_m_goesTo z_m_taken z_m_step z_m_chosen z_m_isTarget z_m_holds z_m_above z_m_below z_m_solved z_m_known z_m_zero z_m_policy z_m_unknown z_m_index z_m_got z_m_set z_m_stack z_m_now z_m_next z_m_value z_m_octets z_m_varModule z_m_low z_m_high z_m_first z_m_isBool z_nn : Int → Int} {z_dg : Int → Int → Int}
theorem wS_b {fo go ab be vb : Int → Int} {k ns c : Int} (hc : ch_ok fo go ab be ns c) (hl : vl_ok vb k ns) : wS fo go ab be k vb c < wB 157 := by
  have a4 := ch_L hc
  have a7 := sm_bd (n := nq fo c) (f := hq fo ab be c) (v := fun y => vb (k * 24 + go (fo c + y))) (W := wB 151) (fun y hy => ch_h hc hy) (fun y hy => by
    have h1 := hc.elim fun _ h => (h.2.2.2.1 y hy).1
    have := hl.elim fun _ hl => hl _ h1.1 h1.2
    omega)
  rw [ch_s hc] at a7
  have a10 : Lq fo be c * wB 151 < wB 6 * wB 151 := Int.mul_lt_mul_of_pos_right a4.2 wB_pos
  have e : wB 157 = wB 6 * wB 151 := Int.pow_add _ 6 151
  rw [e]
  exact Int.lt_of_le_of_lt a7 a10
theorem m_worth (hU : hw_U (hm_T kof own)) {va : Int → Int} {k c ns : Int} (hv : wa_all z_nn z_dg va) (hk : 0 ≤ k ∧ k ≤ 1) (hc : ch_ok z_m_firstOutcome z_m_goesTo z_m_above z_m_below ns c) (hn : ns ≤ 24) (hl : vl_ok va k ns) (hK : ∀ (u : Int → Int) (g : Int → Int → Int) (vb : Int → Int), wa_all u g vb → sg va vb → vb 786 = Lq z_m_firstOutcome z_m_below c → vb 785 = wS z_m_firstOutcome z_m_goesTo z_m_above z_m_below k vb c → vb 785 < wB 157 → K none ([z_m_err, z_m_fed, z_m_wrong, z_m_letters, z_m_there, z_m_kind, z_m_word, z_m_from, z_m_to, z_m_tokens, z_m_names, z_m_vars, z_m_modules, z_m_commands, z_m_actions, z_m_target, z_m_phase, z_m_codes, z_m_deep, z_m_bool, z_m_broken, z_m_explored, z_m_states, z_m_choices, z_m_outcomes, z_m_problem], [z_m_text, z_m_nameFrom, z_m_nameSize, z_m_nameKind, z_m_nameValue, z_m_actionFrom, z_m_actionSize, z_m_commandModule, z_m_commandAction, z_m_guard, z_m_updates, z_m_over, z_m_under, z_m_setTo, z_m_code, z_m_firstChoice, z_m_firstOutcome, z_m_goesTo, z_m_taken, z_m_step, z_m_chosen, z_m_isTarget, z_m_holds, z_m_above, z_m_below, z_m_solved, z_m_known, z_m_zero, z_m_policy, z_m_unknown, z_m_index, z_m_got, z_m_set, z_m_stack, z_m_now, z_m_next, z_m_value, z_m_octets, z_m_varModule, z_m_low, z_m_high, z_m_first, z_m_isBool], [u], [g])) : hw_C pg_G pg_TT scr (hm_T kof own) (d + 6) 268 [hw_R 2 0, hw_I k, hw_I c] ([z_m_err, z_m_fed, z_m_wrong, z_m_letters, z_m_there, z_m_kind, z_m_word, z_m_from, z_m_to, z_m_tokens, z_m_names, z_m_vars, z_m_modules, z_m_commands, z_m_actions, z_m_target, z_m_phase, z_m_codes, z_m_deep, z_m_bool, z_m_broken, z_m_explored, z_m_states, z_m_choices, z_m_outcomes, z_m_problem], [z_m_text, z_m_nameFrom, z_m_nameSize, z_m_nameKind, z_m_nameValue, z_m_actionFrom, z_m_actionSize, z_m_commandModule, z_m_commandAction, z_m_guard, z_m_updates, z_m_over, z_m_under, z_m_setTo, z_m_code, z_m_firstChoice, z_m_firstOutcome, z_m_goesTo, z_m_taken, z_m_step, z_m_chosen, z_m_isTarget, z_m_holds, z_m_above, z_m_below, z_m_solved, z_m_known, z_m_zero, z_m_policy, z_m_unknown, z_m_index, z_m_got, z_m_set, z_m_stack, z_m_now, z_m_next, z_m_value, z_m_octets, z_m_varModule, z_m_low, z_m_high, z_m_first, z_m_isBool], [z_nn], [z_dg]) K E :=
  m_sumOf hU hv hk hc hn hl (fun u g vb h1 h2 h3 h4 => by
    have e : wS z_m_firstOutcome z_m_goesTo z_m_above z_m_below k vb c = wS z_m_firstOutcome z_m_goesTo z_m_above z_m_below k va c := wS_k hc (fun t q1 q2 => sg_e h2 (by omega))
    have e2 : vb 785 = wS z_m_firstOutcome z_m_goesTo z_m_above z_m_below k va c := h4
    refine hK u g vb h1 h2 h3 (e2.trans e.symm) ?_
    rw [e2]
    exact wS_b hc hl)
/-- what stays while a policy is found -/
def ff (va vb : Int → Int) (k : Int) : Prop := ∃ _ : Unit, ∀ q : Int, ¬ (k * 24 ≤ q ∧ q < k * 24 + 24) → ¬ q = 48 + k → ¬ (50 ≤ q ∧ q < 674) → ¬ (775 ≤ q ∧ q ≤ 789) → vb q = va q
theorem ff_0 {va : Int → Int} {k : Int} : ff va va k := ⟨(), fun _ _ _ _ _ => rfl⟩
theorem ff_u {va vb : Int → Int} {k p y : Int} (h : ff va vb k) (hp : 775 ≤ p ∧ p ≤ 789) : ff va (hw_up vb p y) k := h.elim fun _ h => ⟨(), fun q h1 h2 h3 h4 => (hw_up_n (by omega)).trans (h q h1 h2 h3 h4)⟩
theorem ff_v {va vb vc : Int → Int} {k : Int} (hf : vf vb vc k) (h : ff va vb k) : ff va vc k := h.elim fun _ h => ⟨(), fun q h1 h2 h3 h4 => (vf_e hf h1 h2 h3 (by omega) (by omega)).trans (h q h1 h2 h3 h4)⟩
theorem ff_g {va vb vc : Int → Int} {k : Int} (hf : sg vb vc) (h : ff va vb k) : ff va vc k := h.elim fun _ h => ⟨(), fun q h1 h2 h3 h4 => (sg_e hf (by omega)).trans (h q h1 h2 h3 h4)⟩
/-- the best choice so far -/
def bb_ok (fo go ab be : Int → Int) (k x : Int) (vb : Int → Int) (s bt b : Int) : Prop := ∃ _ : Unit, vb 783 = wS fo go ab be k vb bt ∧ vb 784 = Lq fo be bt ∧ 0 ≤ x * (wS fo go ab be k vb bt - Lq fo be bt * vb (k * 24 + s)) ∧ (b = 1 → 0 < x * (wS fo go ab be k vb bt - Lq fo be bt * vb (k * 24 + s)))
theorem bb_k {fo go ab be va vb : Int → Int} {k x s bt b ns : Int} (h : bb_ok fo go ab be k x va s bt b) (hc : ch_ok fo go ab be ns bt) (hk : 0 ≤ k ∧ k ≤ 1) (hs : 0 ≤ s ∧ s < ns) (hn : ns ≤ 24) (hq : ∀ q : Int, (0 ≤ q ∧ q < 50) ∨ q = 783 ∨ q = 784 → vb q = va q) : bb_ok fo go ab be k x vb s bt b := h.elim fun _ h => by
  have e : wS fo go ab be k vb bt = wS fo go ab be k va bt := wS_k hc (fun t h1 h2 => hq _ (by omega))
  refine ⟨(), ?_, ?_, ?_, fun e2 => ?_⟩
  · rw [hq 783 (by omega), e]; exact h.1
  · rw [hq 784 (by omega)]; exact h.2.1
  · rw [e, hq _ (by omega)]; exact h.2.2.1
  · rw [e, hq _ (by omega)]; exact h.2.2.2 e2
theorem bb_u {fo go ab be va : Int → Int} {k x s bt b ns p y : Int} (hc : ch_ok fo go ab be ns bt) (hp : 50 ≤ p ∧ ¬ p = 783 ∧ ¬ p = 784) (hk : 0 ≤ k ∧ k ≤ 1) (hs : 0 ≤ s ∧ s < ns) (hn : ns ≤ 24) (h : bb_ok fo go ab be k x va s bt b) : bb_ok fo go ab be k x (hw_up va p y) s bt b := bb_k h hc hk hs hn (fun q hq => hw_up_n (by omega))
theorem bb_g {fo go ab be va vb : Int → Int} {k x s bt b ns : Int} (hc : ch_ok fo go ab be ns bt) (hg : sg va vb) (hk : 0 ≤ k ∧ k ≤ 1) (hs : 0 ≤ s ∧ s < ns) (hn : ns ≤ 24) (h : bb_ok fo go ab be k x va s bt b) : bb_ok fo go ab be k x vb s bt b := bb_k h hc hk hs hn (fun q hq => sg_e hg (by omega))
theorem bb_0 {fo go ab be fc tg ze po va vb : Int → Int} {k x s bt b h cnt ns y z : Int} (hs : sv_ok fo go ab be fc tg ze k ns x po va s h cnt) (hg : sg va vb) (h6 : vb 786 = Lq fo be bt) (h5 : vb 785 = wS fo go ab be k vb bt) (hb : bt = fc s + po (k * 24 + s)) (hm : mo_ok fo go ab be fc ns) (hk : 0 ≤ k ∧ k ≤ 1) (hs1 : 0 ≤ s ∧ s < ns) (h1 : tg s = 0) (h2 : ze (k * 24 + s) = 0) (hb0 : b = 0) (hy : y = vb 785) (hz : z = vb 786) : bb_ok fo go ab be k x (hw_up (hw_up vb 783 y) 784 z) s bt b := by
  subst hb
  have hn := mo_n hm
  have q1 := po_e (sv_po hs) hs1.1 hs1.2
  have hc := mo_c hm (c := fc s + po (k * 24 + s)) hs1.1 hs1.2 (by omega) (by omega)
  have e : wS fo go ab be k (hw_up (hw_up vb 783 y) 784 z) (fc s + po (k * 24 + s)) = wS fo go ab be k vb (fc s + po (k * 24 + s)) := wS_k hc (fun t h1 h2 => (hw_up_n (by omega)).trans (hw_up_n (by omega)))
  have w := sv_w (sv_g hg hm hk hs) hm hs1 h1 h2
  have e3 : hw_up (hw_up vb 783 y) 784 z (k * 24 + s) = vb (k * 24 + s) := (hw_up_n (by omega)).trans (hw_up_n (by omega))
  refine ⟨(), ?_, ?_, ?_, fun e2 => absurd e2 (by omega)⟩
  · rw [hw_up_n (by decide), hw_up_s, e, hy]; exact h5
  · rw [hw_up_s, hz]; exact h6
  · rw [e, e3, w, Int.sub_self, Int.mul_zero]; exact Int.le_refl _
theorem bb_c {fo go ab be va vb v : Int → Int} {k x s bt b c b2 ns y z : Int} (h : bb_ok fo go ab be k x va s bt b) (hg : sg va vb) (h6 : vb 786 = Lq fo be c) (h5 : vb 785 = wS fo go ab be k vb c) (hx : 0 < x * (vb 785 * vb 784 - vb 783 * vb 786)) (hcb : ch_ok fo go ab be ns bt) (hc : ch_ok fo go ab be ns c) (hk : 0 ≤ k ∧ k ≤ 1) (hs : 0 ≤ s ∧ s < ns) (hn : ns ≤ 24) (hv : ∀ q : Int, 0 ≤ q ∧ q < 50 → v q = vb q) (hy : y = vb 785) (hz : z = vb 786) : bb_ok fo go ab be k x (hw_up (hw_up v 783 y) 784 z) s c b2 := by
  have h0 := bb_g hcb hg hk hs hn h
  refine h0.elim fun _ h0 => ?_
  have e : wS fo go ab be k (hw_up (hw_up v 783 y) 784 z) c = wS fo go ab be k vb c := wS_k hc (fun t h1 h2 => (hw_up_n (by omega)).trans ((hw_up_n (by omega)).trans (hv _ (by omega))))
  have e3 : hw_up (hw_up v 783 y) 784 z (k * 24 + s) = vb (k * 24 + s) := (hw_up_n (by omega)).trans ((hw_up_n (by omega)).trans (hv _ (by omega)))
  have l1 := ch_L hcb
  have l2 := ch_L hc
  rw [h5, h6, h0.1, h0.2.1] at hx
  have st := im_s (x := x) (c := 0) (by omega) (by omega) h0.2.2.1 hx
  refine ⟨(), ?_, ?_, ?_, fun _ => ?_⟩
  · rw [hw_up_n (by decide), hw_up_s, e, hy]; exact h5
  · rw [hw_up_s, hz]; exact h6
  · rw [e, e3]; exact Int.le_of_lt st
  · rw [e, e3]; exact st
theorem bb_v {fo go ab be va : Int → Int} {k x s bt b : Int} (h : bb_ok fo go ab be k x va s bt b) : va 783 = wS fo go ab be k va bt ∧ va 784 = Lq fo be bt ∧ (b = 1 → 0 < x * (wS fo go ab be k va bt - Lq fo be bt * va (k * 24 + s))) := h.elim fun _ h => ⟨h.1, h.2.1, h.2.2.2⟩
theorem pf1_0 {f : Int → Int} : pf1 f f := ⟨(), fun _ _ => rfl⟩
theorem pf0_0 {f : Int → Int} : pf0 f f := ⟨(), fun _ _ => rfl⟩
theorem pf1_u {f g : Int → Int} {q y : Int} (h : pf1 f g) (hq : 24 ≤ q ∧ q < 48) : pf1 (hw_up f q y) g := h.elim fun _ h => ⟨(), fun p hp => (hw_up_n (by omega)).trans (h p hp)⟩
theorem pf0_u {f g : Int → Int} {q y : Int} (h : pf0 f g) (hq : 0 ≤ q ∧ q < 24) : pf0 (hw_up f q y) g := h.elim fun _ h => ⟨(), fun p hp => (hw_up_n (by omega)).trans (h p hp)⟩
theorem hx_0 {fo go ab be fc tg ze : Int → Int} {k n : Int} : hx_ok fo go ab be fc tg ze k n 1 := Or.inl rfl
theorem hx_1 {fo go ab be fc tg ze : Int → Int} {n : Int} (h : ap_ok fo go ab be fc tg ze n) : hx_ok fo go ab be fc tg ze 1 n (-1) := Or.inr ⟨rfl, h.elim fun _ h => h⟩
def kf (kn k0 : Int → Int) (k : Int) : Prop := ∃ _ : Unit, kn k = 1 ∧ ∀ q : Int, ¬ q = k → kn q = k0 q
theorem kf_0 {f : Int → Int} {k : Int} (h : f k = 1) : kf f f k := ⟨(), h, fun _ _ => rfl⟩
theorem kf_u {f : Int → Int} {k : Int} : kf (hw_up f k 1) f k := ⟨(), hw_up_s, fun _ h => hw_up_n h⟩
/-- found already -/
def fo_kn (fo go ab be fc tg ze po : Int → Int) (k n : Int) (va : Int → Int) (kn : Int) : Prop := ∃ _ : Unit, ¬ kn = 0 → po_ok fc po k n ∧ vv_ok fo go ab be fc po tg ze k n va
theorem fo_1 {fo go ab be fc tg ze po va : Int → Int} {k n kn : Int} (h : fo_kn fo go ab be fc tg ze po k n va kn) (hk : ¬ kn = 0) : po_ok fc po k n ∧ vv_ok fo go ab be fc po tg ze k n va := h.elim fun _ h => h hk
end C5q
