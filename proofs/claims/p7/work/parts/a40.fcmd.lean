/-! the class: an action -/
/-- the TOKENS of the actions -/
def acs (t : Int → Int) (n made : Int) (at_ : Int → Int) (a : Int) (A : List Int) : Prop := ∃ _ : Unit, a = A.length ∧ ∀ (i : Nat) (x : Int), A[i]? = some x → at_ i = x ∧ tv_ok t n made x
theorem acs_l {t at_ : Int → Int} {n made a : Int} {A : List Int} (h : acs t n made at_ a A) : a = A.length := h.elim fun _ h => h.1
theorem acs_0 {t at_ : Int → Int} {n made : Int} : acs t n made at_ 0 [] := ⟨(), rfl, fun i x h => by cases h⟩
theorem acs_tv {t at_ : Int → Int} {n made a i : Int} {A : List Int} (h : acs t n made at_ a A) (h0 : 0 ≤ i) (h1 : i < a) : tv_ok t n made (at_ i) := by
  obtain ⟨_, h2, h3⟩ := h
  have l : i.toNat < A.length := by omega
  have q := h3 i.toNat (A[i.toNat]'l) (List.getElem?_eq_getElem l)
  rw [show ((i.toNat : Nat) : Int) = i by omega] at q
  rw [q.1]
  exact q.2
/-- the first i of the actions are not this one -/
def aif (t : Int → Int) (n x i : Int) (A : List Int) : Prop := ∃ _ : Unit, aix t n x A = i + aix t n x (A.drop i.toNat)
theorem aif_0 {t : Int → Int} {n x : Int} {A : List Int} : aif t n x 0 A := ⟨(), by show _ = 0 + aix t n x A; omega⟩
theorem aif_s {t at_ : Int → Int} {n made a x i i' : Int} {A : List Int} (h : aif t n x i A) (hA : acs t n made at_ a A) (h0 : 0 ≤ i) (h1 : i < a) (hn : ¬ smt t n (at_ i) x) (hi : i' = i + 1) : aif t n x i' A := by
  subst hi
  obtain ⟨_, h⟩ := h
  obtain ⟨_, h2, h3⟩ := hA
  have l : i.toNat < A.length := by omega
  have q := h3 i.toNat (A[i.toNat]'l) (List.getElem?_eq_getElem l)
  rw [show ((i.toNat : Nat) : Int) = i by omega] at q
  refine ⟨(), ?_⟩
  rw [h, List.drop_eq_getElem_cons l]
  show i + (@ite _ (smt t n (A[i.toNat]'l) x) (Classical.propDecidable _) 0 (1 + aix t n x (A.drop (i.toNat + 1)))) = _
  rw [← q.1, if_neg hn, show (i + 1).toNat = i.toNat + 1 by omega]
  omega
theorem aif_h {t at_ : Int → Int} {n made a x i : Int} {A : List Int} (h : aif t n x i A) (hA : acs t n made at_ a A) (h0 : 0 ≤ i) (h1 : i < a) (hn : smt t n (at_ i) x) : i = aix t n x A := by
  obtain ⟨_, h⟩ := h
  obtain ⟨_, h2, h3⟩ := hA
  have l : i.toNat < A.length := by omega
  have q := h3 i.toNat (A[i.toNat]'l) (List.getElem?_eq_getElem l)
  rw [show ((i.toNat : Nat) : Int) = i by omega] at q
  rw [h, List.drop_eq_getElem_cons l]
  show i = i + (@ite _ (smt t n (A[i.toNat]'l) x) (Classical.propDecidable _) 0 (1 + aix t n x (A.drop (i.toNat + 1))))
  rw [← q.1, if_pos hn]
  omega
theorem aif_e {t at_ : Int → Int} {n made a x i : Int} {A : List Int} (h : aif t n x i A) (hA : acs t n made at_ a A) (hi : a ≤ i) : aix t n x A = a := by
  have b := (aix_b (t := t) (n := n) (j := x) A).2
  have e := acs_l hA
  obtain ⟨_, h⟩ := h
  rw [List.drop_eq_nil_of_le (by omega)] at h
  have h : aix t n x A = i + 0 := h
  omega
theorem acs_s {t at_ : Int → Int} {n made a a' x : Int} {A : List Int} (hA : acs t n made at_ a A) (hx : tv_ok t n made x) (hi : aix t n x A = a) (ha : a' = a + 1) : acs t n made (hw_up at_ a x) a' (aadd A (aix t n x A) x) := by
  subst ha
  obtain ⟨_, h2, h3⟩ := hA
  unfold aadd
  rw [hi, if_neg (by omega)]
  refine ⟨(), by rw [len_s]; omega, fun i y hy => ?_⟩
  by_cases e : i < A.length
  · rw [List.getElem?_append_left e] at hy
    rw [hw_up_n (by omega)]
    exact h3 i y hy
  · have l := (List.getElem?_eq_some_iff.mp hy).1
    rw [List.length_append] at l
    have l : i < A.length + 1 := l
    have e2 : i = A.length := by omega
    subst e2
    rw [List.getElem?_append_right (Nat.le_refl _), Nat.sub_self] at hy
    injection hy with hy
    subst hy
    rw [← h2, hw_up_s]
    exact ⟨rfl, hx⟩
theorem acs_k {t at_ : Int → Int} {n made a x i : Int} {A : List Int} (hA : acs t n made at_ a A) (hi : i = aix t n x A) (h1 : i < a) : acs t n made at_ a (aadd A (aix t n x A) x) := by
  have e := acs_l hA
  unfold aadd
  rw [← hi, if_pos (by omega)]
  exact hA
section CH40
variable {scr : Nat × (Nat → Int32)} {d : Nat} {K : Option hw_V → hw_Z → Prop} {E : Nat → hw_Z → Prop} {Z : hw_Z} {kof : Nat → Nat × Int} {own : Nat → Prop} {z_used z_broken z_fed z_textEnd z_made z_mready z_modules z_actions z_target z_variables z_commands z_updates z_steps z_waiting z_nested z_type z_wantsOperand z_variablesKnown z_names z_ownFrom z_at z_wrongAt z_parties z_states z_choices z_outcomes z_sready z_many : Int} {z_fc z_role z_holds z_fu z_taken z_fo z_home z_row z_fout z_offer z_oc z_tk z_pl z_ln z_nm z_op z_wi z_st z_ty z_lo z_hi z_bg z_nt z_wk z_wr z_wt z_wj z_be z_to z_fs z_sv z_gu z_ac z_scd z_atk z_rws z_nx z_tg z_en z_rch z_size z_policies z_found z_told : Int → Int} {z_policy : Int → Int → Int}
theorem x_actionOf (hU : hw_U (hv_T kof own)) {x : Int} {A : List Int} (hrd : rdr_ok z_oc z_textEnd z_made z_at z_tk z_pl z_ln z_nm) (hx : tv_ok z_oc z_textEnd z_made x) (hA : acs z_oc z_textEnd z_made z_atk z_actions A) (ha : z_actions ≤ 39) (hK : ∀ (r v_a : Int) (v_atk : Int → Int), r = aix z_oc z_textEnd x A → acs z_oc z_textEnd z_made v_atk v_a (aadd A (aix z_oc z_textEnd x A) x) → v_a ≤ z_actions + 1 → K (some (hw_I r)) ([z_used, z_broken, z_fed, z_textEnd, z_made, z_mready, z_modules, v_a, z_target, z_variables, z_commands, z_updates, z_steps, z_waiting, z_nested, z_type, z_wantsOperand, z_variablesKnown, z_names, z_ownFrom, z_at, z_wrongAt, z_parties, z_states, z_choices, z_outcomes, z_sready, z_many], [z_fc, z_role, z_holds, z_fu, z_taken, z_fo, z_home, z_row, z_fout, z_offer, z_oc, z_tk, z_pl, z_ln, z_nm, z_op, z_wi, z_st, z_ty, z_lo, z_hi, z_bg, z_nt, z_wk, z_wr, z_wt, z_wj, z_be, z_to, z_fs, z_sv, z_gu, z_ac, z_scd, v_atk, z_rws, z_nx, z_tg, z_en, z_rch], [z_size, z_policies, z_found, z_told], [z_policy])) : hw_C pg_G pg_TT scr (hv_T kof own) (d + 2) 89 [hw_R 27 0, hw_I x] ([z_used, z_broken, z_fed, z_textEnd, z_made, z_mready, z_modules, z_actions, z_target, z_variables, z_commands, z_updates, z_steps, z_waiting, z_nested, z_type, z_wantsOperand, z_variablesKnown, z_names, z_ownFrom, z_at, z_wrongAt, z_parties, z_states, z_choices, z_outcomes, z_sready, z_many], [z_fc, z_role, z_holds, z_fu, z_taken, z_fo, z_home, z_row, z_fout, z_offer, z_oc, z_tk, z_pl, z_ln, z_nm, z_op, z_wi, z_st, z_ty, z_lo, z_hi, z_bg, z_nt, z_wk, z_wr, z_wt, z_wj, z_be, z_to, z_fs, z_sv, z_gu, z_ac, z_scd, z_atk, z_rws, z_nx, z_tg, z_en, z_rch], [z_size, z_policies, z_found, z_told], [z_policy]) K E := by
  refine hw_meth hU hv_DG ⟨rfl, rfl⟩ (fun w X hs hX hF => ?_)
  have hal := acs_l hA
  have cuts : ∀ n : Nat, (∀ (i : Int), 0 ≤ i → aif z_oc z_textEnd x i A → (z_actions - i).toNat < n → w (2, [some (hw_R 27 0), some (hw_I (x)), some (hw_I (i))], [], ([z_used, z_broken, z_fed, z_textEnd, z_made, z_mready, z_modules, z_actions, z_target, z_variables, z_commands, z_updates, z_steps, z_waiting, z_nested, z_type, z_wantsOperand, z_variablesKnown, z_names, z_ownFrom, z_at, z_wrongAt, z_parties, z_states, z_choices, z_outcomes, z_sready, z_many], [z_fc, z_role, z_holds, z_fu, z_taken, z_fo, z_home, z_row, z_fout, z_offer, z_oc, z_tk, z_pl, z_ln, z_nm, z_op, z_wi, z_st, z_ty, z_lo, z_hi, z_bg, z_nt, z_wk, z_wr, z_wt, z_wj, z_be, z_to, z_fs, z_sv, z_gu, z_ac, z_scd, z_atk, z_rws, z_nx, z_tg, z_en, z_rch], [z_size, z_policies, z_found, z_told], [z_policy]))) := by
    intro n
    induction n with
    | zero =>
      repeat' (first | refine And.intro ?_ ?_ | intro _)
      all_goals omega
    | succ n ih =>
      intros
      refine hs [] _ rfl ?_
      conv => whnf
      repeat' (first | refine hw_ex32 ⟨by omega, by omega⟩ ?_ | (intro h; exact absurd h (by decide)) | intro _ | refine And.intro ?_ ?_ | (refine hs [2] _ rfl ?_; conv => whnf) | apply ih | apply hK | (apply hX; apply x_same hU))
      (all_goals clear ih); all_goals (first | exact Nat.lt_succ_self _ | with_reducible assumption | omega | (with_reducible (exact acs_tv hA (by with_reducible assumption) (by with_reducible assumption))) | (with_reducible (exact aif_0)) | (with_reducible (exact aif_s (by with_reducible assumption) hA (by with_reducible assumption) (by with_reducible assumption) (by with_reducible assumption) (by omega))) | (with_reducible (exact aif_h (by with_reducible assumption) hA (by with_reducible assumption) (by with_reducible assumption) (by with_reducible assumption))) | (with_reducible (have q := aif_e (by with_reducible assumption) hA (by omega); omega)) | (with_reducible (exact acs_s hA hx (aif_e (by with_reducible assumption) hA (by omega)) (by omega))) | (with_reducible (exact acs_k hA (aif_h (by with_reducible assumption) hA (by with_reducible assumption) (by with_reducible assumption) (by with_reducible assumption)) (by omega))) | (with_reducible (exact hx)) | (with_reducible (exfalso; omega)) | (clear hs hX hF hK; fail))
  repeat' (first | refine hw_ex32 ⟨by omega, by omega⟩ ?_ | (intro h; exact absurd h (by decide)) | intro _ | refine And.intro ?_ ?_ | (refine hs [2] _ rfl ?_; conv => whnf) | apply (cuts _) | apply hK | (apply hX; apply x_same hU))
  all_goals (first | exact Nat.lt_succ_self _ | with_reducible assumption | omega | (with_reducible (exact acs_tv hA (by with_reducible assumption) (by with_reducible assumption))) | (with_reducible (exact aif_0)) | (with_reducible (exact aif_s (by with_reducible assumption) hA (by with_reducible assumption) (by with_reducible assumption) (by with_reducible assumption) (by omega))) | (with_reducible (exact aif_h (by with_reducible assumption) hA (by with_reducible assumption) (by with_reducible assumption) (by with_reducible assumption))) | (with_reducible (have q := aif_e (by with_reducible assumption) hA (by omega); omega)) | (with_reducible (exact acs_s hA hx (aif_e (by with_reducible assumption) hA (by omega)) (by omega))) | (with_reducible (exact acs_k hA (aif_h (by with_reducible assumption) hA (by with_reducible assumption) (by with_reducible assumption) (by with_reducible assumption)) (by omega))) | (with_reducible (exact hx)) | (with_reducible (exfalso; omega)) | (clear hs hX hF hK; fail))
end CH40
