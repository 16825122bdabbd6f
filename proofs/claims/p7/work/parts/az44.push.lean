/-! the class: what is fed -/
section C44
variable {scr : Nat × (Nat → Int32)} {d : Nat} {K : Option hw_V → hw_Z → Prop} {E : Nat → hw_Z → Prop} {Z : hw_Z} {kof : Nat → Nat × Int} {own : Nat → Prop} {z_used z_broken z_fed z_textEnd z_made z_mready z_modules z_actions z_target z_variables z_commands z_updates z_steps z_waiting z_nested z_type z_wantsOperand z_variablesKnown z_names z_ownFrom z_at z_wrongAt z_parties z_states z_choices z_outcomes z_sready z_many : Int} {z_fc z_role z_holds z_fu z_taken z_fo z_home z_row z_fout z_offer z_oc z_tk z_pl z_ln z_nm z_op z_wi z_st z_ty z_lo z_hi z_bg z_nt z_wk z_wr z_wt z_wj z_be z_to z_fs z_sv z_gu z_ac z_scd z_atk z_rws z_nx z_tg z_en z_rch z_size z_policies z_found z_told : Int → Int} {z_policy : Int → Int → Int}
/-- octets from f on are those of a word -/
def ob_ok (g g' : Int → Int) (f q x : Int) : Prop := ∃ _ : Unit, ∀ i, 0 ≤ i → i < q → g' i = if i < f then g i else hb_and (hb_ushr x (24 - 8 * (i - f))) 255
theorem ob_at {g g' : Int → Int} {f q x i : Int} (h : ob_ok g g' f q x) (h1 : 0 ≤ i) (h2 : i < q) : g' i = if i < f then g i else hb_and (hb_ushr x (24 - 8 * (i - f))) 255 := h.elim fun _ h => h i h1 h2
theorem ob_0 {g : Int → Int} {f x : Int} : ob_ok g g f f x := ⟨(), fun i _ h => by rw [if_pos h]⟩
theorem ob_s {g g' : Int → Int} {f q q' x sh y z : Int} (h : ob_ok g g' f q x) (hy : y = hb_ushr x sh) (hz : z = hb_and y 255) (h1 : f ≤ q) (h2 : 8 * q + sh = 8 * f + 24) (h3 : q' = q + 1) : ob_ok g (hw_up g' q z) f q' x := by
  refine ⟨(), fun i i1 i2 => ?_⟩
  by_cases e : i = q
  · subst e
    have e1 : 24 - 8 * (i - f) = sh := by omega
    have e2 : ¬ i < f := by omega
    rw [hw_up_s, if_neg e2, e1, hz, hy]
  · rw [hw_up_n e]
    exact ob_at h i1 (by omega)
/-- what is fed: the octets of five words behind f others -/
def fg (g : Int → Int) (f a b c d e i : Int) : Int := if i < f then g i else hb_and (hb_ushr (if i < f + 4 then a else if i < f + 8 then b else if i < f + 12 then c else if i < f + 16 then d else e) (24 - 8 * ((i - f) % 4))) 255
def fg_ok (g g' : Int → Int) (f q a b c d e : Int) : Prop := ∃ _ : Unit, ∀ i, 0 ≤ i → i < q → g' i = fg g f a b c d e i
theorem fg_at {g g' : Int → Int} {f q a b c d e i : Int} (h : fg_ok g g' f q a b c d e) (h1 : 0 ≤ i) (h2 : i < q) : g' i = fg g f a b c d e i := h.elim fun _ h => h i h1 h2
theorem fg_5 {g g1 g2 g3 g4 g5 : Int → Int} {f q1 q2 q3 q4 q5 a b c d e : Int} (h1 : ob_ok g g1 f q1 a) (h2 : ob_ok g1 g2 q1 q2 b) (h3 : ob_ok g2 g3 q2 q3 c) (h4 : ob_ok g3 g4 q3 q4 d) (h5 : ob_ok g4 g5 q4 q5 e) (e1 : q1 = f + 4) (e2 : q2 = q1 + 4) (e3 : q3 = q2 + 4) (e4 : q4 = q3 + 4) (e5 : q5 = q4 + 4) : fg_ok g g5 f q5 a b c d e := by
  refine ⟨(), fun i i1 i2 => ?_⟩
  have k5 := ob_at h5 i1 i2
  unfold fg
  by_cases c4 : i < q4
  · rw [if_pos c4] at k5
    rw [k5, ob_at h4 i1 c4]
    by_cases c3 : i < q3
    · rw [if_pos c3, ob_at h3 i1 c3]
      by_cases c2 : i < q2
      · rw [if_pos c2, ob_at h2 i1 c2]
        by_cases c1 : i < q1
        · rw [if_pos c1, ob_at h1 i1 c1]
          by_cases c0 : i < f
          · rw [if_pos c0, if_pos c0]
          · have m : (i - f) % 4 = i - f := by omega
            rw [if_neg c0, if_neg c0, if_pos (by omega), m]
        · have m : (i - f) % 4 = i - q1 := by omega
          rw [if_neg c1, if_neg (by omega), if_neg (by omega), if_pos (by omega), m]
      · have m : (i - f) % 4 = i - q2 := by omega
        rw [if_neg c2, if_neg (by omega), if_neg (by omega), if_neg (by omega), if_pos (by omega), m]
    · have m : (i - f) % 4 = i - q3 := by omega
      rw [if_neg c3, if_neg (by omega), if_neg (by omega), if_neg (by omega), if_neg (by omega), if_pos (by omega), m]
  · have m : (i - f) % 4 = i - q4 := by omega
    rw [if_neg c4] at k5
    rw [k5, if_neg (by omega), if_neg (by omega), if_neg (by omega), if_neg (by omega), if_neg (by omega), m]
theorem c_push (hU : hw_U (hv_T kof own)) {x : Int} (hf : 0 ≤ z_fed ∧ z_fed ≤ 8196) (hK : ∀ (q : Int) (v_oc : Int → Int), q = z_fed + 4 → ob_ok z_oc v_oc z_fed q x → K none ([z_used, z_broken, q, z_textEnd, z_made, z_mready, z_modules, z_actions, z_target, z_variables, z_commands, z_updates, z_steps, z_waiting, z_nested, z_type, z_wantsOperand, z_variablesKnown, z_names, z_ownFrom, z_at, z_wrongAt, z_parties, z_states, z_choices, z_outcomes, z_sready, z_many], [z_fc, z_role, z_holds, z_fu, z_taken, z_fo, z_home, z_row, z_fout, z_offer, v_oc, z_tk, z_pl, z_ln, z_nm, z_op, z_wi, z_st, z_ty, z_lo, z_hi, z_bg, z_nt, z_wk, z_wr, z_wt, z_wj, z_be, z_to, z_fs, z_sv, z_gu, z_ac, z_scd, z_atk, z_rws, z_nx, z_tg, z_en, z_rch], [z_size, z_policies, z_found, z_told], [z_policy])) : hw_C pg_G pg_TT scr (hv_T kof own) (d + 1) 23 [hw_R 7 0, hw_I x] ([z_used, z_broken, z_fed, z_textEnd, z_made, z_mready, z_modules, z_actions, z_target, z_variables, z_commands, z_updates, z_steps, z_waiting, z_nested, z_type, z_wantsOperand, z_variablesKnown, z_names, z_ownFrom, z_at, z_wrongAt, z_parties, z_states, z_choices, z_outcomes, z_sready, z_many], [z_fc, z_role, z_holds, z_fu, z_taken, z_fo, z_home, z_row, z_fout, z_offer, z_oc, z_tk, z_pl, z_ln, z_nm, z_op, z_wi, z_st, z_ty, z_lo, z_hi, z_bg, z_nt, z_wk, z_wr, z_wt, z_wj, z_be, z_to, z_fs, z_sv, z_gu, z_ac, z_scd, z_atk, z_rws, z_nx, z_tg, z_en, z_rch], [z_size, z_policies, z_found, z_told], [z_policy]) K E := by
  refine hw_meth hU hv_DG ⟨rfl, rfl⟩ (fun w X hs hX hF => ?_)
  have cuts : ∀ n : Nat, (∀ (sh q : Int) (g : Int → Int), -8 ≤ sh → sh ≤ 24 → 8 * q + sh = 8 * z_fed + 24 → ob_ok z_oc g z_fed q x → (sh + 8).toNat < n → w (3, [some (hw_R 7 0), some (hw_I (x)), some (hw_I (sh))], [], ([z_used, z_broken, q, z_textEnd, z_made, z_mready, z_modules, z_actions, z_target, z_variables, z_commands, z_updates, z_steps, z_waiting, z_nested, z_type, z_wantsOperand, z_variablesKnown, z_names, z_ownFrom, z_at, z_wrongAt, z_parties, z_states, z_choices, z_outcomes, z_sready, z_many], [z_fc, z_role, z_holds, z_fu, z_taken, z_fo, z_home, z_row, z_fout, z_offer, g, z_tk, z_pl, z_ln, z_nm, z_op, z_wi, z_st, z_ty, z_lo, z_hi, z_bg, z_nt, z_wk, z_wr, z_wt, z_wj, z_be, z_to, z_fs, z_sv, z_gu, z_ac, z_scd, z_atk, z_rws, z_nx, z_tg, z_en, z_rch], [z_size, z_policies, z_found, z_told], [z_policy]))) := by
    intro n
    induction n with
    | zero =>
      repeat' (first | refine And.intro ?_ ?_ | intro _)
      all_goals omega
    | succ n ih =>
      intros
      refine hs [] _ rfl ?_
      conv => whnf
      repeat' (first | refine hw_ex32 ⟨by omega, by omega⟩ ?_ | (intro h; exact absurd h (by decide)) | intro _ | refine And.intro ?_ ?_ | (refine hs [3] _ rfl ?_; conv => whnf) | apply ih | apply hK)
      (all_goals clear ih); all_goals (first | exact Nat.lt_succ_self _ | omega | exact ob_0 | assumption | (refine ob_s (by assumption) (by assumption) (by assumption) ?_ ?_ ?_ <;> omega) | (have e : _ = z_fed + 4 := (by omega : _ = z_fed + 4); fail))
  repeat' (first | refine hw_ex32 ⟨by omega, by omega⟩ ?_ | (intro h; exact absurd h (by decide)) | intro _ | refine And.intro ?_ ?_ | (refine hs [3] _ rfl ?_; conv => whnf) | apply (cuts _) | apply hK)
  all_goals (first | exact Nat.lt_succ_self _ | omega | exact ob_0 | assumption | (refine ob_s (by assumption) (by assumption) (by assumption) ?_ ?_ ?_ <;> omega) | (have e : _ = z_fed + 4 := (by omega : _ = z_fed + 4); fail))
end C44
