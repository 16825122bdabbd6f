/-! the class: greatest common divisors -/
section CH34
variable {scr : Nat × (Nat → Int32)} {d : Nat} {K : Option hw_V → hw_Z → Prop} {E : Nat → hw_Z → Prop} {Z : hw_Z} {kof : Nat → Nat × Int} {own : Nat → Prop} {z_used z_broken z_fed z_textEnd z_made z_mready z_modules z_actions z_target z_variables z_commands z_updates z_steps z_waiting z_nested z_type z_wantsOperand z_variablesKnown z_names z_ownFrom z_at z_wrongAt z_parties z_states z_choices z_outcomes z_sready z_many : Int} {z_fc z_role z_holds z_fu z_taken z_fo z_home z_row z_fout z_offer z_oc z_tk z_pl z_ln z_nm z_op z_wi z_st z_ty z_lo z_hi z_bg z_nt z_wk z_wr z_wt z_wj z_be z_to z_fs z_sv z_gu z_ac z_scd z_atk z_rws z_nx z_tg z_en z_rch z_size z_policies z_found z_told : Int → Int} {z_policy : Int → Int → Int}
theorem x_cdiv (hU : hw_U (hv_T kof own)) {a b : Int} (ha : 0 ≤ a ∧ a ≤ 9223372036854775807) (hb : 1 ≤ b ∧ b ≤ 1000) (hK : ∀ (r : Int), r = ((Int.gcd a b : Nat) : Int) → 1 ≤ r → K (some (hw_J r)) Z) : hw_C pg_G pg_TT scr (hv_T kof own) (d + 1) 94 [hw_J a, hw_J b] Z K E := by
  refine hw_meth hU hv_DG ⟨rfl, rfl⟩ (fun w X hs hX hF => ?_)
  have hp : 0 < Int.gcd a b := Int.gcd_pos_of_ne_zero_right a (by omega)
  have cuts : ∀ n : Nat, (∀ (x y i : Int) (ulp0 ulp1 : Option hw_V), 0 ≤ i → i ≤ 16 → eu_ok a b x y i → (100 - i).toNat < n → w (9, [some (hw_J (a)), none, some (hw_J (b)), none, some (hw_J (x)), none, some (hw_J (y)), none, some (hw_I (i)), ulp0, ulp1], [], Z)) := by
    intro n
    induction n with
    | zero =>
      repeat' (first | refine And.intro ?_ ?_ | intro _)
      all_goals omega
    | succ n ih =>
      intros
      refine hF (L' := [some _, none, some _, none, some _, none, some _, none, some _, none, none]) (by repeat' (first | exact True.intro | refine And.intro rfl ?_)) ?_
      refine hs [] _ rfl ?_
      conv => whnf
      repeat' (first | refine hw_ex32 ⟨by omega, by omega⟩ ?_ | (intro h; exact absurd h (by decide)) | intro _ | refine And.intro ?_ ?_ | (refine hs [9] _ rfl ?_; conv => whnf) | apply ih | apply hK)
      (all_goals clear ih); all_goals (first | exact Nat.lt_succ_self _ | with_reducible assumption | omega | (with_reducible (exact eu_0 (by omega) (by omega))) | (with_reducible (have q := eu_b (by with_reducible assumption); omega)) | (with_reducible (have q := eu_le (by with_reducible assumption) (by omega) (by omega); omega)) | (with_reducible (have q := eu_b (by with_reducible assumption); refine eu_s (by with_reducible assumption) ?_ ?_ ?_ ?_ ?_ <;> omega)) | (with_reducible (refine eu_e (by with_reducible assumption) ?_ ?_ ?_ <;> omega)) | (clear hs hX hF hK; fail))
  repeat' (first | refine hw_ex32 ⟨by omega, by omega⟩ ?_ | (intro h; exact absurd h (by decide)) | intro _ | refine And.intro ?_ ?_ | (refine hs [9] _ rfl ?_; conv => whnf) | apply (cuts _) | apply hK)
  all_goals (first | exact Nat.lt_succ_self _ | with_reducible assumption | omega | (with_reducible (exact eu_0 (by omega) (by omega))) | (with_reducible (have q := eu_b (by with_reducible assumption); omega)) | (with_reducible (have q := eu_le (by with_reducible assumption) (by omega) (by omega); omega)) | (with_reducible (have q := eu_b (by with_reducible assumption); refine eu_s (by with_reducible assumption) ?_ ?_ ?_ ?_ ?_ <;> omega)) | (with_reducible (refine eu_e (by with_reducible assumption) ?_ ?_ ?_ <;> omega)) | (clear hs hX hF hK; fail))
end CH34
