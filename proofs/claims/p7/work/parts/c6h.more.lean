/-! the class: count, claim, as functions -/
section CM0
variable {scr : Nat × (Nat → Int32)} {d : Nat} {K : Option hw_V → hw_Z → Prop} {E : Nat → hw_Z → Prop} {Z : hw_Z} {kof : Nat → Nat × Int} {own : Nat → Prop} {z_used z_broken z_fed z_textEnd z_made z_mready z_modules z_actions z_target z_variables z_commands z_updates z_steps z_waiting z_nested z_type z_wantsOperand z_variablesKnown z_names z_ownFrom z_at z_wrongAt z_parties z_states z_choices z_outcomes z_sready z_many : Int} {z_fc z_role z_holds z_fu z_taken z_fo z_home z_row z_fout z_offer z_oc z_tk z_pl z_ln z_nm z_op z_wi z_st z_ty z_lo z_hi z_bg z_nt z_wk z_wr z_wt z_wj z_be z_to z_fs z_sv z_gu z_ac z_scd z_atk z_rws z_nx z_tg z_en z_rch z_size z_policies z_found z_told : Int → Int} {z_policy : Int → Int → Int}
/-- how many of the first are not 0 -/
def tgc (f : Int → Int) : Nat → Int
  | 0 => 0
  | n + 1 => tgc f n + (if f (n : Int) = 0 then 0 else 1)
theorem tgc_0 {f : Int → Int} : (0 : Int) = tgc f (0 : Int).toNat := rfl
theorem tgc_s {f : Int → Int} {s p y z : Int} (h : y = tgc f s.toNat) (h0 : 0 ≤ s) (hp : p = s + 1) (hz : (f s = 0 ∧ z = y) ∨ (¬ f s = 0 ∧ z = y + 1)) : z = tgc f p.toNat := by
  subst hp
  rw [show (s + 1).toNat = s.toNat + 1 by omega]
  show z = tgc f s.toNat + (if f ((s.toNat : Nat) : Int) = 0 then 0 else 1)
  rw [show ((s.toNat : Nat) : Int) = s by omega, ← h]
  rcases hz with ⟨a, b⟩ | ⟨a, b⟩
  · rw [if_pos a]; omega
  · rw [if_neg a]; omega
theorem tgc_g {f g : Int → Int} : ∀ n : Nat, (∀ i : Nat, i < n → f (i : Int) = g (i : Int)) → tgc f n = tgc g n := by
  intro n
  induction n with
  | zero => intro _; rfl
  | succ n ih =>
    intro h
    show tgc f n + (if f (n : Int) = 0 then 0 else 1) = tgc g n + (if g (n : Int) = 0 then 0 else 1)
    rw [ih (fun i hi => h i (by omega)), h n (by omega)]
def lgc (L : List Int) : Int := tgc (fun i => L.getD i.toNat 0) L.length
theorem tgc_l {A : Int → Int} {n : Int} {L : List Int} (h : lsA A n L) : tgc A n.toNat = lgc L := by
  obtain ⟨_, h1, h2⟩ := h
  rw [h1, Int.toNat_natCast]
  refine tgc_g _ (fun i hi => ?_)
  have q := h2 i _ (List.getElem?_eq_getElem hi)
  rw [q]
  show L[i] = L.getD ((i : Nat) : Int).toNat 0
  rw [Int.toNat_natCast, List.getD_eq_getElem?_getD, List.getElem?_eq_getElem hi]
  rfl
def cntv (x mr sr vn md cm an st ch oc tn : Int) : Int := if x < 4 then (if mr = 0 then 0 else if x = 0 then vn else if x = 1 then md else if x = 2 then cm else an) else (if sr = 0 then 0 else if x = 4 then st else if x = 5 then ch else if x = 6 then oc else tn)
/-- what count answers -/
def qcnt (Do : Option dT) (Yo : Option qY) (x : Int) : Int := if x < 4 then (match Do with
    | none => 0
    | some D => if x = 0 then (D.2.1.1.length : Int) else if x = 1 then D.2.2.1 else if x = 2 then (D.2.1.2.1.length : Int) else (D.2.1.2.2.length : Int)) else (match Yo with
    | none => 0
    | some Y => if x = 4 then (Y.1.1.length : Int) else if x = 5 then (Y.1.2.2.length : Int) else if x = 6 then (Y.1.2.1.length : Int) else lgc Y.2.2)
theorem cnt_c {Do : Option dT} {Yo : Option qY} {mr x us st up cm vn md an tg sr ss oc ch : Int} {op wi sv sc fs fu ho ac gu lo hi bg rws rch fout fc tga : Int → Int} (hdo : cDo Do mr op wi sv sc fs fu ho ac gu lo hi bg us st up cm vn md an tg) (hyo : cYo Yo vn sr rws rch fout fc tga ss oc ch) : cntv x mr sr vn md cm an ss ch oc (tgc tga ss.toNat) = qcnt Do Yo x := by
  unfold cntv qcnt
  by_cases hx : x < 4
  · rw [if_pos hx, if_pos hx]
    cases Do with
    | none =>
      (try dsimp only)
      rw [if_pos (hdo.elim fun _ h => h.1 rfl)]
    | some D =>
      (try dsimp only)
      obtain ⟨c1, c2, c3, c4, c5⟩ := hdo.elim fun _ h => h.2 D rfl
      have e := cD_H c2 c3 c4 c5
      have n := cH_n e.1
      rw [if_neg c1, n.1, n.2.1, e.2.1, e.2.2.1]
  · rw [if_neg hx, if_neg hx]
    cases Yo with
    | none =>
      (try dsimp only)
      rw [if_pos (hyo.elim fun _ h => h.1 rfl)]
    | some Y =>
      (try dsimp only)
      obtain ⟨c1, c2, _⟩ := hyo.elim fun _ h => h.2 Y rfl
      have n := cY_n c2
      rw [if_neg c1, tgc_l (cY_t c2), n.1, n.2.1, n.2.2.1]
theorem f_hasState (hU : hw_U (hv_T kof own)) {s : Int} (hK : ∀ r, (r = 1 ∧ 0 ≤ s ∧ s < z_states ∧ s ≤ 23 ∨ r = 0 ∧ (s < 0 ∨ z_states ≤ s)) → K (some (hw_I r)) ([z_used, z_broken, z_fed, z_textEnd, z_made, z_mready, z_modules, z_actions, z_target, z_variables, z_commands, z_updates, z_steps, z_waiting, z_nested, z_type, z_wantsOperand, z_variablesKnown, z_names, z_ownFrom, z_at, z_wrongAt, z_parties, z_states, z_choices, z_outcomes, z_sready, z_many], [z_fc, z_role, z_holds, z_fu, z_taken, z_fo, z_home, z_row, z_fout, z_offer, z_oc, z_tk, z_pl, z_ln, z_nm, z_op, z_wi, z_st, z_ty, z_lo, z_hi, z_bg, z_nt, z_wk, z_wr, z_wt, z_wj, z_be, z_to, z_fs, z_sv, z_gu, z_ac, z_scd, z_atk, z_rws, z_nx, z_tg, z_en, z_rch], [z_size, z_policies, z_found, z_told], [z_policy])) : hw_C pg_G pg_TT scr (hv_T kof own) (d + 1) 115 [hw_R 37 0, hw_I s] ([z_used, z_broken, z_fed, z_textEnd, z_made, z_mready, z_modules, z_actions, z_target, z_variables, z_commands, z_updates, z_steps, z_waiting, z_nested, z_type, z_wantsOperand, z_variablesKnown, z_names, z_ownFrom, z_at, z_wrongAt, z_parties, z_states, z_choices, z_outcomes, z_sready, z_many], [z_fc, z_role, z_holds, z_fu, z_taken, z_fo, z_home, z_row, z_fout, z_offer, z_oc, z_tk, z_pl, z_ln, z_nm, z_op, z_wi, z_st, z_ty, z_lo, z_hi, z_bg, z_nt, z_wk, z_wr, z_wt, z_wj, z_be, z_to, z_fs, z_sv, z_gu, z_ac, z_scd, z_atk, z_rws, z_nx, z_tg, z_en, z_rch], [z_size, z_policies, z_found, z_told], [z_policy]) K E := by
  refine hw_meth hU hv_DG ⟨rfl, rfl⟩ (fun w X hs hX hF => ?_)
  repeat' (first | refine hw_ex32 ⟨by omega, by omega⟩ ?_ | (intro h; exact absurd h (by decide)) | intro _ | refine And.intro ?_ ?_ | (refine hs [] _ rfl ?_; conv => whnf) | apply hK)
  all_goals (first | exact Nat.lt_succ_self _ | assumption | omega | (clear hs hX hF hK; fail))
theorem f_targets (hU : hw_U (hv_T kof own)) (hK : ∀ (r : Int), r = tgc z_tg (z_states).toNat → K (some (hw_I r)) ([z_used, z_broken, z_fed, z_textEnd, z_made, z_mready, z_modules, z_actions, z_target, z_variables, z_commands, z_updates, z_steps, z_waiting, z_nested, z_type, z_wantsOperand, z_variablesKnown, z_names, z_ownFrom, z_at, z_wrongAt, z_parties, z_states, z_choices, z_outcomes, z_sready, z_many], [z_fc, z_role, z_holds, z_fu, z_taken, z_fo, z_home, z_row, z_fout, z_offer, z_oc, z_tk, z_pl, z_ln, z_nm, z_op, z_wi, z_st, z_ty, z_lo, z_hi, z_bg, z_nt, z_wk, z_wr, z_wt, z_wj, z_be, z_to, z_fs, z_sv, z_gu, z_ac, z_scd, z_atk, z_rws, z_nx, z_tg, z_en, z_rch], [z_size, z_policies, z_found, z_told], [z_policy])) : hw_C pg_G pg_TT scr (hv_T kof own) (d + 1) 181 [hw_R 37 0] ([z_used, z_broken, z_fed, z_textEnd, z_made, z_mready, z_modules, z_actions, z_target, z_variables, z_commands, z_updates, z_steps, z_waiting, z_nested, z_type, z_wantsOperand, z_variablesKnown, z_names, z_ownFrom, z_at, z_wrongAt, z_parties, z_states, z_choices, z_outcomes, z_sready, z_many], [z_fc, z_role, z_holds, z_fu, z_taken, z_fo, z_home, z_row, z_fout, z_offer, z_oc, z_tk, z_pl, z_ln, z_nm, z_op, z_wi, z_st, z_ty, z_lo, z_hi, z_bg, z_nt, z_wk, z_wr, z_wt, z_wj, z_be, z_to, z_fs, z_sv, z_gu, z_ac, z_scd, z_atk, z_rws, z_nx, z_tg, z_en, z_rch], [z_size, z_policies, z_found, z_told], [z_policy]) K E := by
  refine hw_meth hU hv_DG ⟨rfl, rfl⟩ (fun w X hs hX hF => ?_)
  have cuts : ∀ n : Nat, (∀ (t i : Int), t = tgc z_tg i.toNat → 0 ≤ i → 0 ≤ t → t ≤ i → i ≤ 24 → (i = 0 ∨ i ≤ z_states) → (z_states - i).toNat < n → w (4, [some (hw_R 37 0), some (hw_I (t)), some (hw_I (i))], [], ([z_used, z_broken, z_fed, z_textEnd, z_made, z_mready, z_modules, z_actions, z_target, z_variables, z_commands, z_updates, z_steps, z_waiting, z_nested, z_type, z_wantsOperand, z_variablesKnown, z_names, z_ownFrom, z_at, z_wrongAt, z_parties, z_states, z_choices, z_outcomes, z_sready, z_many], [z_fc, z_role, z_holds, z_fu, z_taken, z_fo, z_home, z_row, z_fout, z_offer, z_oc, z_tk, z_pl, z_ln, z_nm, z_op, z_wi, z_st, z_ty, z_lo, z_hi, z_bg, z_nt, z_wk, z_wr, z_wt, z_wj, z_be, z_to, z_fs, z_sv, z_gu, z_ac, z_scd, z_atk, z_rws, z_nx, z_tg, z_en, z_rch], [z_size, z_policies, z_found, z_told], [z_policy]))) := by
    intro n
    induction n with
    | zero =>
      repeat' (first | refine And.intro ?_ ?_ | intro _)
      all_goals omega
    | succ n ih =>
      intro t i
      intros
      refine hs [] _ rfl ?_
      conv => whnf
      repeat' (first | refine hw_ex32 ⟨by omega, by omega⟩ ?_ | (intro h; exact absurd h (by decide)) | intro _ | refine And.intro ?_ ?_ | (refine hs [4] _ rfl ?_; conv => whnf) | apply ih | apply hK)
      (all_goals clear ih); all_goals (first | exact Nat.lt_succ_self _ | assumption | omega | exact tgc_0 | (exact tgc_s (by with_reducible assumption) (by omega) (by omega) (Or.inl ⟨(by omega), (by omega)⟩)) | (exact tgc_s (by with_reducible assumption) (by omega) (by omega) (Or.inr ⟨(by omega), (by omega)⟩)) | (have e : i.toNat = z_states.toNat := (by omega); rw [← e]; with_reducible assumption) | (clear hs hX hF hK; fail))
  repeat' (first | refine hw_ex32 ⟨by omega, by omega⟩ ?_ | (intro h; exact absurd h (by decide)) | intro _ | refine And.intro ?_ ?_ | (refine hs [4] _ rfl ?_; conv => whnf) | apply (cuts _) | apply hK)
  all_goals (first | exact Nat.lt_succ_self _ | assumption | omega | exact tgc_0 | (exact tgc_s (by with_reducible assumption) (by omega) (by omega) (Or.inl ⟨(by omega), (by omega)⟩)) | (exact tgc_s (by with_reducible assumption) (by omega) (by omega) (Or.inr ⟨(by omega), (by omega)⟩)) | (have e : i.toNat = z_states.toNat := (by omega); rw [← e]; with_reducible assumption) | (clear hs hX hF hK; fail))
theorem f_reqExplored (hU : hw_U (hv_T kof own)) (hK : ¬ z_sready = 0 → K none ([z_used, z_broken, z_fed, z_textEnd, z_made, z_mready, z_modules, z_actions, z_target, z_variables, z_commands, z_updates, z_steps, z_waiting, z_nested, z_type, z_wantsOperand, z_variablesKnown, z_names, z_ownFrom, z_at, z_wrongAt, z_parties, z_states, z_choices, z_outcomes, z_sready, z_many], [z_fc, z_role, z_holds, z_fu, z_taken, z_fo, z_home, z_row, z_fout, z_offer, z_oc, z_tk, z_pl, z_ln, z_nm, z_op, z_wi, z_st, z_ty, z_lo, z_hi, z_bg, z_nt, z_wk, z_wr, z_wt, z_wj, z_be, z_to, z_fs, z_sv, z_gu, z_ac, z_scd, z_atk, z_rws, z_nx, z_tg, z_en, z_rch], [z_size, z_policies, z_found, z_told], [z_policy])) (hE : z_sready = 0 → E 16 ([z_used, z_broken, z_fed, z_textEnd, z_made, z_mready, z_modules, z_actions, z_target, z_variables, z_commands, z_updates, z_steps, z_waiting, z_nested, z_type, z_wantsOperand, z_variablesKnown, z_names, z_ownFrom, z_at, z_wrongAt, z_parties, z_states, z_choices, z_outcomes, z_sready, z_many], [z_fc, z_role, z_holds, z_fu, z_taken, z_fo, z_home, z_row, z_fout, z_offer, z_oc, z_tk, z_pl, z_ln, z_nm, z_op, z_wi, z_st, z_ty, z_lo, z_hi, z_bg, z_nt, z_wk, z_wr, z_wt, z_wj, z_be, z_to, z_fs, z_sv, z_gu, z_ac, z_scd, z_atk, z_rws, z_nx, z_tg, z_en, z_rch], [z_size, z_policies, z_found, z_told], [z_policy])) : hw_C pg_G pg_TT scr (hv_T kof own) (d + 1) 121 [hw_R 2 0] ([z_used, z_broken, z_fed, z_textEnd, z_made, z_mready, z_modules, z_actions, z_target, z_variables, z_commands, z_updates, z_steps, z_waiting, z_nested, z_type, z_wantsOperand, z_variablesKnown, z_names, z_ownFrom, z_at, z_wrongAt, z_parties, z_states, z_choices, z_outcomes, z_sready, z_many], [z_fc, z_role, z_holds, z_fu, z_taken, z_fo, z_home, z_row, z_fout, z_offer, z_oc, z_tk, z_pl, z_ln, z_nm, z_op, z_wi, z_st, z_ty, z_lo, z_hi, z_bg, z_nt, z_wk, z_wr, z_wt, z_wj, z_be, z_to, z_fs, z_sv, z_gu, z_ac, z_scd, z_atk, z_rws, z_nx, z_tg, z_en, z_rch], [z_size, z_policies, z_found, z_told], [z_policy]) K E := by
  refine hw_meth hU hv_DG ⟨rfl, rfl⟩ (fun w X hs hX hF => ?_)
  repeat' (first | refine hw_ex32 ⟨by omega, by omega⟩ ?_ | (intro h; exact absurd h (by decide)) | intro _ | refine And.intro ?_ ?_ | (refine hs [] _ rfl ?_; conv => whnf) | apply hK | apply hE)
  all_goals (first | exact Nat.lt_succ_self _ | assumption | omega | (clear hs hX hF hK hE; fail))
theorem f_reqState (hU : hw_U (hv_T kof own)) {s : Int} (hK : 0 ≤ s → s < z_states → s ≤ 23 → K none ([z_used, z_broken, z_fed, z_textEnd, z_made, z_mready, z_modules, z_actions, z_target, z_variables, z_commands, z_updates, z_steps, z_waiting, z_nested, z_type, z_wantsOperand, z_variablesKnown, z_names, z_ownFrom, z_at, z_wrongAt, z_parties, z_states, z_choices, z_outcomes, z_sready, z_many], [z_fc, z_role, z_holds, z_fu, z_taken, z_fo, z_home, z_row, z_fout, z_offer, z_oc, z_tk, z_pl, z_ln, z_nm, z_op, z_wi, z_st, z_ty, z_lo, z_hi, z_bg, z_nt, z_wk, z_wr, z_wt, z_wj, z_be, z_to, z_fs, z_sv, z_gu, z_ac, z_scd, z_atk, z_rws, z_nx, z_tg, z_en, z_rch], [z_size, z_policies, z_found, z_told], [z_policy])) (hE : (s < 0 ∨ z_states ≤ s) → E 17 ([z_used, z_broken, z_fed, z_textEnd, z_made, z_mready, z_modules, z_actions, z_target, z_variables, z_commands, z_updates, z_steps, z_waiting, z_nested, z_type, z_wantsOperand, z_variablesKnown, z_names, z_ownFrom, z_at, z_wrongAt, z_parties, z_states, z_choices, z_outcomes, z_sready, z_many], [z_fc, z_role, z_holds, z_fu, z_taken, z_fo, z_home, z_row, z_fout, z_offer, z_oc, z_tk, z_pl, z_ln, z_nm, z_op, z_wi, z_st, z_ty, z_lo, z_hi, z_bg, z_nt, z_wk, z_wr, z_wt, z_wj, z_be, z_to, z_fs, z_sv, z_gu, z_ac, z_scd, z_atk, z_rws, z_nx, z_tg, z_en, z_rch], [z_size, z_policies, z_found, z_told], [z_policy])) : hw_C pg_G pg_TT scr (hv_T kof own) (d + 2) 164 [hw_R 2 0, hw_I s] ([z_used, z_broken, z_fed, z_textEnd, z_made, z_mready, z_modules, z_actions, z_target, z_variables, z_commands, z_updates, z_steps, z_waiting, z_nested, z_type, z_wantsOperand, z_variablesKnown, z_names, z_ownFrom, z_at, z_wrongAt, z_parties, z_states, z_choices, z_outcomes, z_sready, z_many], [z_fc, z_role, z_holds, z_fu, z_taken, z_fo, z_home, z_row, z_fout, z_offer, z_oc, z_tk, z_pl, z_ln, z_nm, z_op, z_wi, z_st, z_ty, z_lo, z_hi, z_bg, z_nt, z_wk, z_wr, z_wt, z_wj, z_be, z_to, z_fs, z_sv, z_gu, z_ac, z_scd, z_atk, z_rws, z_nx, z_tg, z_en, z_rch], [z_size, z_policies, z_found, z_told], [z_policy]) K E := by
  refine hw_meth hU hv_DG ⟨rfl, rfl⟩ (fun w X hs hX hF => ?_)
  repeat' (first | refine hw_ex32 ⟨by omega, by omega⟩ ?_ | (intro h; exact absurd h (by decide)) | intro _ | refine And.intro ?_ ?_ | (refine hs [] _ rfl ?_; conv => whnf) | apply hK | apply hE | (apply hX; apply f_hasState hU))
  all_goals (first | exact Nat.lt_succ_self _ | assumption | omega | (clear hs hX hF hK hE; fail))
theorem f_count (hU : hw_U (hv_T kof own)) {x : Int} (hK : ∀ (r : Int), 0 ≤ x → x ≤ 7 → r = cntv x z_mready z_sready z_variables z_modules z_commands z_actions z_states z_choices z_outcomes (tgc z_tg (z_states).toNat) → K (some (hw_I r)) ([z_used, z_broken, z_fed, z_textEnd, z_made, z_mready, z_modules, z_actions, z_target, z_variables, z_commands, z_updates, z_steps, z_waiting, z_nested, z_type, z_wantsOperand, z_variablesKnown, z_names, z_ownFrom, z_at, z_wrongAt, z_parties, z_states, z_choices, z_outcomes, z_sready, z_many], [z_fc, z_role, z_holds, z_fu, z_taken, z_fo, z_home, z_row, z_fout, z_offer, z_oc, z_tk, z_pl, z_ln, z_nm, z_op, z_wi, z_st, z_ty, z_lo, z_hi, z_bg, z_nt, z_wk, z_wr, z_wt, z_wj, z_be, z_to, z_fs, z_sv, z_gu, z_ac, z_scd, z_atk, z_rws, z_nx, z_tg, z_en, z_rch], [z_size, z_policies, z_found, z_told], [z_policy])) (hE : (x < 0 ∨ 7 < x) → E 15 ([z_used, z_broken, z_fed, z_textEnd, z_made, z_mready, z_modules, z_actions, z_target, z_variables, z_commands, z_updates, z_steps, z_waiting, z_nested, z_type, z_wantsOperand, z_variablesKnown, z_names, z_ownFrom, z_at, z_wrongAt, z_parties, z_states, z_choices, z_outcomes, z_sready, z_many], [z_fc, z_role, z_holds, z_fu, z_taken, z_fo, z_home, z_row, z_fout, z_offer, z_oc, z_tk, z_pl, z_ln, z_nm, z_op, z_wi, z_st, z_ty, z_lo, z_hi, z_bg, z_nt, z_wk, z_wr, z_wt, z_wj, z_be, z_to, z_fs, z_sv, z_gu, z_ac, z_scd, z_atk, z_rws, z_nx, z_tg, z_en, z_rch], [z_size, z_policies, z_found, z_told], [z_policy])) : hw_C pg_G pg_TT scr (hv_T kof own) (d + 2) 180 [hw_R 2 0, hw_I x] ([z_used, z_broken, z_fed, z_textEnd, z_made, z_mready, z_modules, z_actions, z_target, z_variables, z_commands, z_updates, z_steps, z_waiting, z_nested, z_type, z_wantsOperand, z_variablesKnown, z_names, z_ownFrom, z_at, z_wrongAt, z_parties, z_states, z_choices, z_outcomes, z_sready, z_many], [z_fc, z_role, z_holds, z_fu, z_taken, z_fo, z_home, z_row, z_fout, z_offer, z_oc, z_tk, z_pl, z_ln, z_nm, z_op, z_wi, z_st, z_ty, z_lo, z_hi, z_bg, z_nt, z_wk, z_wr, z_wt, z_wj, z_be, z_to, z_fs, z_sv, z_gu, z_ac, z_scd, z_atk, z_rws, z_nx, z_tg, z_en, z_rch], [z_size, z_policies, z_found, z_told], [z_policy]) K E := by
  refine hw_meth hU hv_DG ⟨rfl, rfl⟩ (fun w X hs hX hF => ?_)
  repeat' (first | refine hw_ex32 ⟨by omega, by omega⟩ ?_ | (intro h; exact absurd h (by decide)) | intro _ | refine And.intro ?_ ?_ | (refine hs [] _ rfl ?_; conv => whnf) | apply hK | apply hE | (apply hX; apply f_targets hU))
  all_goals (first | exact Nat.lt_succ_self _ | assumption | omega | (unfold cntv; (repeat' split) <;> omega) | (clear hs hX hF hK hE; fail))
theorem f_claim (hU : hw_U (hv_T kof own)) {s x y : Int} (hK : ∀ (v : Int → Int), 0 < y → 0 ≤ x → ¬ z_sready = 0 → 0 ≤ s → s < z_states → K none ([z_used, z_broken, z_fed, z_textEnd, z_made, z_mready, z_modules, z_actions, z_target, z_variables, z_commands, z_updates, z_steps, z_waiting, z_nested, z_type, z_wantsOperand, z_variablesKnown, z_names, z_ownFrom, z_at, z_wrongAt, z_parties, z_states, z_choices, z_outcomes, z_sready, z_many], [z_fc, z_role, z_holds, z_fu, z_taken, z_fo, z_home, z_row, z_fout, z_offer, z_oc, z_tk, z_pl, z_ln, z_nm, z_op, z_wi, z_st, z_ty, z_lo, z_hi, z_bg, z_nt, z_wk, z_wr, z_wt, z_wj, z_be, z_to, z_fs, z_sv, z_gu, z_ac, z_scd, z_atk, z_rws, z_nx, z_tg, z_en, z_rch], [v, z_policies, z_found, z_told], [z_policy])) (hE : (y ≤ 0 ∨ x < 0) → E 15 ([z_used, z_broken, z_fed, z_textEnd, z_made, z_mready, z_modules, z_actions, z_target, z_variables, z_commands, z_updates, z_steps, z_waiting, z_nested, z_type, z_wantsOperand, z_variablesKnown, z_names, z_ownFrom, z_at, z_wrongAt, z_parties, z_states, z_choices, z_outcomes, z_sready, z_many], [z_fc, z_role, z_holds, z_fu, z_taken, z_fo, z_home, z_row, z_fout, z_offer, z_oc, z_tk, z_pl, z_ln, z_nm, z_op, z_wi, z_st, z_ty, z_lo, z_hi, z_bg, z_nt, z_wk, z_wr, z_wt, z_wj, z_be, z_to, z_fs, z_sv, z_gu, z_ac, z_scd, z_atk, z_rws, z_nx, z_tg, z_en, z_rch], [z_size, z_policies, z_found, z_told], [z_policy])) (hE1 : 0 < y → 0 ≤ x → z_sready = 0 → E 16 ([z_used, z_broken, z_fed, z_textEnd, z_made, z_mready, z_modules, z_actions, z_target, z_variables, z_commands, z_updates, z_steps, z_waiting, z_nested, z_type, z_wantsOperand, z_variablesKnown, z_names, z_ownFrom, z_at, z_wrongAt, z_parties, z_states, z_choices, z_outcomes, z_sready, z_many], [z_fc, z_role, z_holds, z_fu, z_taken, z_fo, z_home, z_row, z_fout, z_offer, z_oc, z_tk, z_pl, z_ln, z_nm, z_op, z_wi, z_st, z_ty, z_lo, z_hi, z_bg, z_nt, z_wk, z_wr, z_wt, z_wj, z_be, z_to, z_fs, z_sv, z_gu, z_ac, z_scd, z_atk, z_rws, z_nx, z_tg, z_en, z_rch], [z_size, z_policies, z_found, z_told], [z_policy])) (hE2 : 0 < y → 0 ≤ x → ¬ z_sready = 0 → (s < 0 ∨ z_states ≤ s) → E 17 ([z_used, z_broken, z_fed, z_textEnd, z_made, z_mready, z_modules, z_actions, z_target, z_variables, z_commands, z_updates, z_steps, z_waiting, z_nested, z_type, z_wantsOperand, z_variablesKnown, z_names, z_ownFrom, z_at, z_wrongAt, z_parties, z_states, z_choices, z_outcomes, z_sready, z_many], [z_fc, z_role, z_holds, z_fu, z_taken, z_fo, z_home, z_row, z_fout, z_offer, z_oc, z_tk, z_pl, z_ln, z_nm, z_op, z_wi, z_st, z_ty, z_lo, z_hi, z_bg, z_nt, z_wk, z_wr, z_wt, z_wj, z_be, z_to, z_fs, z_sv, z_gu, z_ac, z_scd, z_atk, z_rws, z_nx, z_tg, z_en, z_rch], [z_size, z_policies, z_found, z_told], [z_policy])) : hw_C pg_G pg_TT scr (hv_T kof own) (d + 3) 172 [hw_R 2 0, hw_I s, hw_J x, hw_J y] ([z_used, z_broken, z_fed, z_textEnd, z_made, z_mready, z_modules, z_actions, z_target, z_variables, z_commands, z_updates, z_steps, z_waiting, z_nested, z_type, z_wantsOperand, z_variablesKnown, z_names, z_ownFrom, z_at, z_wrongAt, z_parties, z_states, z_choices, z_outcomes, z_sready, z_many], [z_fc, z_role, z_holds, z_fu, z_taken, z_fo, z_home, z_row, z_fout, z_offer, z_oc, z_tk, z_pl, z_ln, z_nm, z_op, z_wi, z_st, z_ty, z_lo, z_hi, z_bg, z_nt, z_wk, z_wr, z_wt, z_wj, z_be, z_to, z_fs, z_sv, z_gu, z_ac, z_scd, z_atk, z_rws, z_nx, z_tg, z_en, z_rch], [z_size, z_policies, z_found, z_told], [z_policy]) K E := by
  refine hw_meth hU hv_DG ⟨rfl, rfl⟩ (fun w X hs hX hF => ?_)
  repeat' (first | refine hw_ex32 ⟨by omega, by omega⟩ ?_ | (intro h; exact absurd h (by decide)) | intro _ | refine And.intro ?_ ?_ | (refine hs [] _ rfl ?_; conv => whnf) | apply hK | apply hE | apply hE1 | apply hE2 | (apply hX; apply f_reqExplored hU) | (apply hX; apply f_reqState hU) | (apply hX; apply c_put hU))
  all_goals (first | exact Nat.lt_succ_self _ | assumption | omega | (clear hs hX hF hK hE hE1 hE2; fail))
theorem f_outcome (hU : hw_U (hv_T kof own)) {s c o : Int} (hK : ∀ (r : Int) (v : Int → Int), ¬ z_sready = 0 → 0 ≤ s → s < z_states → 0 ≤ c → c < z_fc (s + 1) - z_fc s → 0 ≤ o → o < z_fout (z_fc s + c + 1) - z_fout (z_fc s + c) → r = z_rch (z_fout (z_fc s + c) + o) → K (some (hw_I r)) ([z_used, z_broken, z_fed, z_textEnd, z_made, z_mready, z_modules, z_actions, z_target, z_variables, z_commands, z_updates, z_steps, z_waiting, z_nested, z_type, z_wantsOperand, z_variablesKnown, z_names, z_ownFrom, z_at, z_wrongAt, z_parties, z_states, z_choices, z_outcomes, z_sready, z_many], [z_fc, z_role, z_holds, z_fu, z_taken, z_fo, z_home, z_row, z_fout, z_offer, z_oc, z_tk, z_pl, z_ln, z_nm, z_op, z_wi, z_st, z_ty, z_lo, z_hi, z_bg, z_nt, z_wk, z_wr, z_wt, z_wj, z_be, z_to, z_fs, z_sv, z_gu, z_ac, z_scd, z_atk, z_rws, z_nx, z_tg, z_en, z_rch], [v, z_policies, z_found, z_told], [z_policy])) (hE : z_sready = 0 → E 16 ([z_used, z_broken, z_fed, z_textEnd, z_made, z_mready, z_modules, z_actions, z_target, z_variables, z_commands, z_updates, z_steps, z_waiting, z_nested, z_type, z_wantsOperand, z_variablesKnown, z_names, z_ownFrom, z_at, z_wrongAt, z_parties, z_states, z_choices, z_outcomes, z_sready, z_many], [z_fc, z_role, z_holds, z_fu, z_taken, z_fo, z_home, z_row, z_fout, z_offer, z_oc, z_tk, z_pl, z_ln, z_nm, z_op, z_wi, z_st, z_ty, z_lo, z_hi, z_bg, z_nt, z_wk, z_wr, z_wt, z_wj, z_be, z_to, z_fs, z_sv, z_gu, z_ac, z_scd, z_atk, z_rws, z_nx, z_tg, z_en, z_rch], [z_size, z_policies, z_found, z_told], [z_policy])) (hE1 : ¬ z_sready = 0 → (s < 0 ∨ z_states ≤ s ∨ c < 0 ∨ z_fc (s + 1) - z_fc s ≤ c ∨ o < 0 ∨ z_fout (z_fc s + c + 1) - z_fout (z_fc s + c) ≤ o) → E 17 ([z_used, z_broken, z_fed, z_textEnd, z_made, z_mready, z_modules, z_actions, z_target, z_variables, z_commands, z_updates, z_steps, z_waiting, z_nested, z_type, z_wantsOperand, z_variablesKnown, z_names, z_ownFrom, z_at, z_wrongAt, z_parties, z_states, z_choices, z_outcomes, z_sready, z_many], [z_fc, z_role, z_holds, z_fu, z_taken, z_fo, z_home, z_row, z_fout, z_offer, z_oc, z_tk, z_pl, z_ln, z_nm, z_op, z_wi, z_st, z_ty, z_lo, z_hi, z_bg, z_nt, z_wk, z_wr, z_wt, z_wj, z_be, z_to, z_fs, z_sv, z_gu, z_ac, z_scd, z_atk, z_rws, z_nx, z_tg, z_en, z_rch], [z_size, z_policies, z_found, z_told], [z_policy])) : hw_C pg_G pg_TT scr (hv_T kof own) (d + 6) 120 [hw_R 2 0, hw_I s, hw_I c, hw_I o] ([z_used, z_broken, z_fed, z_textEnd, z_made, z_mready, z_modules, z_actions, z_target, z_variables, z_commands, z_updates, z_steps, z_waiting, z_nested, z_type, z_wantsOperand, z_variablesKnown, z_names, z_ownFrom, z_at, z_wrongAt, z_parties, z_states, z_choices, z_outcomes, z_sready, z_many], [z_fc, z_role, z_holds, z_fu, z_taken, z_fo, z_home, z_row, z_fout, z_offer, z_oc, z_tk, z_pl, z_ln, z_nm, z_op, z_wi, z_st, z_ty, z_lo, z_hi, z_bg, z_nt, z_wk, z_wr, z_wt, z_wj, z_be, z_to, z_fs, z_sv, z_gu, z_ac, z_scd, z_atk, z_rws, z_nx, z_tg, z_en, z_rch], [z_size, z_policies, z_found, z_told], [z_policy]) K E := by
  refine hw_meth hU hv_DG ⟨rfl, rfl⟩ (fun w X hs hX hF => ?_)
  repeat' (first | refine hw_ex32 ⟨by omega, by omega⟩ ?_ | (intro h; exact absurd h (by decide)) | intro _ | refine And.intro ?_ ?_ | (refine hs [] _ rfl ?_; conv => whnf) | apply hK | apply hE | apply hE1 | (apply hX; apply f_reqExplored hU) | (apply hX; apply f_hasState hU) | (apply hX; apply c_choicesOf hU) | (apply hX; apply c_outcomesOf hU) | (apply hX; apply c_put hU) | (apply hX; apply c_hold hU))
  all_goals (first | exact Nat.lt_succ_self _ | assumption | omega | (clear hs hX hF hK hE hE1; fail))
theorem q_countF (hU : hw_U (hv_T kof own)) {f : Int} {g : Int → Int} {Do : Option dT} {Yo : Option qY} {Z : hw_Z} {x : Int} (hZ : hv_I f g Do Yo Z) (hK : 0 ≤ x → x ≤ 7 → ∀ Z', hv_I f g Do Yo Z' → K (some (hw_I (qcnt Do Yo x))) Z') (hE : (x < 0 ∨ 7 < x) → ∀ Z', hv_I f g Do Yo Z' → E 15 Z') : hw_C pg_G pg_TT scr (hv_T kof own) (d + 2) 180 [hw_R 2 0, hw_I x] Z K E := by
  refine hv_e (P := fun Z => hw_C pg_G pg_TT scr (hv_T kof own) (d + 2) 180 [hw_R 2 0, hw_I x] Z K E) hZ (fun z_used z_broken z_textEnd z_made z_mready z_modules z_actions z_target z_variables z_commands z_updates z_steps z_waiting z_nested z_type z_wantsOperand z_variablesKnown z_names z_ownFrom z_at z_wrongAt z_parties z_states z_choices z_outcomes z_sready z_many z_fc z_role z_holds z_fu z_taken z_fo z_home z_row z_fout z_offer z_oc z_tk z_pl z_ln z_nm z_op z_wi z_st z_ty z_lo z_hi z_bg z_nt z_wk z_wr z_wt z_wj z_be z_to z_fs z_sv z_gu z_ac z_scd z_atk z_rws z_nx z_tg z_en z_rch z_size z_policies z_found z_told z_policy hinv hoc hdo hyo => ?_)
  refine f_count hU ?_ ?_
  · intro r h1 h2 h3
    rw [cnt_c hdo hyo] at h3
    subst h3
    exact hK h1 h2 _ (hv_i hinv hoc hdo hyo)
  · intro h
    exact hE h _ (hv_i hinv hoc hdo hyo)
theorem q_claimF (hU : hw_U (hv_T kof own)) {f : Int} {g : Int → Int} {Do : Option dT} {Yo : Option qY} {Z : hw_Z} {s x y : Int} (hZ : hv_I f g Do Yo Z) (hK : 0 < y → 0 ≤ x → (∃ Y, Yo = some Y ∧ 0 ≤ s ∧ s < (Y.1.1.length : Int)) → ∀ Z', hv_I f g Do Yo Z' → K none Z') (hE1 : (y ≤ 0 ∨ x < 0) → ∀ Z', hv_I f g Do Yo Z' → E 15 Z') (hE2 : 0 < y → 0 ≤ x → Yo = none → ∀ Z', hv_I f g Do Yo Z' → E 16 Z') (hE3 : 0 < y → 0 ≤ x → (∃ Y, Yo = some Y ∧ (s < 0 ∨ (Y.1.1.length : Int) ≤ s)) → ∀ Z', hv_I f g Do Yo Z' → E 17 Z') : hw_C pg_G pg_TT scr (hv_T kof own) (d + 3) 172 [hw_R 2 0, hw_I s, hw_J x, hw_J y] Z K E := by
  refine hv_e (P := fun Z => hw_C pg_G pg_TT scr (hv_T kof own) (d + 3) 172 [hw_R 2 0, hw_I s, hw_J x, hw_J y] Z K E) hZ (fun z_used z_broken z_textEnd z_made z_mready z_modules z_actions z_target z_variables z_commands z_updates z_steps z_waiting z_nested z_type z_wantsOperand z_variablesKnown z_names z_ownFrom z_at z_wrongAt z_parties z_states z_choices z_outcomes z_sready z_many z_fc z_role z_holds z_fu z_taken z_fo z_home z_row z_fout z_offer z_oc z_tk z_pl z_ln z_nm z_op z_wi z_st z_ty z_lo z_hi z_bg z_nt z_wk z_wr z_wt z_wj z_be z_to z_fs z_sv z_gu z_ac z_scd z_atk z_rws z_nx z_tg z_en z_rch z_size z_policies z_found z_told z_policy hinv hoc hdo hyo => ?_)
  have hy : (Yo = none ∧ z_sready = 0) ∨ ∃ Y, Yo = some Y ∧ ¬ z_sready = 0 ∧ z_states = (Y.1.1.length : Int) := by
    cases Yo with
    | none => exact Or.inl ⟨rfl, hyo.elim fun _ h => h.1 rfl⟩
    | some Y =>
      obtain ⟨c1, c2, c3⟩ := hyo.elim fun _ h => h.2 Y rfl
      exact Or.inr ⟨Y, rfl, c1, (cY_n c2).1⟩
  refine f_claim hU ?_ ?_ ?_ ?_
  · intro v h1 h2 h3 h4 h5
    rcases hy with ⟨_, z⟩ | ⟨Y, e, _, n⟩
    · exact absurd z h3
    · exact hK h1 h2 ⟨Y, e, h4, by omega⟩ _ (hv_i hinv hoc hdo hyo)
  · intro h
    exact hE1 h _ (hv_i hinv hoc hdo hyo)
  · intro h1 h2 h3
    rcases hy with ⟨e, _⟩ | ⟨Y, e, z, _⟩
    · exact hE2 h1 h2 e _ (hv_i hinv hoc hdo hyo)
    · exact absurd h3 z
  · intro h1 h2 h3 h4
    rcases hy with ⟨_, z⟩ | ⟨Y, e, _, n⟩
    · exact absurd z h3
    · exact hE3 h1 h2 ⟨Y, e, by omega⟩ _ (hv_i hinv hoc hdo hyo)
theorem q_outcomeF (hU : hw_U (hv_T kof own)) {f : Int} {g : Int → Int} {Do : Option dT} {Yo : Option qY} {Z : hw_Z} {s c o : Int} (hZ : hv_I f g Do Yo Z) (hK : ∀ Y, Yo = some Y → oin Y s c o → ∀ Z', hv_I f g Do Yo Z' → K (some (hw_I (oto Y s c o))) Z') (hE1 : Yo = none → ∀ Z', hv_I f g Do Yo Z' → E 16 Z') (hE2 : ∀ Y, Yo = some Y → ¬ oin Y s c o → ∀ Z', hv_I f g Do Yo Z' → E 17 Z') : hw_C pg_G pg_TT scr (hv_T kof own) (d + 6) 120 [hw_R 2 0, hw_I s, hw_I c, hw_I o] Z K E := by
  refine hv_e (P := fun Z => hw_C pg_G pg_TT scr (hv_T kof own) (d + 6) 120 [hw_R 2 0, hw_I s, hw_I c, hw_I o] Z K E) hZ (fun z_used z_broken z_textEnd z_made z_mready z_modules z_actions z_target z_variables z_commands z_updates z_steps z_waiting z_nested z_type z_wantsOperand z_variablesKnown z_names z_ownFrom z_at z_wrongAt z_parties z_states z_choices z_outcomes z_sready z_many z_fc z_role z_holds z_fu z_taken z_fo z_home z_row z_fout z_offer z_oc z_tk z_pl z_ln z_nm z_op z_wi z_st z_ty z_lo z_hi z_bg z_nt z_wk z_wr z_wt z_wj z_be z_to z_fs z_sv z_gu z_ac z_scd z_atk z_rws z_nx z_tg z_en z_rch z_size z_policies z_found z_told z_policy hinv hoc hdo hyo => ?_)
  have hy : (Yo = none ∧ z_sready = 0) ∨ ∃ Y, Yo = some Y ∧ ¬ z_sready = 0 ∧ z_states = (Y.1.1.length : Int) ∧ ((oar z_fc z_fout z_states s c o ↔ oin Y s c o) ∧ (oin Y s c o → z_rch (z_fout (z_fc s + c) + o) = oto Y s c o)) := by
    cases Yo with
    | none => exact Or.inl ⟨rfl, hyo.elim fun _ h => h.1 rfl⟩
    | some Y =>
      obtain ⟨c1, c2, c3⟩ := hyo.elim fun _ h => h.2 Y rfl
      have co := cY_o c2
      exact Or.inr ⟨Y, rfl, c1, (cY_n c2).1, oin_a c3 (cY_n c2).1 (cY_f c2) co.1 co.2.1 (cY_l c2) co.2.2⟩
  refine f_outcome hU ?_ ?_ ?_
  · intro r v h1 k1 k2 k3 k4 k5 k6 h3
    have h2 : oar z_fc z_fout z_states s c o := ⟨k1, k2, k3, k4, k5, k6⟩
    rcases hy with ⟨_, z⟩ | ⟨Y, e, _, _, n1, n2⟩
    · exact absurd z h1
    · have n3 := n2 (n1.mp h2)
      rw [n3] at h3
      subst h3
      exact hK Y e (n1.mp h2) _ (hv_i hinv hoc hdo hyo)
  · intro h1
    rcases hy with ⟨e, _⟩ | ⟨Y, e, z, _⟩
    · exact hE1 e _ (hv_i hinv hoc hdo hyo)
    · exact absurd h1 z
  · intro h1 h2
    rcases hy with ⟨_, z⟩ | ⟨Y, e, _, _, n1, n2⟩
    · exact absurd z h1
    · exact hE2 Y e (fun q => by obtain ⟨k1, k2, k3, k4, k5, k6⟩ := n1.mpr q; omega) _ (hv_i hinv hoc hdo hyo)
end CM0
