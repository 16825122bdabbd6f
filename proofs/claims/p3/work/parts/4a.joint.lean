/-! the class: Space, choices of several -/
section C4a
variable {scr : Nat × (Nat → Int32)} {d : Nat} {K : Option hw_V → hw_Z → Prop} {E : Nat → hw_Z → Prop} {Z : hw_Z} {kof : Nat → Nat × Int} {own : Nat → Prop} {z_used z_broken z_fed z_textEnd z_made z_mready z_modules z_actions z_target z_variables z_commands z_updates z_steps z_waiting z_nested z_type z_wantsOperand z_variablesKnown z_names z_ownFrom z_at z_wrongAt z_parties z_states z_choices z_outcomes z_sready z_many : Int} {z_fc z_role z_holds z_fu z_taken z_fo z_home z_row z_fout z_offer z_oc z_size z_policies z_found z_told : Int → Int} {z_policy : Int → Int → Int}
/-- how many of the first commands have a home below m -/
def hs_n (home : Int → Int) (m : Int) : Nat → Int
  | 0 => 0
  | n + 1 => hs_n home m n + (if home n < m then 1 else 0)
theorem hs_n_b (home : Int → Int) (m : Int) (n : Nat) : 0 ≤ hs_n home m n ∧ hs_n home m n ≤ n := by
  induction n with
  | zero => exact ⟨Int.le_refl _, Int.le_refl _⟩
  | succ n ih =>
    have e : hs_n home m (n + 1) = hs_n home m n + (if home n < m then 1 else 0) := rfl
    rw [e]
    split <;> omega
theorem hs_n_m (home : Int → Int) (m : Int) (n k : Nat) : hs_n home (m + 1) n - hs_n home m n ≤ hs_n home (m + 1) (n + k) - hs_n home m (n + k) := by
  induction k with
  | zero => exact Int.le_refl _
  | succ k ih =>
    have e : ∀ m, hs_n home m (n + (k + 1)) = hs_n home m (n + k) + (if home ((n + k : Nat) : Int) < m then 1 else 0) := fun _ => rfl
    rw [e, e]
    split <;> split <;> omega
def hs_a (home : Int → Int) (m c : Int) : Int := hs_n home m c.toNat
theorem hs_a_s {home : Int → Int} {m c : Int} (h : 0 ≤ c) : hs_a home m (c + 1) = hs_a home m c + (if home c < m then 1 else 0) := by
  obtain ⟨k, rfl⟩ := Int.eq_ofNat_of_zero_le h
  rfl
theorem hs_a_m {home : Int → Int} {m c e : Int} (h0 : 0 ≤ c) (h : c ≤ e) : hs_a home (m + 1) c - hs_a home m c ≤ hs_a home (m + 1) e - hs_a home m e := by
  have h2 := hs_n_m home m c.toNat (e.toNat - c.toNat)
  rw [show c.toNat + (e.toNat - c.toNat) = e.toNat by omega] at h2
  exact h2
theorem hs_a_b {home : Int → Int} {m c : Int} (h : 0 ≤ c) : 0 ≤ hs_a home m c ∧ hs_a home m c ≤ c := by
  have := hs_n_b home m c.toNat
  unfold hs_a
  omega
def hs_b (home : Int → Int) (m e u : Int) : Prop := u ≤ hs_a home m e
def hs_le (home : Int → Int) (m c e u : Int) : Prop := u + hs_a home m c ≤ hs_a home m e + hs_a home (m + 1) c
theorem hs_b_0 {home : Int → Int} {m e : Int} (h : 0 ≤ e) : hs_b home m e 0 := (hs_a_b h).1
theorem hs_le_0 {home : Int → Int} {m e u : Int} (h : hs_b home m e u) : hs_le home m 0 e u := by
  have h1 : ∀ m, hs_a home m 0 = 0 := fun _ => rfl
  unfold hs_b at h; unfold hs_le
  rw [h1, h1]; omega
theorem hs_le_s {home : Int → Int} {m c x e u : Int} (h : hs_le home m c e u) (h0 : 0 ≤ c) (hx : x = c + 1) : hs_le home m x e u := by
  subst hx
  unfold hs_le at h ⊢
  rw [hs_a_s h0, hs_a_s h0]
  split <;> split <;> omega
theorem hs_le_t {home : Int → Int} {m c x e u v : Int} (h : hs_le home m c e u) (h0 : 0 ≤ c) (h1 : home c = m) (hx : x = c + 1) (hv : v = u + 1) : hs_le home m x e v := by
  subst hx; subst hv
  unfold hs_le at h ⊢
  rw [hs_a_s h0, hs_a_s h0, if_neg (by omega), if_pos (by omega)]
  omega
theorem hs_le_u {home : Int → Int} {m c e u : Int} (h : hs_le home m c e u) (h0 : 0 ≤ c) (h1 : home c = m) (h2 : c < e) : u < e := by
  have h3 := hs_le_t h h0 h1 rfl rfl
  have h4 := hs_a_m (home := home) (m := m) (c := c + 1) (e := e) (by omega) (by omega)
  have h5 := (hs_a_b (home := home) (m := m + 1) (c := e) (by omega)).2
  unfold hs_le at h3
  omega
theorem hs_le_e {home : Int → Int} {m c x e u : Int} (h : hs_le home m c e u) (h0 : 0 ≤ c) (h1 : e ≤ c) (h2 : c ≤ e) (hx : x = m + 1) : hs_b home x e u := by
  have e1 : c = e := by omega
  subst e1; subst hx
  unfold hs_le at h; unfold hs_b
  omega
/-- the offers: each party has some, and all are commands -/
def fo_ok (p u : Int) (f : Int → Int) : Prop := ∃ _ : Unit, ∀ q, 0 ≤ q → q < p → f q < hw_up f p u (q + 1) ∧ hw_up f p u (q + 1) ≤ u
def gi_ok (u : Int) (g : Int → Int) (cm : Int) : Prop := ∃ _ : Unit, ∀ i, 0 ≤ i → i < u → g i < cm
theorem fo_0 {u : Int} {f : Int → Int} : fo_ok 0 u f := ⟨(), fun q h1 h2 => absurd h1 (by omega)⟩
theorem fo_set {p u : Int} {f : Int → Int} (h : fo_ok p u f) : fo_ok p u (hw_up f p u) := by
  refine h.elim fun _ h => ⟨(), fun q h1 h2 => ?_⟩
  have h3 := h q h1 h2
  have e1 : ¬ q = p := by omega
  rw [hw_up_n e1]
  by_cases e : q + 1 = p
  · rw [e, hw_up_s]; rw [e, hw_up_s] at h3; exact h3
  · rw [hw_up_n e]; exact h3
theorem fo_nx {p m u v x : Int} {f : Int → Int} (h : fo_ok p u f) (h1 : f p = u) (h2 : u < v) (hm : m = p + 1) (hx : x = v) : fo_ok m x f := by
  subst hm; subst hx
  refine h.elim fun _ h => ⟨(), fun q h3 h4 => ?_⟩
  by_cases e : q = p
  · subst e; rw [hw_up_s]; omega
  · have h5 := h q h3 (by omega)
    have e1 : ¬ q + 1 = p + 1 := by omega
    rw [hw_up_n e1]
    by_cases e2 : q + 1 = p
    · rw [e2, hw_up_s] at h5; rw [e2]; omega
    · rw [hw_up_n e2] at h5; omega
theorem gi_0 {g : Int → Int} {cm : Int} : gi_ok 0 g cm := ⟨(), fun i h1 h2 => absurd h1 (by omega)⟩
theorem gi_at {u i cm : Int} {g : Int → Int} (h : gi_ok u g cm) (h1 : 0 ≤ i) (h2 : i < u) : g i < cm := h.elim fun _ h => h i h1 h2
theorem gi_push {u v c cm : Int} {g : Int → Int} (h : gi_ok u g cm) (hv : v = u + 1) (hc : c < cm) : gi_ok v (hw_up g u c) cm := by
  subst hv
  refine ⟨(), fun i h1 h2 => ?_⟩
  by_cases e : i = u
  · subst e; rw [hw_up_s]; exact hc
  · rw [hw_up_n e]; exact gi_at h h1 (by omega)
/-- the offers of a party so far -/
def hs_fp (f : Int → Int) (p u h : Int) : Prop := ∃ _ : Unit, f p ≤ u ∧ (h = 1 ∨ h = 0 ∧ u = f p)
theorem hs_fp_0 {f : Int → Int} {p u : Int} : hs_fp (hw_up f p u) p u 0 := by
  refine ⟨(), ?_⟩
  rw [hw_up_s]
  omega
theorem hs_fp_1 {f : Int → Int} {p u v h : Int} (hp : hs_fp f p u h) (hv : u ≤ v) : hs_fp f p v 1 := hp.elim fun _ hp => ⟨(), by omega⟩
theorem fo_st {p u : Int} {f : Int → Int} (h : fo_ok p u f) : fo_ok p (hw_up f p u p) (hw_up f p u) := by
  rw [hw_up_s]
  exact fo_set h
theorem fo_h0 {p u h : Int} {f : Int → Int} (h1 : fo_ok p (f p) f) (hp : hs_fp f p u h) (h0 : h = 0) : fo_ok p u f := by
  refine hp.elim fun _ hp => ?_
  have e : u = f p := by omega
  rw [e]; exact h1
theorem fo_h1 {p u h m : Int} {f : Int → Int} (h1 : fo_ok p (f p) f) (hp : hs_fp f p u h) (h0 : ¬ u = f p) (hm : m = p + 1) : fo_ok m u f := hp.elim fun _ hp => fo_nx h1 rfl (by omega) hm rfl
/-- the offers of the parties when all are gathered -/
def of_ok (p : Int) (f g : Int → Int) (cm : Int) : Prop := ∃ _ : Unit, fo_ok p (f p) f ∧ gi_ok (f p) g cm
theorem of_mk {p u : Int} {f g : Int → Int} {cm : Int} (h1 : fo_ok p u f) (h2 : gi_ok u g cm) : of_ok p (hw_up f p u) g cm := by
  unfold of_ok
  rw [hw_up_s]
  exact ⟨(), fo_set h1, h2⟩
theorem of_f {p q : Int} {f g : Int → Int} {cm : Int} (h : of_ok p f g cm) (h1 : 0 ≤ q) (h2 : q < p) : f q < f (q + 1) ∧ f (q + 1) ≤ f p := by
  refine h.elim fun _ h0 => h0.1.elim fun _ h3 => ?_
  have h4 := h3 q h1 h2
  by_cases e : q + 1 = p
  · rw [e, hw_up_s] at h4; rw [e]; exact h4
  · rw [hw_up_n e] at h4; exact h4
theorem of_g {p q i : Int} {f g : Int → Int} {cm : Int} (h : of_ok p f g cm) (h1 : 0 ≤ q) (h2 : q < p) (h3 : 0 ≤ i) (h4 : i < f (q + 1)) : g i < cm := h.elim fun _ h0 => gi_at h0.2 h3 (by have := of_f h h1 h2; omega)

theorem c_gatherOffers (hU : hw_U (hv_T kof own)) {a : Int} (hc0 : 0 ≤ z_commands) (hK : ∀ (v_parties : Int) (v_fo v_offer : Int → Int), K (some (hw_I 0)) ([z_used, z_broken, z_fed, z_textEnd, z_made, z_mready, z_modules, z_actions, z_target, z_variables, z_commands, z_updates, z_steps, z_waiting, z_nested, z_type, z_wantsOperand, z_variablesKnown, z_names, z_ownFrom, z_at, z_wrongAt, v_parties, z_states, z_choices, z_outcomes, z_sready, z_many], [z_fc, z_role, z_holds, z_fu, z_taken, v_fo, z_home, z_row, z_fout, v_offer, z_oc], [z_size, z_policies, z_found, z_told], [z_policy])) (hK1 : ∀ (v_parties : Int) (v_fo v_offer : Int → Int), of_ok v_parties v_fo v_offer z_commands → 0 ≤ v_parties → K (some (hw_I 1)) ([z_used, z_broken, z_fed, z_textEnd, z_made, z_mready, z_modules, z_actions, z_target, z_variables, z_commands, z_updates, z_steps, z_waiting, z_nested, z_type, z_wantsOperand, z_variablesKnown, z_names, z_ownFrom, z_at, z_wrongAt, v_parties, z_states, z_choices, z_outcomes, z_sready, z_many], [z_fc, z_role, z_holds, z_fu, z_taken, v_fo, z_home, z_row, z_fout, v_offer, z_oc], [z_size, z_policies, z_found, z_told], [z_policy])) : hw_C pg_G pg_TT scr (hv_T kof own) (d + 1) 111 [hw_R 37 0, hw_I a] ([z_used, z_broken, z_fed, z_textEnd, z_made, z_mready, z_modules, z_actions, z_target, z_variables, z_commands, z_updates, z_steps, z_waiting, z_nested, z_type, z_wantsOperand, z_variablesKnown, z_names, z_ownFrom, z_at, z_wrongAt, z_parties, z_states, z_choices, z_outcomes, z_sready, z_many], [z_fc, z_role, z_holds, z_fu, z_taken, z_fo, z_home, z_row, z_fout, z_offer, z_oc], [z_size, z_policies, z_found, z_told], [z_policy]) K E := by
  refine hw_meth hU hv_DG ⟨rfl, rfl⟩ (fun w X hs hX hF => ?_)
  have cuts : ∀ n : Nat, (∀ (u m p : Int) (f g : Int → Int) (ul00 ul01 : Option hw_V), 0 ≤ u → u ≤ 40 → 0 ≤ m → m ≤ 3 → 0 ≤ p → p ≤ m → p ≤ 3 → fo_ok p u f → gi_ok u g z_commands → hs_b z_home m z_commands u → (100 * (z_modules - m) + 90).toNat < n → w (9, [some (hw_R 37 0), some (hw_I (a)), some (hw_I (u)), some (hw_I (m)), ul00, ul01], [], ([z_used, z_broken, z_fed, z_textEnd, z_made, z_mready, z_modules, z_actions, z_target, z_variables, z_commands, z_updates, z_steps, z_waiting, z_nested, z_type, z_wantsOperand, z_variablesKnown, z_names, z_ownFrom, z_at, z_wrongAt, p, z_states, z_choices, z_outcomes, z_sready, z_many], [z_fc, z_role, z_holds, z_fu, z_taken, f, z_home, z_row, z_fout, g, z_oc], [z_size, z_policies, z_found, z_told], [z_policy]))) ∧ (∀ (u m h c p : Int) (f g : Int → Int), 0 ≤ u → u ≤ 40 → 0 ≤ m → m < z_modules → m ≤ 2 → 0 ≤ p → p ≤ m → p ≤ 2 → 0 ≤ c → c ≤ z_commands → hs_fp f p u h → fo_ok p (f p) f → gi_ok u g z_commands → hs_le z_home m c z_commands u → (100 * (z_modules - m) + 50 - c).toNat < n → w (36, [some (hw_R 37 0), some (hw_I (a)), some (hw_I (u)), some (hw_I (m)), some (hw_I (h)), some (hw_I (c))], [], ([z_used, z_broken, z_fed, z_textEnd, z_made, z_mready, z_modules, z_actions, z_target, z_variables, z_commands, z_updates, z_steps, z_waiting, z_nested, z_type, z_wantsOperand, z_variablesKnown, z_names, z_ownFrom, z_at, z_wrongAt, p, z_states, z_choices, z_outcomes, z_sready, z_many], [z_fc, z_role, z_holds, z_fu, z_taken, f, z_home, z_row, z_fout, g, z_oc], [z_size, z_policies, z_found, z_told], [z_policy]))) := by
    intro n
    induction n with
    | zero =>
      repeat' (first | refine And.intro ?_ ?_ | intro _)
      all_goals omega
    | succ n ih =>
      obtain ⟨ih0, ih1⟩ := ih
      refine ⟨?_, ?_⟩
      · intros
        refine hF (L' := [some _, some _, some _, some _, none, none]) (by repeat' (first | exact True.intro | refine And.intro rfl ?_)) ?_
        refine hs [] _ rfl ?_
        conv => whnf
        repeat' (first | refine hw_ex32 ⟨by omega, by omega⟩ ?_ | (intro h; exact absurd h (by decide)) | intro _ | refine And.intro ?_ ?_ | (refine hs [9, 36] _ rfl ?_; conv => whnf) | apply ih0 | apply ih1 | apply hK | apply hK1)
        (all_goals clear ih0 ih1); all_goals (first | exact Nat.lt_succ_self _ | assumption | omega | exact fo_0 | exact gi_0 | (refine hs_b_0 ?_; omega) | (refine of_mk ?_ ?_ <;> assumption) | (refine fo_st ?_; assumption) | exact hs_fp_0 | (refine hs_fp_1 (by assumption) ?_; omega) | (exact fo_h0 (by assumption) (by assumption) (by assumption)) | (refine fo_h1 (by assumption) (by assumption) ?_ ?_ <;> first | assumption | omega) | (refine hs_le_0 ?_; assumption) | (refine hs_le_t (by assumption) ?_ ?_ ?_ ?_ <;> first | assumption | omega) | (refine hs_le_s (by assumption) ?_ ?_ <;> first | assumption | omega) | (refine hs_le_e (by assumption) ?_ ?_ ?_ ?_ <;> first | assumption | omega) | (refine gi_push ?_ ?_ ?_ <;> first | assumption | omega) | (have hlu := hs_le_u (by assumption) (by assumption) (by assumption) (by assumption); omega) | (clear hs hX hF hK hK1; simp only [hw_lqe, if_true] at *; omega) | (clear hs hX hF hK hK1; fail))
      · intros
        refine hs [] _ rfl ?_
        conv => whnf
        repeat' (first | refine hw_ex32 ⟨by omega, by omega⟩ ?_ | (intro h; exact absurd h (by decide)) | intro _ | refine And.intro ?_ ?_ | (refine hs [9, 36] _ rfl ?_; conv => whnf) | apply ih0 | apply ih1 | apply hK | apply hK1)
        (all_goals clear ih0 ih1); all_goals (first | exact Nat.lt_succ_self _ | assumption | omega | exact fo_0 | exact gi_0 | (refine hs_b_0 ?_; omega) | (refine of_mk ?_ ?_ <;> assumption) | (refine fo_st ?_; assumption) | exact hs_fp_0 | (refine hs_fp_1 (by assumption) ?_; omega) | (exact fo_h0 (by assumption) (by assumption) (by assumption)) | (refine fo_h1 (by assumption) (by assumption) ?_ ?_ <;> first | assumption | omega) | (refine hs_le_0 ?_; assumption) | (refine hs_le_t (by assumption) ?_ ?_ ?_ ?_ <;> first | assumption | omega) | (refine hs_le_s (by assumption) ?_ ?_ <;> first | assumption | omega) | (refine hs_le_e (by assumption) ?_ ?_ ?_ ?_ <;> first | assumption | omega) | (refine gi_push ?_ ?_ ?_ <;> first | assumption | omega) | (have hlu := hs_le_u (by assumption) (by assumption) (by assumption) (by assumption); omega) | (clear hs hX hF hK hK1; simp only [hw_lqe, if_true] at *; omega) | (clear hs hX hF hK hK1; fail))
  repeat' (first | refine hw_ex32 ⟨by omega, by omega⟩ ?_ | (intro h; exact absurd h (by decide)) | intro _ | refine And.intro ?_ ?_ | (refine hs [9, 36] _ rfl ?_; conv => whnf) | apply (cuts _).1 | apply (cuts _).2 | apply hK | apply hK1)
  all_goals (first | exact Nat.lt_succ_self _ | assumption | omega | exact fo_0 | exact gi_0 | (refine hs_b_0 ?_; omega) | (refine of_mk ?_ ?_ <;> assumption) | (refine fo_st ?_; assumption) | exact hs_fp_0 | (refine hs_fp_1 (by assumption) ?_; omega) | (exact fo_h0 (by assumption) (by assumption) (by assumption)) | (refine fo_h1 (by assumption) (by assumption) ?_ ?_ <;> first | assumption | omega) | (refine hs_le_0 ?_; assumption) | (refine hs_le_t (by assumption) ?_ ?_ ?_ ?_ <;> first | assumption | omega) | (refine hs_le_s (by assumption) ?_ ?_ <;> first | assumption | omega) | (refine hs_le_e (by assumption) ?_ ?_ ?_ ?_ <;> first | assumption | omega) | (refine gi_push ?_ ?_ ?_ <;> first | assumption | omega) | (have hlu := hs_le_u (by assumption) (by assumption) (by assumption) (by assumption); omega) | (clear hs hX hF hK hK1; simp only [hw_lqe, if_true] at *; omega) | (clear hs hX hF hK hK1; fail))
end C4a
