/-! the model: the chances of a command are 1 together -/
section CY5g
variable {scr : Nat × (Nat → Int32)} {d : Nat} {K : Option hw_V → hw_Z → Prop} {E : Nat → hw_Z → Prop} {Z : hw_Z} {kof : Nat → Nat × Int} {own : Nat → Prop} {z_m_err z_m_fed z_m_wrong z_m_letters z_m_there z_m_kind z_m_word z_m_from z_m_to z_m_tokens z_m_names z_m_vars z_m_modules z_m_commands z_m_actions z_m_target z_m_phase z_m_codes z_m_deep z_m_bool z_m_broken z_m_explored z_m_states z_m_choices z_m_outcomes z_m_problem : Int} {z_m_text z_m_nameFrom z_m_nameSize z_m_nameKind z_m_nameValue z_m_actionFrom z_m_actionSize z_m_commandModule z_m_commandAction z_m_guard z_m_updates z_m_over z_m_under z_m_setTo z_m_code z_m_firstChoice z_m_firstOutcome z_m_goesTo z_m_taken z_m_step z_m_chosen z_m_isTarget z_m_holds z_m_above z_m_below z_m_solved z_m_known z_m_zero z_m_policy z_m_unknown z_m_index z_m_got z_m_set z_m_stack z_m_now z_m_next z_m_value z_m_octets z_m_varModule z_m_low z_m_high z_m_first z_m_isBool z_nn : Int → Int} {z_dg : Int → Int → Int}
theorem yqin_pow {B : Int} (hB : 1 ≤ B) {n m : Nat} (h : n ≤ m) : B ^ n ≤ B ^ m ∧ True := by
  refine ⟨?_, trivial⟩
  induction m with
  | zero => rw [Nat.le_zero.mp h]; exact Int.le_refl _
  | succ m ih =>
    by_cases e : n = m + 1
    · rw [e]; exact Int.le_refl _
    · have z := ih (by omega)
      rw [Int.pow_succ]
      have p : 0 ≤ B ^ m := Int.pow_nonneg (by omega)
      have q := Int.mul_le_mul_of_nonneg_left hB p
      omega
def yqpu (f : Int → Int) (b : Int) : Nat → Int
  | 0 => 1
  | n + 1 => yqpu f b n * f (b + n)
def yqsu (v f : Int → Int) (b A : Int) : Nat → Int
  | 0 => 0
  | n + 1 => yqsu v f b A n + A / f (b + n) * v (b + n)
def yqpr1 (f : Int → Int) (b j A : Int) : Prop := ∃ n : Nat, j = n ∧ A = yqpu f b n ∧ 1 ≤ A ∧ A ≤ 1000 ^ n
theorem yqp1_0 {f : Int → Int} {b : Int} : yqpr1 f b 0 1 := ⟨0, rfl, rfl, by decide, by decide⟩
theorem yqp1_e {f : Int → Int} {b j A p : Int} (h : yqpr1 f b j A) (hp : p = j) : yqpr1 f b p A := hp ▸ h
theorem yqp1_b {f : Int → Int} {b j A : Int} (h : yqpr1 f b j A) (hj : j ≤ 6) : 1 ≤ A ∧ A ≤ 1000000000000000000 := by
  obtain ⟨n, h1, h2, h3, h4⟩ := h
  have h5 := (yqin_pow (B := 1000) (by decide) (show n ≤ 6 by omega)).1
  have e : (1000 : Int) ^ 6 = 1000000000000000000 := by decide
  omega
theorem yqp1_s {f : Int → Int} {b j A z q p : Int} (h : yqpr1 f b j A) (hz : z = A * f (b + j) + 18446744073709551616 * q) (hr : -9223372036854775808 ≤ z ∧ z ≤ 9223372036854775807) (hf : 1 ≤ f (b + j) ∧ f (b + j) ≤ 1000) (hj : j ≤ 5) (hp : p = j + 1) : yqpr1 f b p z := by
  subst hp
  obtain ⟨n, rfl, rfl, h3, h4⟩ := h
  have a1 := Int.mul_le_mul_of_nonneg_left hf.2 (by omega : 0 ≤ yqpu f b n)
  have a2 := Int.mul_le_mul_of_nonneg_left hf.1 (by omega : 0 ≤ yqpu f b n)
  have a3 := (yqin_pow (B := 1000) (by decide) (show n ≤ 5 by omega)).1
  have e : (1000 : Int) ^ 5 = 1000000000000000 := by decide
  have e2 : z = yqpu f b n * f (b + n) := by omega
  refine ⟨n + 1, by omega, e2, by omega, ?_⟩
  rw [Int.pow_succ]
  omega
def yqsu1 (v f : Int → Int) (b A j S : Int) : Prop := ∃ n : Nat, j = n ∧ S = yqsu v f b A n ∧ 0 ≤ S ∧ S ≤ n * 1000000000000000000
theorem yqs1_0 {v f : Int → Int} {b A : Int} : yqsu1 v f b A 0 0 := ⟨0, rfl, rfl, by omega, by omega⟩
theorem yqs1_s {v f : Int → Int} {b A j S w x z q r p : Int} (h : yqsu1 v f b A j S) (hw : 0 ≤ A → 0 < f (b + j) → w = A / f (b + j) ∧ 0 ≤ w ∧ w ≤ A) (hx : x = w * v (b + j) + 18446744073709551616 * q) (hxr : -9223372036854775808 ≤ x ∧ x ≤ 9223372036854775807) (hz : z = S + x + 18446744073709551616 * r) (hzr : -9223372036854775808 ≤ z ∧ z ≤ 9223372036854775807) (hA : 1 ≤ A ∧ A ≤ 1000000000000000000) (hv : 1 ≤ v (b + j) ∧ v (b + j) ≤ f (b + j)) (hj : j ≤ 5) (hp : p = j + 1) : yqsu1 v f b A p z := by
  subst hp
  obtain ⟨n, rfl, rfl, h3, h4⟩ := h
  have h5 := hw (by omega) (by omega)
  have a1 := Int.mul_le_mul_of_nonneg_left hv.2 h5.2.1
  have a2 : w * f (b + n) ≤ A := by rw [h5.1]; exact Int.ediv_mul_le A (by omega)
  have a3 := Int.mul_nonneg h5.2.1 (by omega : 0 ≤ v (b + n))
  have e1 : x = w * v (b + n) := by omega
  have e2 : z = yqsu v f b A n + w * v (b + n) := by omega
  refine ⟨n + 1, by omega, ?_, by omega, by omega⟩
  rw [e2, h5.1]
  rfl
theorem yqs1_b {v f : Int → Int} {b A j S : Int} (h : yqsu1 v f b A j S) (hj : j ≤ 6) : 0 ≤ S ∧ S ≤ 6000000000000000000 := by
  obtain ⟨n, h1, h2, h3, h4⟩ := h
  omega
/-- a common divisor is sought -/
def udv (a b x y : Int) : Prop := ∃ _ : Unit, 0 ≤ x ∧ 0 ≤ y ∧ (1 ≤ x ∨ 1 ≤ y) ∧ ∀ g : Int, g ∣ x → g ∣ y → g ∣ a ∧ g ∣ b
theorem udv_0 {a b : Int} (ha : 1 ≤ a) (hb : 1 ≤ b) : udv a b a b := ⟨(), by omega, by omega, Or.inl ha, fun g h1 h2 => ⟨h1, h2⟩⟩
theorem udv_s {a b x y z : Int} (h : udv a b x y) (hy : 1 ≤ y) (hz : z = x % y) : udv a b y z := by
  subst hz
  obtain ⟨_, h1, h2, h3, h4⟩ := h
  refine ⟨(), h2, Int.emod_nonneg x (by omega), Or.inl hy, fun g g1 g2 => h4 g ?_ g1⟩
  have e := Int.mul_ediv_add_emod x y
  rw [← e]
  exact Int.dvd_add (Int.dvd_trans g1 ⟨x / y, rfl⟩) g2
theorem udv_e {a b x y : Int} (h : udv a b x y) (hy : y = 0) : 1 ≤ x ∧ x ∣ a ∧ x ∣ b := by
  subst hy
  obtain ⟨_, h1, h2, h3, h4⟩ := h
  exact ⟨by omega, h4 x (Int.dvd_refl x) (Int.dvd_zero x)⟩
/-- shares as the model keeps them -/
def uqr (v f : Int → Int) (b : Int) (Q : List (Int × Int)) : Prop := ∃ _ : Unit, ∀ i : Nat, i < Q.length → ∃ X Y : Int, Q[i]? = some (X, Y) ∧ (1 ≤ v (b + i) ∧ v (b + i) ≤ f (b + i) ∧ f (b + i) ≤ 1000) ∧ (1 ≤ X ∧ X ≤ Y ∧ Y ≤ 1000) ∧ v (b + i) * Y = X * f (b + i)
def uqn (Q : List (Int × Int)) : Prop := ∃ _ : Unit, ¬ qone Q
theorem uqr_0 {v f : Int → Int} {b : Int} : uqr v f b [] := ⟨(), fun i h => absurd h (Nat.not_lt_zero i)⟩
theorem uqr_b {v f : Int → Int} {b j : Int} {Q : List (Int × Int)} (h : uqr v f b Q) (h0 : 0 ≤ j) (h1 : j < (Q.length : Int)) : 1 ≤ v (b + j) ∧ v (b + j) ≤ f (b + j) ∧ f (b + j) ≤ 1000 := by
  obtain ⟨_, h⟩ := h
  obtain ⟨X, Y, _, z, _⟩ := h j.toNat (by omega)
  rw [show ((j.toNat : Nat) : Int) = j by omega] at z
  exact z
theorem uqr_s {v f v' f' : Int → Int} {b p x y X Y : Int} {Q : List (Int × Int)} (h : uqr v f b Q) (hp : p = b + (Q.length : Int)) (hv : v' = hw_up v p x) (hf : f' = hw_up f p y) (h1 : 1 ≤ x ∧ x ≤ y ∧ y ≤ 1000) (h2 : 1 ≤ X ∧ X ≤ Y ∧ Y ≤ 1000) (he : x * Y = X * y) : uqr v' f' b (Q ++ [(X, Y)]) := by
  subst hv hf hp
  obtain ⟨_, h⟩ := h
  refine ⟨(), fun i hi => ?_⟩
  rw [List.length_append] at hi
  have hi2 : i < Q.length + 1 := hi
  by_cases e : i = Q.length
  · subst e
    refine ⟨X, Y, ?_, ?_, h2, ?_⟩
    · rw [List.getElem?_append_right (Nat.le_refl _), Nat.sub_self]; rfl
    · rw [hw_up_s, hw_up_s]; exact h1
    · rw [hw_up_s, hw_up_s]; exact he
  · obtain ⟨X', Y', z1, z2⟩ := h i (by omega)
    refine ⟨X', Y', ?_, ?_⟩
    · rw [List.getElem?_append_left (by omega)]; exact z1
    · rw [hw_up_n (by omega), hw_up_n (by omega)]; exact z2
theorem uqr_d {v f : Int → Int} {b j x y g p : Int} {Q : List (Int × Int)} (h : uqr v f b Q) (h0 : 0 ≤ j) (hl : j < (Q.length : Int)) (hp : p = b + j) (hg : 1 ≤ g ∧ g ∣ v p ∧ g ∣ f p) (hx : x = v p / g) (hy : y = f p / g) : uqr (hw_up v p x) (hw_up f p y) b Q := by
  subst hp
  have hb := uqr_b h h0 hl
  obtain ⟨g1, ⟨c, hc⟩, ⟨e, he⟩⟩ := hg
  have ex : x = c := by rw [hx, hc]; exact Int.mul_ediv_cancel_left c (by omega)
  have ey : y = e := by rw [hy, he]; exact Int.mul_ediv_cancel_left e (by omega)
  subst ex ey
  have hc1 : 1 ≤ x := by
    refine Classical.byContradiction (fun z => ?_)
    have : g * x ≤ g * 0 := Int.mul_le_mul_of_nonneg_left (by omega) (by omega)
    rw [Int.mul_zero] at this
    omega
  have hxy : x ≤ y := by
    refine Classical.byContradiction (fun z => ?_)
    have : g * (y + 1) ≤ g * x := Int.mul_le_mul_of_nonneg_left (by omega) (by omega)
    rw [Int.mul_add, Int.mul_one] at this
    omega
  have hy1 : y ≤ 1000 := by
    have : 1 * y ≤ g * y := Int.mul_le_mul_of_nonneg_right g1 (by omega)
    rw [Int.one_mul] at this
    omega
  obtain ⟨_, h⟩ := h
  refine ⟨(), fun i hi => ?_⟩
  obtain ⟨X, Y, z1, z2, z3, z4⟩ := h i hi
  by_cases q : (i : Int) = j
  · rw [q] at z4 ⊢
    refine ⟨X, Y, z1, ?_, z3, ?_⟩
    · rw [hw_up_s, hw_up_s]; exact ⟨hc1, hxy, hy1⟩
    · rw [hw_up_s, hw_up_s]
      rw [hc, he] at z4
      have z5 : g * (x * Y) = g * (X * y) := by rw [← Int.mul_assoc, z4, Int.mul_left_comm]
      exact Int.eq_of_mul_eq_mul_left (show g ≠ 0 by omega) z5
  · refine ⟨X, Y, z1, ?_, z3, ?_⟩
    · rw [hw_up_n (by omega), hw_up_n (by omega)]; exact z2
    · rw [hw_up_n (by omega), hw_up_n (by omega)]; exact z4
theorem uqr_dd {v f : Int → Int} {b j x y g p : Int} {Q : List (Int × Int)} (h : uqr v f b Q) (h0 : 0 ≤ j) (hl : j < (Q.length : Int)) (hp : p = b + j) (h1 : 1 ≤ g) (h2 : g ∣ v p) (h3 : g ∣ f p) (hx : 0 ≤ v p → 0 < g → x = v p / g ∧ 0 ≤ x ∧ x ≤ v p) (hy : 0 ≤ f p → 0 < g → y = f p / g ∧ 0 ≤ y ∧ y ≤ f p) : uqr (hw_up v p x) (hw_up f p y) b Q := by
  have z := uqr_b h h0 hl
  rw [← hp] at z
  exact uqr_d h h0 hl hp ⟨h1, h2, h3⟩ (hx (by omega) (by omega)).1 (hy (by omega) (by omega)).1
theorem yqpu_d {f : Int → Int} {b : Int} : ∀ (n i : Nat), i < n → f (b + i) ∣ yqpu f b n := by
  intro n
  induction n with
  | zero => intro i h; exact absurd h (Nat.not_lt_zero i)
  | succ n ih =>
    intro i h
    show f (b + i) ∣ yqpu f b n * f (b + n)
    by_cases e : i = n
    · subst e; exact ⟨yqpu f b i, Int.mul_comm _ _⟩
    · exact Int.dvd_trans (ih i (by omega)) ⟨f (b + n), rfl⟩
theorem ysh_r {to : Int → Int} : ∀ (n : Nat) (b : Int), shsum to b (n + 1) = shsum to b n + to (b + n) := by
  intro n
  induction n with
  | zero =>
    intro b
    show to b + 0 = 0 + to (b + ((0 : Nat) : Int))
    rw [show b + ((0 : Nat) : Int) = b by omega]
    omega
  | succ n ih =>
    intro b
    show to b + shsum to (b + 1) (n + 1) = (to b + shsum to (b + 1) n) + to (b + ((n + 1 : Nat) : Int))
    rw [ih (b + 1), show b + 1 + (n : Int) = b + ((n + 1 : Nat) : Int) by omega]
    omega
theorem yqsu_sh {v f : Int → Int} {b A : Int} : ∀ n : Nat, yqsu v f b A n = shsum (fun i => A / f i * v i) b n := by
  intro n
  induction n with
  | zero => rfl
  | succ n ih =>
    rw [ysh_r]
    show yqsu v f b A n + A / f (b + n) * v (b + n) = _
    rw [ih]
theorem uqr_shq {v f : Int → Int} {A : Int} : ∀ (Q : List (Int × Int)) (b : Int), uqr v f b Q → (∀ i : Nat, i < Q.length → f (b + i) ∣ A) → shq A (fun i => A / f i * v i) b Q := by
  intro Q
  induction Q with
  | nil => intro b _ _; trivial
  | cons e Q ih =>
    obtain ⟨X', Y'⟩ := e
    intro b h hd
    obtain ⟨_, h⟩ := h
    refine ⟨?_, ih (b + 1) ⟨(), fun i hi => ?_⟩ (fun i hi => ?_)⟩
    · obtain ⟨X, Y, z1, z2, z3, z4⟩ := h 0 (by rw [List.length_cons]; omega)
      have d0 := hd 0 (by rw [List.length_cons]; omega)
      rw [show b + ((0 : Nat) : Int) = b by omega] at z2 z4 d0
      have z1' : (X', Y') = (X, Y) := Option.some.inj z1
      injection z1' with e1 e2
      subst e1 e2
      refine ⟨z3.1, z3.2.1, z3.2.2, ?_⟩
      obtain ⟨c, hc⟩ := d0
      have e3 : A / f b = c := by rw [hc]; exact Int.mul_ediv_cancel_left c (by omega)
      show A / f b * v b * Y' = X' * A
      rw [e3, Int.mul_assoc, z4, hc, Int.mul_comm c, Int.mul_assoc]
    · obtain ⟨X, Y, z⟩ := h (i + 1) (by rw [List.length_cons]; omega)
      refine ⟨X, Y, z.1, ?_⟩
      rw [show b + 1 + (i : Int) = b + ((i + 1 : Nat) : Int) by omega]
      exact z.2
    · rw [show b + 1 + (i : Int) = b + ((i + 1 : Nat) : Int) by omega]
      exact hd (i + 1) (by rw [List.length_cons]; omega)
theorem uq_one {v f : Int → Int} {b i j A S u : Int} {Q : List (Int × Int)} (h : uqr v f b Q) (hl : (Q.length : Int) = u) (h1 : yqpr1 f b i A) (h2 : yqsu1 v f b A j S) (hi : i = u) (hj : j = u) : S = A ↔ qone Q := by
  obtain ⟨n, e1, e2, e3, _⟩ := h1
  obtain ⟨m, e4, e5, _⟩ := h2
  obtain rfl : n = Q.length := by omega
  obtain rfl : m = Q.length := by omega
  rw [e5, yqsu_sh]
  exact shq_one (uqr_shq Q b h (fun i hi => by rw [e2]; exact yqpu_d _ i hi)) e3
theorem u_divisor (hU : hw_U (hm_T kof own)) {a b : Int} (ha : 1 ≤ a) (hb : 1 ≤ b) (hK : ∀ (r : Int), 1 ≤ r → r ∣ a → r ∣ b → K (some (hw_I r)) ([z_m_err, z_m_fed, z_m_wrong, z_m_letters, z_m_there, z_m_kind, z_m_word, z_m_from, z_m_to, z_m_tokens, z_m_names, z_m_vars, z_m_modules, z_m_commands, z_m_actions, z_m_target, z_m_phase, z_m_codes, z_m_deep, z_m_bool, z_m_broken, z_m_explored, z_m_states, z_m_choices, z_m_outcomes, z_m_problem], [z_m_text, z_m_nameFrom, z_m_nameSize, z_m_nameKind, z_m_nameValue, z_m_actionFrom, z_m_actionSize, z_m_commandModule, z_m_commandAction, z_m_guard, z_m_updates, z_m_over, z_m_under, z_m_setTo, z_m_code, z_m_firstChoice, z_m_firstOutcome, z_m_goesTo, z_m_taken, z_m_step, z_m_chosen, z_m_isTarget, z_m_holds, z_m_above, z_m_below, z_m_solved, z_m_known, z_m_zero, z_m_policy, z_m_unknown, z_m_index, z_m_got, z_m_set, z_m_stack, z_m_now, z_m_next, z_m_value, z_m_octets, z_m_varModule, z_m_low, z_m_high, z_m_first, z_m_isBool], [z_nn], [z_dg])) : hw_C pg_G pg_TT scr (hm_T kof own) (d + 1) 236 [hw_I a, hw_I b] ([z_m_err, z_m_fed, z_m_wrong, z_m_letters, z_m_there, z_m_kind, z_m_word, z_m_from, z_m_to, z_m_tokens, z_m_names, z_m_vars, z_m_modules, z_m_commands, z_m_actions, z_m_target, z_m_phase, z_m_codes, z_m_deep, z_m_bool, z_m_broken, z_m_explored, z_m_states, z_m_choices, z_m_outcomes, z_m_problem], [z_m_text, z_m_nameFrom, z_m_nameSize, z_m_nameKind, z_m_nameValue, z_m_actionFrom, z_m_actionSize, z_m_commandModule, z_m_commandAction, z_m_guard, z_m_updates, z_m_over, z_m_under, z_m_setTo, z_m_code, z_m_firstChoice, z_m_firstOutcome, z_m_goesTo, z_m_taken, z_m_step, z_m_chosen, z_m_isTarget, z_m_holds, z_m_above, z_m_below, z_m_solved, z_m_known, z_m_zero, z_m_policy, z_m_unknown, z_m_index, z_m_got, z_m_set, z_m_stack, z_m_now, z_m_next, z_m_value, z_m_octets, z_m_varModule, z_m_low, z_m_high, z_m_first, z_m_isBool], [z_nn], [z_dg]) K E := by
  refine hw_meth hU hv_DG ⟨rfl, rfl⟩ (fun w X hs hX hF => ?_)
  have cuts : ∀ n : Nat, (∀ (x y : Int) (ulp0 : Option hw_V), 0 ≤ x → 0 ≤ y → udv a b x y → (y).toNat < n → w (4, [some (hw_I (a)), some (hw_I (b)), some (hw_I (x)), some (hw_I (y)), ulp0], [], ([z_m_err, z_m_fed, z_m_wrong, z_m_letters, z_m_there, z_m_kind, z_m_word, z_m_from, z_m_to, z_m_tokens, z_m_names, z_m_vars, z_m_modules, z_m_commands, z_m_actions, z_m_target, z_m_phase, z_m_codes, z_m_deep, z_m_bool, z_m_broken, z_m_explored, z_m_states, z_m_choices, z_m_outcomes, z_m_problem], [z_m_text, z_m_nameFrom, z_m_nameSize, z_m_nameKind, z_m_nameValue, z_m_actionFrom, z_m_actionSize, z_m_commandModule, z_m_commandAction, z_m_guard, z_m_updates, z_m_over, z_m_under, z_m_setTo, z_m_code, z_m_firstChoice, z_m_firstOutcome, z_m_goesTo, z_m_taken, z_m_step, z_m_chosen, z_m_isTarget, z_m_holds, z_m_above, z_m_below, z_m_solved, z_m_known, z_m_zero, z_m_policy, z_m_unknown, z_m_index, z_m_got, z_m_set, z_m_stack, z_m_now, z_m_next, z_m_value, z_m_octets, z_m_varModule, z_m_low, z_m_high, z_m_first, z_m_isBool], [z_nn], [z_dg]))) := by
    intro n
    induction n with
    | zero =>
      repeat' (first | refine And.intro ?_ ?_ | intro _)
      all_goals omega
    | succ n ih =>
      intro x y
      intros
      refine hF (L' := [some _, some _, some _, some _, none]) (by repeat' (first | exact True.intro | refine And.intro rfl ?_)) ?_
      refine hs [] _ rfl ?_
      conv => whnf
      repeat' (first | refine hw_ex32 ⟨by omega, by omega⟩ ?_ | (intro h; exact absurd h (by decide)) | intro _ | refine And.intro ?_ ?_ | (refine hs [4] _ rfl ?_; conv => whnf) | apply ih | apply hK)
      (all_goals clear ih); all_goals (first | with_reducible exact Nat.lt_succ_self _ | with_reducible assumption | omega | exact udv_0 ha hb | (with_reducible exact udv_s (by with_reducible assumption) (by omega) (by omega)) | (clear hs hX hF hK; fail) | (have E := udv_e (by with_reducible assumption) (by omega); first | exact E.1 | exact E.2.1 | exact E.2.2))
  repeat' (first | refine hw_ex32 ⟨by omega, by omega⟩ ?_ | (intro h; exact absurd h (by decide)) | intro _ | refine And.intro ?_ ?_ | (refine hs [4] _ rfl ?_; conv => whnf) | apply (cuts _) | apply hK)
  all_goals (first | with_reducible exact Nat.lt_succ_self _ | with_reducible assumption | omega | exact udv_0 ha hb | (with_reducible exact udv_s (by with_reducible assumption) (by omega) (by omega)) | (clear hs hX hF hK; fail) | (have E := udv_e (by with_reducible assumption) (by omega); first | exact E.1 | exact E.2.1 | exact E.2.2))
set_option maxHeartbeats 4000000 in
theorem u_isOne (hU : hw_U (hm_T kof own)) {k : Int} {Q : List (Int × Int)} (hk : 0 ≤ k ∧ k ≤ 39) (hup : 1 ≤ z_m_updates k ∧ z_m_updates k ≤ 6) (hq : uqr z_m_over z_m_under (k * 6) Q) (hl : (Q.length : Int) = z_m_updates k) (hK : ∀ (v f : Int → Int), qone Q → K (some (hw_I 1)) ([z_m_err, z_m_fed, z_m_wrong, z_m_letters, z_m_there, z_m_kind, z_m_word, z_m_from, z_m_to, z_m_tokens, z_m_names, z_m_vars, z_m_modules, z_m_commands, z_m_actions, z_m_target, z_m_phase, z_m_codes, z_m_deep, z_m_bool, z_m_broken, z_m_explored, z_m_states, z_m_choices, z_m_outcomes, z_m_problem], [z_m_text, z_m_nameFrom, z_m_nameSize, z_m_nameKind, z_m_nameValue, z_m_actionFrom, z_m_actionSize, z_m_commandModule, z_m_commandAction, z_m_guard, z_m_updates, v, f, z_m_setTo, z_m_code, z_m_firstChoice, z_m_firstOutcome, z_m_goesTo, z_m_taken, z_m_step, z_m_chosen, z_m_isTarget, z_m_holds, z_m_above, z_m_below, z_m_solved, z_m_known, z_m_zero, z_m_policy, z_m_unknown, z_m_index, z_m_got, z_m_set, z_m_stack, z_m_now, z_m_next, z_m_value, z_m_octets, z_m_varModule, z_m_low, z_m_high, z_m_first, z_m_isBool], [z_nn], [z_dg])) (hK1 : ∀ (v f : Int → Int), uqn Q → K (some (hw_I 0)) ([z_m_err, z_m_fed, z_m_wrong, z_m_letters, z_m_there, z_m_kind, z_m_word, z_m_from, z_m_to, z_m_tokens, z_m_names, z_m_vars, z_m_modules, z_m_commands, z_m_actions, z_m_target, z_m_phase, z_m_codes, z_m_deep, z_m_bool, z_m_broken, z_m_explored, z_m_states, z_m_choices, z_m_outcomes, z_m_problem], [z_m_text, z_m_nameFrom, z_m_nameSize, z_m_nameKind, z_m_nameValue, z_m_actionFrom, z_m_actionSize, z_m_commandModule, z_m_commandAction, z_m_guard, z_m_updates, v, f, z_m_setTo, z_m_code, z_m_firstChoice, z_m_firstOutcome, z_m_goesTo, z_m_taken, z_m_step, z_m_chosen, z_m_isTarget, z_m_holds, z_m_above, z_m_below, z_m_solved, z_m_known, z_m_zero, z_m_policy, z_m_unknown, z_m_index, z_m_got, z_m_set, z_m_stack, z_m_now, z_m_next, z_m_value, z_m_octets, z_m_varModule, z_m_low, z_m_high, z_m_first, z_m_isBool], [z_nn], [z_dg])) : hw_C pg_G pg_TT scr (hm_T kof own) (d + 2) 235 [hw_R 2 0, hw_I k] ([z_m_err, z_m_fed, z_m_wrong, z_m_letters, z_m_there, z_m_kind, z_m_word, z_m_from, z_m_to, z_m_tokens, z_m_names, z_m_vars, z_m_modules, z_m_commands, z_m_actions, z_m_target, z_m_phase, z_m_codes, z_m_deep, z_m_bool, z_m_broken, z_m_explored, z_m_states, z_m_choices, z_m_outcomes, z_m_problem], [z_m_text, z_m_nameFrom, z_m_nameSize, z_m_nameKind, z_m_nameValue, z_m_actionFrom, z_m_actionSize, z_m_commandModule, z_m_commandAction, z_m_guard, z_m_updates, z_m_over, z_m_under, z_m_setTo, z_m_code, z_m_firstChoice, z_m_firstOutcome, z_m_goesTo, z_m_taken, z_m_step, z_m_chosen, z_m_isTarget, z_m_holds, z_m_above, z_m_below, z_m_solved, z_m_known, z_m_zero, z_m_policy, z_m_unknown, z_m_index, z_m_got, z_m_set, z_m_stack, z_m_now, z_m_next, z_m_value, z_m_octets, z_m_varModule, z_m_low, z_m_high, z_m_first, z_m_isBool], [z_nn], [z_dg]) K E := by
  refine hw_meth hU hv_DG ⟨rfl, rfl⟩ (fun w X hs hX hF => ?_)
  have cuts : ∀ n : Nat, (∀ (j : Int) (v f : Int → Int) (ula0 ula1 ula2 ula3 : Option hw_V), 0 ≤ j → j ≤ z_m_updates k → uqr v f (k * 6) Q → (5000 - j).toNat < n → w (2, [some (hw_R 2 0), some (hw_I (k)), some (hw_I (j)), ula0, ula1, ula2, ula3], [], ([z_m_err, z_m_fed, z_m_wrong, z_m_letters, z_m_there, z_m_kind, z_m_word, z_m_from, z_m_to, z_m_tokens, z_m_names, z_m_vars, z_m_modules, z_m_commands, z_m_actions, z_m_target, z_m_phase, z_m_codes, z_m_deep, z_m_bool, z_m_broken, z_m_explored, z_m_states, z_m_choices, z_m_outcomes, z_m_problem], [z_m_text, z_m_nameFrom, z_m_nameSize, z_m_nameKind, z_m_nameValue, z_m_actionFrom, z_m_actionSize, z_m_commandModule, z_m_commandAction, z_m_guard, z_m_updates, v, f, z_m_setTo, z_m_code, z_m_firstChoice, z_m_firstOutcome, z_m_goesTo, z_m_taken, z_m_step, z_m_chosen, z_m_isTarget, z_m_holds, z_m_above, z_m_below, z_m_solved, z_m_known, z_m_zero, z_m_policy, z_m_unknown, z_m_index, z_m_got, z_m_set, z_m_stack, z_m_now, z_m_next, z_m_value, z_m_octets, z_m_varModule, z_m_low, z_m_high, z_m_first, z_m_isBool], [z_nn], [z_dg]))) ∧ (∀ (A j : Int) (v f : Int → Int), 0 ≤ j → j ≤ z_m_updates k → uqr v f (k * 6) Q → yqpr1 f (k * 6) j A → (4000 - j).toNat < n → w (72, [some (hw_R 2 0), some (hw_I (k)), some (hw_J (A)), none, some (hw_J (0)), none, some (hw_I (j))], [], ([z_m_err, z_m_fed, z_m_wrong, z_m_letters, z_m_there, z_m_kind, z_m_word, z_m_from, z_m_to, z_m_tokens, z_m_names, z_m_vars, z_m_modules, z_m_commands, z_m_actions, z_m_target, z_m_phase, z_m_codes, z_m_deep, z_m_bool, z_m_broken, z_m_explored, z_m_states, z_m_choices, z_m_outcomes, z_m_problem], [z_m_text, z_m_nameFrom, z_m_nameSize, z_m_nameKind, z_m_nameValue, z_m_actionFrom, z_m_actionSize, z_m_commandModule, z_m_commandAction, z_m_guard, z_m_updates, v, f, z_m_setTo, z_m_code, z_m_firstChoice, z_m_firstOutcome, z_m_goesTo, z_m_taken, z_m_step, z_m_chosen, z_m_isTarget, z_m_holds, z_m_above, z_m_below, z_m_solved, z_m_known, z_m_zero, z_m_policy, z_m_unknown, z_m_index, z_m_got, z_m_set, z_m_stack, z_m_now, z_m_next, z_m_value, z_m_octets, z_m_varModule, z_m_low, z_m_high, z_m_first, z_m_isBool], [z_nn], [z_dg]))) ∧ (∀ (A S j : Int) (v f : Int → Int), 0 ≤ j → j ≤ z_m_updates k → uqr v f (k * 6) Q → yqpr1 f (k * 6) (z_m_updates k) A → 1 ≤ A → A ≤ 1000000000000000000 → yqsu1 v f (k * 6) A j S → (3000 - j).toNat < n → w (108, [some (hw_R 2 0), some (hw_I (k)), some (hw_J (A)), none, some (hw_J (S)), none, some (hw_I (j))], [], ([z_m_err, z_m_fed, z_m_wrong, z_m_letters, z_m_there, z_m_kind, z_m_word, z_m_from, z_m_to, z_m_tokens, z_m_names, z_m_vars, z_m_modules, z_m_commands, z_m_actions, z_m_target, z_m_phase, z_m_codes, z_m_deep, z_m_bool, z_m_broken, z_m_explored, z_m_states, z_m_choices, z_m_outcomes, z_m_problem], [z_m_text, z_m_nameFrom, z_m_nameSize, z_m_nameKind, z_m_nameValue, z_m_actionFrom, z_m_actionSize, z_m_commandModule, z_m_commandAction, z_m_guard, z_m_updates, v, f, z_m_setTo, z_m_code, z_m_firstChoice, z_m_firstOutcome, z_m_goesTo, z_m_taken, z_m_step, z_m_chosen, z_m_isTarget, z_m_holds, z_m_above, z_m_below, z_m_solved, z_m_known, z_m_zero, z_m_policy, z_m_unknown, z_m_index, z_m_got, z_m_set, z_m_stack, z_m_now, z_m_next, z_m_value, z_m_octets, z_m_varModule, z_m_low, z_m_high, z_m_first, z_m_isBool], [z_nn], [z_dg]))) := by
    intro n
    induction n with
    | zero =>
      repeat' (first | refine And.intro ?_ ?_ | intro _)
      all_goals omega
    | succ n ih =>
      obtain ⟨ih0, ih1, ih2⟩ := ih
      refine ⟨?_, ?_, ?_⟩
      · intro j v f
        intros
        refine hF (L' := [some _, some _, some _, none, none, none, none]) (by repeat' (first | exact True.intro | refine And.intro rfl ?_)) ?_
        refine hs [] _ rfl ?_
        conv => whnf
        repeat' (first | refine hw_ex32 ⟨by omega, by omega⟩ ?_ | (intro h; exact absurd h (by decide)) | intro _ | refine And.intro ?_ ?_ | (refine hs [2, 72, 108] _ rfl ?_; conv => whnf) | apply ih0 | apply ih1 | apply ih2 | apply hK | apply hK1 | (apply hX; refine u_divisor hU ?_ ?_ ?_))
        (all_goals clear ih0 ih1 ih2); all_goals (first | with_reducible exact Nat.lt_succ_self _ | with_reducible assumption | omega | (with_reducible exact yqp1_e (by with_reducible assumption) (by omega)) | (with_reducible exact yqp1_0) | (with_reducible exact yqs1_0) | (have C := uqr_b (j := j) (b := k * 6) (by with_reducible assumption) (by omega) (by omega); omega) | (with_reducible exact uqr_dd (j := j) (by with_reducible assumption) (by omega) (by omega) rfl (by with_reducible assumption) (by with_reducible assumption) (by with_reducible assumption) (by with_reducible assumption) (by with_reducible assumption)) | (have PB := yqp1_b (by with_reducible assumption) (by omega); omega) | (have SB := yqs1_b (by with_reducible assumption) (by omega); omega) | (have C := uqr_b (j := j) (b := k * 6) (by with_reducible assumption) (by omega) (by omega); with_reducible exact yqp1_s (by with_reducible assumption) (by with_reducible assumption) (by with_reducible assumption) (by omega) (by omega) (by omega)) | (have C := uqr_b (j := j) (b := k * 6) (by with_reducible assumption) (by omega) (by omega); have T := yqp1_s (by with_reducible assumption) (by with_reducible assumption) (by with_reducible assumption) (by omega) (by omega) rfl; have PB := yqp1_b T (by omega); omega) | (have C := uqr_b (j := j) (b := k * 6) (by with_reducible assumption) (by omega) (by omega); with_reducible exact yqs1_s (by with_reducible assumption) (by with_reducible assumption) (by with_reducible assumption) (by with_reducible assumption) (by with_reducible assumption) (by with_reducible assumption) (by omega) (by omega) (by omega) (by omega)) | (exact (uq_one (by with_reducible assumption) hl (by with_reducible assumption) (by with_reducible assumption) (by omega) (by omega)).mp (by omega)) | (exact ⟨(), fun z => absurd ((uq_one (by with_reducible assumption) hl (by with_reducible assumption) (by with_reducible assumption) (by omega) (by omega)).mpr z) (by omega)⟩) | (clear hs hX hF hK hK1; fail))
      · intro A j v f
        intros
        refine hs [] _ rfl ?_
        conv => whnf
        repeat' (first | refine hw_ex32 ⟨by omega, by omega⟩ ?_ | (intro h; exact absurd h (by decide)) | intro _ | refine And.intro ?_ ?_ | (refine hs [2, 72, 108] _ rfl ?_; conv => whnf) | apply ih0 | apply ih1 | apply ih2 | apply hK | apply hK1 | (apply hX; refine u_divisor hU ?_ ?_ ?_))
        (all_goals clear ih0 ih1 ih2); all_goals (first | with_reducible exact Nat.lt_succ_self _ | with_reducible assumption | omega | (with_reducible exact yqp1_e (by with_reducible assumption) (by omega)) | (with_reducible exact yqp1_0) | (with_reducible exact yqs1_0) | (have C := uqr_b (j := j) (b := k * 6) (by with_reducible assumption) (by omega) (by omega); omega) | (with_reducible exact uqr_dd (j := j) (by with_reducible assumption) (by omega) (by omega) rfl (by with_reducible assumption) (by with_reducible assumption) (by with_reducible assumption) (by with_reducible assumption) (by with_reducible assumption)) | (have PB := yqp1_b (by with_reducible assumption) (by omega); omega) | (have SB := yqs1_b (by with_reducible assumption) (by omega); omega) | (have C := uqr_b (j := j) (b := k * 6) (by with_reducible assumption) (by omega) (by omega); with_reducible exact yqp1_s (by with_reducible assumption) (by with_reducible assumption) (by with_reducible assumption) (by omega) (by omega) (by omega)) | (have C := uqr_b (j := j) (b := k * 6) (by with_reducible assumption) (by omega) (by omega); have T := yqp1_s (by with_reducible assumption) (by with_reducible assumption) (by with_reducible assumption) (by omega) (by omega) rfl; have PB := yqp1_b T (by omega); omega) | (have C := uqr_b (j := j) (b := k * 6) (by with_reducible assumption) (by omega) (by omega); with_reducible exact yqs1_s (by with_reducible assumption) (by with_reducible assumption) (by with_reducible assumption) (by with_reducible assumption) (by with_reducible assumption) (by with_reducible assumption) (by omega) (by omega) (by omega) (by omega)) | (exact (uq_one (by with_reducible assumption) hl (by with_reducible assumption) (by with_reducible assumption) (by omega) (by omega)).mp (by omega)) | (exact ⟨(), fun z => absurd ((uq_one (by with_reducible assumption) hl (by with_reducible assumption) (by with_reducible assumption) (by omega) (by omega)).mpr z) (by omega)⟩) | (clear hs hX hF hK hK1; fail))
      · intro A S j v f
        intros
        refine hs [] _ rfl ?_
        conv => whnf
        repeat' (first | refine hw_ex32 ⟨by omega, by omega⟩ ?_ | (intro h; exact absurd h (by decide)) | intro _ | refine And.intro ?_ ?_ | (refine hs [2, 72, 108] _ rfl ?_; conv => whnf) | apply ih0 | apply ih1 | apply ih2 | apply hK | apply hK1 | (apply hX; refine u_divisor hU ?_ ?_ ?_))
        (all_goals clear ih0 ih1 ih2); all_goals (first | with_reducible exact Nat.lt_succ_self _ | with_reducible assumption | omega | (with_reducible exact yqp1_e (by with_reducible assumption) (by omega)) | (with_reducible exact yqp1_0) | (with_reducible exact yqs1_0) | (have C := uqr_b (j := j) (b := k * 6) (by with_reducible assumption) (by omega) (by omega); omega) | (with_reducible exact uqr_dd (j := j) (by with_reducible assumption) (by omega) (by omega) rfl (by with_reducible assumption) (by with_reducible assumption) (by with_reducible assumption) (by with_reducible assumption) (by with_reducible assumption)) | (have PB := yqp1_b (by with_reducible assumption) (by omega); omega) | (have SB := yqs1_b (by with_reducible assumption) (by omega); omega) | (have C := uqr_b (j := j) (b := k * 6) (by with_reducible assumption) (by omega) (by omega); with_reducible exact yqp1_s (by with_reducible assumption) (by with_reducible assumption) (by with_reducible assumption) (by omega) (by omega) (by omega)) | (have C := uqr_b (j := j) (b := k * 6) (by with_reducible assumption) (by omega) (by omega); have T := yqp1_s (by with_reducible assumption) (by with_reducible assumption) (by with_reducible assumption) (by omega) (by omega) rfl; have PB := yqp1_b T (by omega); omega) | (have C := uqr_b (j := j) (b := k * 6) (by with_reducible assumption) (by omega) (by omega); with_reducible exact yqs1_s (by with_reducible assumption) (by with_reducible assumption) (by with_reducible assumption) (by with_reducible assumption) (by with_reducible assumption) (by with_reducible assumption) (by omega) (by omega) (by omega) (by omega)) | (exact (uq_one (by with_reducible assumption) hl (by with_reducible assumption) (by with_reducible assumption) (by omega) (by omega)).mp (by omega)) | (exact ⟨(), fun z => absurd ((uq_one (by with_reducible assumption) hl (by with_reducible assumption) (by with_reducible assumption) (by omega) (by omega)).mpr z) (by omega)⟩) | (clear hs hX hF hK hK1; fail))
  repeat' (first | refine hw_ex32 ⟨by omega, by omega⟩ ?_ | (intro h; exact absurd h (by decide)) | intro _ | refine And.intro ?_ ?_ | (refine hs [2, 72, 108] _ rfl ?_; conv => whnf) | apply (cuts _).1 | apply (cuts _).2.1 | apply (cuts _).2.2 | apply hK | apply hK1 | (apply hX; refine u_divisor hU ?_ ?_ ?_))
  all_goals (first | with_reducible exact Nat.lt_succ_self _ | with_reducible assumption | omega | (with_reducible exact yqp1_e (by with_reducible assumption) (by omega)) | (with_reducible exact yqp1_0) | (with_reducible exact yqs1_0) | (have C := uqr_b (j := j) (b := k * 6) (by with_reducible assumption) (by omega) (by omega); omega) | (with_reducible exact uqr_dd (j := j) (by with_reducible assumption) (by omega) (by omega) rfl (by with_reducible assumption) (by with_reducible assumption) (by with_reducible assumption) (by with_reducible assumption) (by with_reducible assumption)) | (have PB := yqp1_b (by with_reducible assumption) (by omega); omega) | (have SB := yqs1_b (by with_reducible assumption) (by omega); omega) | (have C := uqr_b (j := j) (b := k * 6) (by with_reducible assumption) (by omega) (by omega); with_reducible exact yqp1_s (by with_reducible assumption) (by with_reducible assumption) (by with_reducible assumption) (by omega) (by omega) (by omega)) | (have C := uqr_b (j := j) (b := k * 6) (by with_reducible assumption) (by omega) (by omega); have T := yqp1_s (by with_reducible assumption) (by with_reducible assumption) (by with_reducible assumption) (by omega) (by omega) rfl; have PB := yqp1_b T (by omega); omega) | (have C := uqr_b (j := j) (b := k * 6) (by with_reducible assumption) (by omega) (by omega); with_reducible exact yqs1_s (by with_reducible assumption) (by with_reducible assumption) (by with_reducible assumption) (by with_reducible assumption) (by with_reducible assumption) (by with_reducible assumption) (by omega) (by omega) (by omega) (by omega)) | (exact (uq_one (by with_reducible assumption) hl (by with_reducible assumption) (by with_reducible assumption) (by omega) (by omega)).mp (by omega)) | (exact ⟨(), fun z => absurd ((uq_one (by with_reducible assumption) hl (by with_reducible assumption) (by with_reducible assumption) (by omega) (by omega)).mpr z) (by omega)⟩) | (clear hs hX hF hK hK1; fail))
end CY5g
