/-! the model: the run of an expression -/
section C64
variable {scr : Nat × (Nat → Int32)} {d : Nat} {K : Option hw_V → hw_Z → Prop} {E : Nat → hw_Z → Prop} {Z : hw_Z} {kof : Nat → Nat × Int} {own : Nat → Prop} {z_m_err z_m_fed z_m_wrong z_m_letters z_m_there z_m_kind z_m_word z_m_from z_m_to z_m_tokens z_m_names z_m_vars z_m_modules z_m_commands z_m_actions z_m_target z_m_phase z_m_codes z_m_deep z_m_bool z_m_broken z_m_explored z_m_states z_m_choices z_m_outcomes z_m_problem : Int} {z_m_text z_m_nameFrom z_m_nameSize z_m_nameKind z_m_nameValue z_m_actionFrom z_m_actionSize z_m_commandModule z_m_commandAction z_m_guard z_m_updates z_m_over z_m_under z_m_setTo z_m_code z_m_firstChoice z_m_firstOutcome z_m_goesTo z_m_taken z_m_step z_m_chosen z_m_isTarget z_m_holds z_m_above z_m_below z_m_solved z_m_known z_m_zero z_m_policy z_m_unknown z_m_index z_m_got z_m_set z_m_stack z_m_now z_m_next z_m_value z_m_octets z_m_varModule z_m_low z_m_high z_m_first z_m_isBool z_nn : Int → Int} {z_dg : Int → Int → Int}
/-- where a run stands, how high its stack is -/
def te_ok (f : Int → Int) (a k n : Int) : Prop := ∃ (H : Int → Int) (m i : Nat), 0 ≤ a ∧ a + 2 * m + 2 ≤ 8000 ∧ 2 * m ≤ 3990 ∧ k = a + 2 * i ∧ i ≤ m ∧ n = H k ∧ f (a + 2 * m) = 21 ∧ H (a + 2 * m) = 1 ∧ ∀ j : Nat, j < m → op_ok f H (a + 2 * j) (a + 2 * m) ∧ 0 ≤ H (a + 2 * j) ∧ H (a + 2 * j) ≤ j
theorem te_0 {f : Int → Int} {a e : Int} (h : wp_ok f a e) (he : e ≤ 8000) : te_ok f a a 0 := by
  obtain ⟨b, h0, ⟨H, m, h1, h2, h3, h4⟩, h5, h6, h7⟩ := h
  subst h1
  exact ⟨H, m, 0, h0, by omega, by omega, by omega, Nat.zero_le m, h2.symm, h5, h3, h4⟩
theorem te_b {f : Int → Int} {a k n : Int} (h : te_ok f a k n) : (0 ≤ k ∧ k ≤ 7998) ∧ (0 ≤ n ∧ n ≤ 1996) := by
  obtain ⟨H, m, i, h0, h1, h2, h3, h4, h5, h6, h7, h8⟩ := h
  subst h3
  refine ⟨by omega, ?_⟩
  by_cases e : i = m
  · subst e; rw [h5, h7]; omega
  · have h9 := h8 i (by omega)
    rw [h5]
    omega
theorem te_f {f : Int → Int} {a k n : Int} (h : te_ok f a k n) : ((f k = 21 ∧ 1 ≤ n) ∨ f k = 0 ∨ (f k = 1 ∧ 0 ≤ f (k + 1) ∧ f (k + 1) ≤ 7) ∨ ((f k = 14 ∨ f k = 15) ∧ 1 ≤ n) ∨ ((2 ≤ f k ∧ f k ≤ 13) ∧ 2 ≤ n) ∨ (f k = 20 ∧ (k + 2 ≤ f (k + 1) ∧ f (k + 1) ≤ 7998)) ∨ (f k = 16 ∧ (k + 2 ≤ f (k + 1) ∧ f (k + 1) ≤ 7998) ∧ 1 ≤ n) ∨ ((17 ≤ f k ∧ f k ≤ 19) ∧ (k + 2 ≤ f (k + 1) ∧ f (k + 1) ≤ 7998) ∧ 1 ≤ n)) := by
  obtain ⟨H, m, i, h0, h1, h2, h3, h4, h5, h6, h7, h8⟩ := h
  subst h3
  by_cases e : i = m
  · subst e
    exact Or.inl ⟨h6, by omega⟩
  · have h9 := (h8 i (by omega)).1
    unfold op_ok at h9
    rcases h9 with q | q | q | q | q | q
    · rcases q.1 with r | r
      · exact Or.inr (Or.inl r)
      · exact Or.inr (Or.inr (Or.inl r))
    · exact Or.inr (Or.inr (Or.inr (Or.inl ⟨q.1, by omega⟩)))
    · exact Or.inr (Or.inr (Or.inr (Or.inr (Or.inl ⟨q.1, by omega⟩))))
    · exact Or.inr (Or.inr (Or.inr (Or.inr (Or.inr (Or.inl ⟨q.1, q.2.1.1, by omega⟩)))))
    · exact Or.inr (Or.inr (Or.inr (Or.inr (Or.inr (Or.inr (Or.inl ⟨q.1, ⟨q.2.1.1, by omega⟩, by omega⟩))))))
    · exact Or.inr (Or.inr (Or.inr (Or.inr (Or.inr (Or.inr (Or.inr ⟨q.1, ⟨q.2.1.1, by omega⟩, by omega⟩))))))
theorem te_s {f : Int → Int} {a k n p q : Int} (h : te_ok f a k n) (hf : ¬ f k = 21 ∧ ¬ f k = 20) (hp : p = k + 2) (hq : ((f k = 0 ∨ f k = 1) ∧ q = n + 1) ∨ ((f k = 14 ∨ f k = 15) ∧ q = n) ∨ (((2 ≤ f k ∧ f k ≤ 13) ∨ (16 ≤ f k ∧ f k ≤ 19)) ∧ q = n - 1)) : te_ok f a p q := by
  subst hp
  obtain ⟨H, m, i, h0, h1, h2, h3, h4, h5, h6, h7, h8⟩ := h
  subst h3
  have e : ¬ i = m := fun e => by subst e; exact hf.1 h6
  have h9 := (h8 i (by omega)).1
  refine ⟨H, m, i + 1, h0, h1, h2, by omega, by omega, ?_, h6, h7, h8⟩
  unfold op_ok at h9
  omega
theorem te_j {f : Int → Int} {a k n p q : Int} (h : te_ok f a k n) (hf : 16 ≤ f k ∧ f k ≤ 20) (hp : p = f (k + 1)) (hq : (f k = 16 ∧ q = n - 1) ∨ (¬ f k = 16 ∧ q = n)) : te_ok f a p q := by
  subst hp
  obtain ⟨H, m, i, h0, h1, h2, h3, h4, h5, h6, h7, h8⟩ := h
  subst h3
  have e : ¬ i = m := fun e => by subst e; omega
  have h9 := (h8 i (by omega)).1
  unfold op_ok at h9
  have b : a + 2 * (i : Int) + 2 ≤ f (a + 2 * i + 1) ∧ f (a + 2 * i + 1) ≤ a + 2 * m ∧ (f (a + 2 * i + 1) - (a + 2 * i)) % 2 = 0 ∧ H (f (a + 2 * i + 1)) = q := by omega
  refine ⟨H, m, ((f (a + 2 * i + 1) - a) / 2).toNat, h0, h1, h2, by omega, by omega, b.2.2.2.symm, h6, h7, h8⟩
theorem te_1 {f : Int → Int} {a k n : Int} (h : te_ok f a k n) (hf : f k = 1) : 0 ≤ f (k + 1) ∧ f (k + 1) ≤ 7 := by
  have := te_f h
  omega
theorem te_n {f : Int → Int} {a k n : Int} (h : te_ok f a k n) (hf : 14 ≤ f k ∧ f k ≤ 19) : 1 ≤ n := by
  have := te_f h
  omega
theorem te_2 {f : Int → Int} {a k n : Int} (h : te_ok f a k n) (h0 : ¬ f k = 0) (h1 : ¬ f k = 1) (h2 : ¬ f k = 14) (h3 : ¬ f k = 15) (h4 : ¬ f k = 20) (h5 : ¬ f k = 16) (h6 : ¬ f k = 17) (h7 : ¬ f k = 18) (h8 : ¬ f k = 19) (h9 : ¬ f k = 21) : (2 ≤ f k ∧ f k ≤ 13) ∧ 2 ≤ n := by
  have := te_f h
  omega
theorem te_jb {f : Int → Int} {a k n : Int} (h : te_ok f a k n) (hf : 16 ≤ f k ∧ f k ≤ 20) : k + 2 ≤ f (k + 1) ∧ f (k + 1) ≤ 7998 := by
  have := te_f h
  omega
theorem te_sb {f : Int → Int} {a k n q : Int} (h : te_ok f a k n) (hf : ¬ f k = 21 ∧ ¬ f k = 20) (hq : ((f k = 0 ∨ f k = 1) ∧ q = n + 1) ∨ ((f k = 14 ∨ f k = 15) ∧ q = n) ∨ (((2 ≤ f k ∧ f k ≤ 13) ∨ (16 ≤ f k ∧ f k ≤ 19)) ∧ q = n - 1)) : k + 2 ≤ 7998 ∧ 0 ≤ q ∧ q ≤ 1996 := by
  have T := te_b (te_s h hf rfl hq)
  exact ⟨T.1.2, T.2⟩
theorem te_21 {f : Int → Int} {a k n : Int} (h : te_ok f a k n) (hf : f k = 21) : 1 ≤ n := by
  have := te_f h
  omega
/-- one instruction of an expression's program -/
def ts1 (cd nw : Int → Int) (k n : Int) (f : Int → Int) : Int × Int × (Int → Int) :=
  if cd k = 21 then ((k, n, f)) else
  if cd k = 0 then ((k + 2, n + 1, hw_up f n (cd (k + 1)))) else
  if cd k = 1 then ((k + 2, n + 1, hw_up f n (nw (cd (k + 1))))) else
  if cd k = 14 then ((k + 2, n, hw_up f (n - 1) (w32 (1 - f (n - 1))))) else
  if cd k = 15 then ((k + 2, n, hw_up f (n - 1) (w64 (-f (n - 1))))) else
  if cd k = 20 then ((cd (k + 1), n, f)) else
  if cd k = 16 then (if f (n - 1) = 0 then (cd (k + 1), n - 1, f) else (k + 2, n - 1, f)) else
  if cd k = 17 then (if f (n - 1) = 0 then (cd (k + 1), n, f) else (k + 2, n - 1, f)) else
  if cd k = 18 then (if f (n - 1) = 1 then (cd (k + 1), n, f) else (k + 2, n - 1, f)) else
  if cd k = 19 then (if f (n - 1) = 0 then (cd (k + 1), n, hw_up f (n - 1) 1) else (k + 2, n - 1, f)) else
  (k + 2, n - 1, hw_up f (n - 2) (tow (cd k) (f (n - 2)) (f (n - 1))))
def titer (cd nw : Int → Int) (a : Int) : Nat → Int × Int × (Int → Int)
  | 0 => (a, 0, fun _ => 0)
  | i + 1 => (fun s => ts1 cd nw s.1 s.2.1 s.2.2) (titer cd nw a i)
def ag_ok (f g : Int → Int) (n : Int) : Prop := ∃ _ : Unit, ∀ q : Int, 0 ≤ q → q < n → f q = g q
def tr_ok (cd nw : Int → Int) (a k n : Int) (f : Int → Int) : Prop := ∃ (i : Nat) (g : Int → Int), titer cd nw a i = (k, n, g) ∧ ag_ok f g n
/-- what a program tells -/
def TL (cd nw : Int → Int) (a r : Int) : Prop := ∃ (i : Nat) (k n : Int) (g : Int → Int), titer cd nw a i = (k, n, g) ∧ cd k = 21 ∧ r = g 0
theorem ag_d {f g : Int → Int} {n m : Int} (h : ag_ok f g n) (hm : m ≤ n) : ag_ok f g m := h.elim fun _ h => ⟨(), fun q h1 h2 => h q h1 (by omega)⟩
theorem ag_u {f g : Int → Int} {n m i x y : Int} (h : ag_ok f g n) (hx : x = y) (hm : m ≤ n ∨ (m = n + 1 ∧ i = n)) : ag_ok (hw_up f i x) (hw_up g i y) m := h.elim fun _ h => ⟨(), fun q h1 h2 => by
  by_cases e : q = i
  · rw [e, hw_up_s, hw_up_s]; exact hx
  · rw [hw_up_n e, hw_up_n e]; exact h q h1 (by omega)⟩
theorem ag_e {f g : Int → Int} {n i : Int} (h : ag_ok f g n) (h0 : 0 ≤ i) (h1 : i < n) : f i = g i := h.elim fun _ h => h i h0 h1
theorem tr_0 {cd nw f : Int → Int} {a k n : Int} (hk : k = a) (hn : n = 0) : tr_ok cd nw a k n f := by
  subst hk
  subst hn
  exact ⟨0, fun _ => 0, rfl, (), fun q h1 h2 => absurd h1 (by omega)⟩
theorem tr_w {cd nw f f' : Int → Int} {a k n k' n' : Int} (h : tr_ok cd nw a k n f) (hs : ∀ g : Int → Int, ag_ok f g n → ∃ g' : Int → Int, ts1 cd nw k n g = (k', n', g') ∧ ag_ok f' g' n') : tr_ok cd nw a k' n' f' := by
  obtain ⟨i, g, h1, h2⟩ := h
  obtain ⟨g', h3, h4⟩ := hs g h2
  refine ⟨i + 1, g', ?_, h4⟩
  show (fun s => ts1 cd nw s.1 s.2.1 s.2.2) (titer cd nw a i) = _
  rw [h1]; exact h3
theorem tl_st {cd nw g : Int → Int} {a k n : Int} {i : Nat} (h : titer cd nw a i = (k, n, g)) (hk : cd k = 21) (j : Nat) : titer cd nw a (i + j) = (k, n, g) := by
  induction j with
  | zero => exact h
  | succ j ih =>
    show (fun s => ts1 cd nw s.1 s.2.1 s.2.2) (titer cd nw a (i + j)) = _
    rw [ih]
    exact if_pos hk
theorem TL_u {cd nw : Int → Int} {a r s : Int} (h : TL cd nw a r) (h' : TL cd nw a s) : r = s := by
  obtain ⟨i, k, n, g, h1, h2, h3⟩ := h
  obtain ⟨i', k', n', g', h1', h2', h3'⟩ := h'
  have e1 := tl_st h1 h2 i'
  have e2 := tl_st h1' h2' i
  rw [Nat.add_comm i' i, e1] at e2
  have e3 : g = g' := congrArg (fun s : Int × Int × (Int → Int) => s.2.2) e2
  rw [h3, h3', e3]
theorem tl_i {cd nw f : Int → Int} {a k n r b : Int} (h : b = 0 → tr_ok cd nw a k n f) (hb : b = 0) (hk : cd k = 21) (hn : 1 ≤ n) (hr : r = f 0) : TL cd nw a r := by
  obtain ⟨i, g, h1, h2⟩ := h hb
  exact ⟨i, k, n, g, h1, hk, hr.trans (ag_e h2 (by decide) (by omega))⟩
theorem tr_p0 {cd nw f : Int → Int} {a k n b p q i x : Int} (h : b = 0 → tr_ok cd nw a k n f) (hb : b = 0) (ho : cd k = 0) (hp : p = k + 2) (hq : q = n + 1) (hi : i = n) (hx : x = cd (k + 1)) : tr_ok cd nw a p q (hw_up f i x) := by
  rw [hp, hq]
  subst hi
  refine tr_w (h hb) (fun g hg => ?_)
  refine ⟨_, by unfold ts1; rw [if_neg (by omega), if_pos ho], ?_⟩
  exact ag_u hg hx (Or.inr ⟨rfl, rfl⟩)
theorem tr_p1 {cd nw f : Int → Int} {a k n b p q i x : Int} (h : b = 0 → tr_ok cd nw a k n f) (hb : b = 0) (ho : cd k = 1) (hp : p = k + 2) (hq : q = n + 1) (hi : i = n) (hx : x = nw (cd (k + 1))) : tr_ok cd nw a p q (hw_up f i x) := by
  rw [hp, hq]
  subst hi
  refine tr_w (h hb) (fun g hg => ?_)
  refine ⟨_, by unfold ts1; rw [if_neg (by omega), if_neg (by omega), if_pos ho], ?_⟩
  exact ag_u hg hx (Or.inr ⟨rfl, rfl⟩)
theorem tr_14 {cd nw f : Int → Int} {a k n b p q i x : Int} (h : b = 0 → tr_ok cd nw a k n f) (hb : b = 0) (ho : cd k = 14) (hn : 1 ≤ n) (hp : p = k + 2) (hq : q = n) (hi : i = n - 1) (hx : x = w32 (1 - f i)) : tr_ok cd nw a p q (hw_up f i x) := by
  rw [hp, hq]
  subst hi
  refine tr_w (h hb) (fun g hg => ?_)
  refine ⟨_, by unfold ts1; rw [if_neg (by omega), if_neg (by omega), if_neg (by omega), if_pos ho], ?_⟩
  exact ag_u hg (hx.trans (by rw [(ag_e hg (by omega) (by omega))])) (Or.inl (by omega))
theorem tr_15 {cd nw f : Int → Int} {a k n b p q i x : Int} (h : b = 0 → tr_ok cd nw a k n f) (hb : b = 0) (ho : cd k = 15) (hn : 1 ≤ n) (hp : p = k + 2) (hq : q = n) (hi : i = n - 1) (hx : x = w64 (-f i)) : tr_ok cd nw a p q (hw_up f i x) := by
  rw [hp, hq]
  subst hi
  refine tr_w (h hb) (fun g hg => ?_)
  refine ⟨_, by unfold ts1; rw [if_neg (by omega), if_neg (by omega), if_neg (by omega), if_neg (by omega), if_pos ho], ?_⟩
  exact ag_u hg (hx.trans (by rw [(ag_e hg (by omega) (by omega))])) (Or.inl (by omega))
theorem tr_20 {cd nw f : Int → Int} {a k n b p q : Int} (h : b = 0 → tr_ok cd nw a k n f) (hb : b = 0) (ho : cd k = 20) (hp : p = cd (k + 1)) (hq : q = n) : tr_ok cd nw a p q f := by
  rw [hp, hq]
  
  refine tr_w (h hb) (fun g hg => ?_)
  refine ⟨_, by unfold ts1; rw [if_neg (by omega), if_neg (by omega), if_neg (by omega), if_neg (by omega), if_neg (by omega), if_pos ho], ?_⟩
  exact ag_d hg (by omega)
theorem tr_16y {cd nw f : Int → Int} {a k n b p q j : Int} (h : b = 0 → tr_ok cd nw a k n f) (hb : b = 0) (ho : cd k = 16) (hn : 1 ≤ n) (hj : j = n - 1) (hc : f j = 0) (hp : p = cd (k + 1)) (hq : q = n - 1) : tr_ok cd nw a p q f := by
  rw [hp, hq]
  subst hj
  refine tr_w (h hb) (fun g hg => ?_)
  have e : f (n - 1) = g (n - 1) := ag_e hg (by omega) (by omega)
  refine ⟨_, by unfold ts1; rw [if_neg (by omega), if_neg (by omega), if_neg (by omega), if_neg (by omega), if_neg (by omega), if_neg (by omega), if_pos ho, if_pos (by rw [← e]; exact hc)], ?_⟩
  exact ag_d hg (by omega)
theorem tr_16n {cd nw f : Int → Int} {a k n b p q j : Int} (h : b = 0 → tr_ok cd nw a k n f) (hb : b = 0) (ho : cd k = 16) (hn : 1 ≤ n) (hj : j = n - 1) (hc : ¬ f j = 0) (hp : p = k + 2) (hq : q = n - 1) : tr_ok cd nw a p q f := by
  rw [hp, hq]
  subst hj
  refine tr_w (h hb) (fun g hg => ?_)
  have e : f (n - 1) = g (n - 1) := ag_e hg (by omega) (by omega)
  refine ⟨_, by unfold ts1; rw [if_neg (by omega), if_neg (by omega), if_neg (by omega), if_neg (by omega), if_neg (by omega), if_neg (by omega), if_pos ho, if_neg (by rw [← e]; exact hc)], ?_⟩
  exact ag_d hg (by omega)
theorem tr_17y {cd nw f : Int → Int} {a k n b p q j : Int} (h : b = 0 → tr_ok cd nw a k n f) (hb : b = 0) (ho : cd k = 17) (hn : 1 ≤ n) (hj : j = n - 1) (hc : f j = 0) (hp : p = cd (k + 1)) (hq : q = n) : tr_ok cd nw a p q f := by
  rw [hp, hq]
  subst hj
  refine tr_w (h hb) (fun g hg => ?_)
  have e : f (n - 1) = g (n - 1) := ag_e hg (by omega) (by omega)
  refine ⟨_, by unfold ts1; rw [if_neg (by omega), if_neg (by omega), if_neg (by omega), if_neg (by omega), if_neg (by omega), if_neg (by omega), if_neg (by omega), if_pos ho, if_pos (by rw [← e]; exact hc)], ?_⟩
  exact ag_d hg (by omega)
theorem tr_17n {cd nw f : Int → Int} {a k n b p q j : Int} (h : b = 0 → tr_ok cd nw a k n f) (hb : b = 0) (ho : cd k = 17) (hn : 1 ≤ n) (hj : j = n - 1) (hc : ¬ f j = 0) (hp : p = k + 2) (hq : q = n - 1) : tr_ok cd nw a p q f := by
  rw [hp, hq]
  subst hj
  refine tr_w (h hb) (fun g hg => ?_)
  have e : f (n - 1) = g (n - 1) := ag_e hg (by omega) (by omega)
  refine ⟨_, by unfold ts1; rw [if_neg (by omega), if_neg (by omega), if_neg (by omega), if_neg (by omega), if_neg (by omega), if_neg (by omega), if_neg (by omega), if_pos ho, if_neg (by rw [← e]; exact hc)], ?_⟩
  exact ag_d hg (by omega)
theorem tr_18y {cd nw f : Int → Int} {a k n b p q j : Int} (h : b = 0 → tr_ok cd nw a k n f) (hb : b = 0) (ho : cd k = 18) (hn : 1 ≤ n) (hj : j = n - 1) (hc : f j = 1) (hp : p = cd (k + 1)) (hq : q = n) : tr_ok cd nw a p q f := by
  rw [hp, hq]
  subst hj
  refine tr_w (h hb) (fun g hg => ?_)
  have e : f (n - 1) = g (n - 1) := ag_e hg (by omega) (by omega)
  refine ⟨_, by unfold ts1; rw [if_neg (by omega), if_neg (by omega), if_neg (by omega), if_neg (by omega), if_neg (by omega), if_neg (by omega), if_neg (by omega), if_neg (by omega), if_pos ho, if_pos (by rw [← e]; exact hc)], ?_⟩
  exact ag_d hg (by omega)
theorem tr_18n {cd nw f : Int → Int} {a k n b p q j : Int} (h : b = 0 → tr_ok cd nw a k n f) (hb : b = 0) (ho : cd k = 18) (hn : 1 ≤ n) (hj : j = n - 1) (hc : ¬ f j = 1) (hp : p = k + 2) (hq : q = n - 1) : tr_ok cd nw a p q f := by
  rw [hp, hq]
  subst hj
  refine tr_w (h hb) (fun g hg => ?_)
  have e : f (n - 1) = g (n - 1) := ag_e hg (by omega) (by omega)
  refine ⟨_, by unfold ts1; rw [if_neg (by omega), if_neg (by omega), if_neg (by omega), if_neg (by omega), if_neg (by omega), if_neg (by omega), if_neg (by omega), if_neg (by omega), if_pos ho, if_neg (by rw [← e]; exact hc)], ?_⟩
  exact ag_d hg (by omega)
theorem tr_19y {cd nw f : Int → Int} {a k n b p q i j : Int} (h : b = 0 → tr_ok cd nw a k n f) (hb : b = 0) (ho : cd k = 19) (hn : 1 ≤ n) (hj : j = n - 1) (hc : f j = 0) (hp : p = cd (k + 1)) (hq : q = n) (hi : i = n - 1) : tr_ok cd nw a p q (hw_up f i 1) := by
  rw [hp, hq]
  subst hi
  subst hj
  refine tr_w (h hb) (fun g hg => ?_)
  have e : f (n - 1) = g (n - 1) := ag_e hg (by omega) (by omega)
  refine ⟨_, by unfold ts1; rw [if_neg (by omega), if_neg (by omega), if_neg (by omega), if_neg (by omega), if_neg (by omega), if_neg (by omega), if_neg (by omega), if_neg (by omega), if_neg (by omega), if_pos ho, if_pos (by rw [← e]; exact hc)], ?_⟩
  exact ag_u hg rfl (Or.inl (by omega))
theorem tr_19n {cd nw f : Int → Int} {a k n b p q j : Int} (h : b = 0 → tr_ok cd nw a k n f) (hb : b = 0) (ho : cd k = 19) (hn : 1 ≤ n) (hj : j = n - 1) (hc : ¬ f j = 0) (hp : p = k + 2) (hq : q = n - 1) : tr_ok cd nw a p q f := by
  rw [hp, hq]
  subst hj
  refine tr_w (h hb) (fun g hg => ?_)
  have e : f (n - 1) = g (n - 1) := ag_e hg (by omega) (by omega)
  refine ⟨_, by unfold ts1; rw [if_neg (by omega), if_neg (by omega), if_neg (by omega), if_neg (by omega), if_neg (by omega), if_neg (by omega), if_neg (by omega), if_neg (by omega), if_neg (by omega), if_pos ho, if_neg (by rw [← e]; exact hc)], ?_⟩
  exact ag_d hg (by omega)
theorem tr_2 {cd nw f : Int → Int} {a k n b p q i j x : Int} (h : b = 0 → tr_ok cd nw a k n f) (hb : b = 0) (ho : 2 ≤ cd k ∧ cd k ≤ 13) (hn : 2 ≤ n) (hp : p = k + 2) (hq : q = n - 1) (hi : i = n - 2) (hj : j = n - 1) (hx : x = tow (cd k) (f i) (f j)) : tr_ok cd nw a p q (hw_up f i x) := by
  rw [hp, hq]
  subst hi
  subst hj
  refine tr_w (h hb) (fun g hg => ?_)
  refine ⟨_, by unfold ts1; rw [if_neg (by omega), if_neg (by omega), if_neg (by omega), if_neg (by omega), if_neg (by omega), if_neg (by omega), if_neg (by omega), if_neg (by omega), if_neg (by omega), if_neg (by omega)], ?_⟩
  exact ag_u hg (hx.trans (by rw [(ag_e (i := n - 2) hg (by omega) (by omega)), (ag_e (i := n - 1) hg (by omega) (by omega))])) (Or.inl (by omega))
set_option maxHeartbeats 4000000 in
theorem t_tell (hU : hw_U (hm_T kof own)) {a p : Int} (hw : wp_ok z_m_code a p) (hp : p ≤ 8000) (hK : ∀ (r e : Int) (f : Int → Int), (e = 0 → TL z_m_code z_m_now a r) → K (some (hw_I r)) ([z_m_err, z_m_fed, z_m_wrong, z_m_letters, z_m_there, z_m_kind, z_m_word, z_m_from, z_m_to, z_m_tokens, z_m_names, z_m_vars, z_m_modules, z_m_commands, z_m_actions, z_m_target, z_m_phase, z_m_codes, z_m_deep, z_m_bool, e, z_m_explored, z_m_states, z_m_choices, z_m_outcomes, z_m_problem], [z_m_text, z_m_nameFrom, z_m_nameSize, z_m_nameKind, z_m_nameValue, z_m_actionFrom, z_m_actionSize, z_m_commandModule, z_m_commandAction, z_m_guard, z_m_updates, z_m_over, z_m_under, z_m_setTo, z_m_code, z_m_firstChoice, z_m_firstOutcome, z_m_goesTo, z_m_taken, z_m_step, z_m_chosen, z_m_isTarget, z_m_holds, z_m_above, z_m_below, z_m_solved, z_m_known, z_m_zero, z_m_policy, z_m_unknown, z_m_index, z_m_got, z_m_set, f, z_m_now, z_m_next, z_m_value, z_m_octets, z_m_varModule, z_m_low, z_m_high, z_m_first, z_m_isBool], [z_nn], [z_dg])) : hw_C pg_G pg_TT scr (hm_T kof own) (d + 3) 224 [hw_R 2 0, hw_I a] ([z_m_err, z_m_fed, z_m_wrong, z_m_letters, z_m_there, z_m_kind, z_m_word, z_m_from, z_m_to, z_m_tokens, z_m_names, z_m_vars, z_m_modules, z_m_commands, z_m_actions, z_m_target, z_m_phase, z_m_codes, z_m_deep, z_m_bool, z_m_broken, z_m_explored, z_m_states, z_m_choices, z_m_outcomes, z_m_problem], [z_m_text, z_m_nameFrom, z_m_nameSize, z_m_nameKind, z_m_nameValue, z_m_actionFrom, z_m_actionSize, z_m_commandModule, z_m_commandAction, z_m_guard, z_m_updates, z_m_over, z_m_under, z_m_setTo, z_m_code, z_m_firstChoice, z_m_firstOutcome, z_m_goesTo, z_m_taken, z_m_step, z_m_chosen, z_m_isTarget, z_m_holds, z_m_above, z_m_below, z_m_solved, z_m_known, z_m_zero, z_m_policy, z_m_unknown, z_m_index, z_m_got, z_m_set, z_m_stack, z_m_now, z_m_next, z_m_value, z_m_octets, z_m_varModule, z_m_low, z_m_high, z_m_first, z_m_isBool], [z_nn], [z_dg]) K E := by
  refine hw_meth hU hv_DG ⟨rfl, rfl⟩ (fun w X hs hX hF => ?_)
  have t0 := te_0 hw hp
  have tb := te_b t0
  have cuts : ∀ n : Nat, (∀ (k y b : Int) (st : Int → Int) (ulp0 ulp1 : Option hw_V), te_ok z_m_code a k y → 0 ≤ k → k ≤ 7998 → 0 ≤ y → y ≤ 1996 → (b = 0 → tr_ok z_m_code z_m_now a k y st) → (9000 - k).toNat < n → w (9, [some (hw_R 2 0), some (hw_I (a)), some (hw_I (k)), some (hw_I (y)), ulp0, ulp1], [], ([z_m_err, z_m_fed, z_m_wrong, z_m_letters, z_m_there, z_m_kind, z_m_word, z_m_from, z_m_to, z_m_tokens, z_m_names, z_m_vars, z_m_modules, z_m_commands, z_m_actions, z_m_target, z_m_phase, z_m_codes, z_m_deep, z_m_bool, b, z_m_explored, z_m_states, z_m_choices, z_m_outcomes, z_m_problem], [z_m_text, z_m_nameFrom, z_m_nameSize, z_m_nameKind, z_m_nameValue, z_m_actionFrom, z_m_actionSize, z_m_commandModule, z_m_commandAction, z_m_guard, z_m_updates, z_m_over, z_m_under, z_m_setTo, z_m_code, z_m_firstChoice, z_m_firstOutcome, z_m_goesTo, z_m_taken, z_m_step, z_m_chosen, z_m_isTarget, z_m_holds, z_m_above, z_m_below, z_m_solved, z_m_known, z_m_zero, z_m_policy, z_m_unknown, z_m_index, z_m_got, z_m_set, st, z_m_now, z_m_next, z_m_value, z_m_octets, z_m_varModule, z_m_low, z_m_high, z_m_first, z_m_isBool], [z_nn], [z_dg]))) := by
    intro n
    induction n with
    | zero =>
      repeat' (first | refine And.intro ?_ ?_ | intro _)
      all_goals omega
    | succ n ih =>
      intro k y b st
      intros
      refine hF (L' := [some _, some _, some _, some _, none, none]) (by repeat' (first | exact True.intro | refine And.intro rfl ?_)) ?_
      refine hs [] _ rfl ?_
      conv => whnf
      repeat' (first | refine hw_ex32 ⟨by omega, by omega⟩ ?_ | (intro h; exact absurd h (by decide)) | intro _ | refine And.intro ?_ ?_ | (refine hs [9] _ rfl ?_; conv => whnf) | apply ih | apply hK | (apply hX; refine t_fit hU ?_ ?_) | (apply hX; refine t_two hU ?_ ?_ ?_))
      (all_goals clear ih); all_goals (first | with_reducible exact Nat.lt_succ_self _ | with_reducible assumption | omega | (have T := te_n (by with_reducible assumption) (by omega); omega) | (have T := te_1 (by with_reducible assumption) (by assumption); omega) | (have T := te_jb (by with_reducible assumption) (by omega); omega) | (have T := te_sb (q := y + 1) (by with_reducible assumption) (by omega) (by omega); omega) | (have T := te_sb (q := y) (by with_reducible assumption) (by omega) (by omega); omega) | (have T := te_sb (q := y - 1) (by with_reducible assumption) (by omega) (by omega); omega) | (refine te_s (by with_reducible assumption) ?_ ?_ ?_ <;> omega) | (refine te_j (by with_reducible assumption) ?_ ?_ ?_ <;> omega) | (have W := te_2 (by with_reducible assumption) (by assumption) (by assumption) (by assumption) (by assumption) (by assumption) (by assumption) (by assumption) (by assumption) (by assumption) (by assumption); first | omega | (have T := te_sb (q := y - 1) (by with_reducible assumption) (by omega) (by omega); omega) | (refine te_s (by with_reducible assumption) ?_ ?_ ?_ <;> omega)) | (exact tr_0 rfl rfl) | (exact tr_p0 (by with_reducible assumption) (by omega) (by omega) (by omega) (by omega) (by omega) (by rfl)) | (exact tr_p1 (by with_reducible assumption) (by omega) (by omega) (by omega) (by omega) (by omega) (by rfl)) | (have TN := te_n (by with_reducible assumption) (by omega); first | exact tr_14 (by with_reducible assumption) (by omega) (by omega) (by omega) (by omega) (by omega) (by omega) (by (first | with_reducible assumption | exact w32_u (by with_reducible assumption) (by with_reducible assumption) | (have E := w32_u (by with_reducible assumption) (by with_reducible assumption); omega))) | exact tr_15 (by with_reducible assumption) (by omega) (by omega) (by omega) (by omega) (by omega) (by omega) (by (first | with_reducible assumption | (have E := w64_u (by with_reducible assumption) (by with_reducible assumption); omega))) | exact tr_16y (j := y - 1) (by with_reducible assumption) (by omega) (by omega) (by omega) (by omega) (by first | assumption | omega) (by omega) (by omega) | exact tr_16n (j := y - 1) (by with_reducible assumption) (by omega) (by omega) (by omega) (by omega) (by first | assumption | omega) (by omega) (by omega) | exact tr_16y (j := y + -1) (by with_reducible assumption) (by omega) (by omega) (by omega) (by omega) (by first | assumption | omega) (by omega) (by omega) | exact tr_16n (j := y + -1) (by with_reducible assumption) (by omega) (by omega) (by omega) (by omega) (by first | assumption | omega) (by omega) (by omega) | exact tr_17y (j := y - 1) (by with_reducible assumption) (by omega) (by omega) (by omega) (by omega) (by first | assumption | omega) (by omega) (by omega) | exact tr_17n (j := y - 1) (by with_reducible assumption) (by omega) (by omega) (by omega) (by omega) (by first | assumption | omega) (by omega) (by omega) | exact tr_17y (j := y + -1) (by with_reducible assumption) (by omega) (by omega) (by omega) (by omega) (by first | assumption | omega) (by omega) (by omega) | exact tr_17n (j := y + -1) (by with_reducible assumption) (by omega) (by omega) (by omega) (by omega) (by first | assumption | omega) (by omega) (by omega) | exact tr_18y (j := y - 1) (by with_reducible assumption) (by omega) (by omega) (by omega) (by omega) (by first | assumption | omega) (by omega) (by omega) | exact tr_18n (j := y - 1) (by with_reducible assumption) (by omega) (by omega) (by omega) (by omega) (by first | assumption | omega) (by omega) (by omega) | exact tr_18y (j := y + -1) (by with_reducible assumption) (by omega) (by omega) (by omega) (by omega) (by first | assumption | omega) (by omega) (by omega) | exact tr_18n (j := y + -1) (by with_reducible assumption) (by omega) (by omega) (by omega) (by omega) (by first | assumption | omega) (by omega) (by omega) | exact tr_19y (j := y - 1) (by with_reducible assumption) (by omega) (by omega) (by omega) (by omega) (by first | assumption | omega) (by omega) (by omega) (by omega) | exact tr_19n (j := y - 1) (by with_reducible assumption) (by omega) (by omega) (by omega) (by omega) (by first | assumption | omega) (by omega) (by omega) | exact tr_19y (j := y + -1) (by with_reducible assumption) (by omega) (by omega) (by omega) (by omega) (by first | assumption | omega) (by omega) (by omega) (by omega) | exact tr_19n (j := y + -1) (by with_reducible assumption) (by omega) (by omega) (by omega) (by omega) (by first | assumption | omega) (by omega) (by omega)) | (exact tr_20 (by with_reducible assumption) (by omega) (by omega) (by omega) (by omega)) | (have W := te_2 (by with_reducible assumption) (by assumption) (by assumption) (by assumption) (by assumption) (by assumption) (by assumption) (by assumption) (by assumption) (by assumption) (by assumption); exact tr_2 (by with_reducible assumption) (by omega) W.1 W.2 (by omega) (by omega) (by omega) (j := y + -1) (by omega) (by assumption)) | (have TN := te_21 (by with_reducible assumption) (by omega); exact tl_i (by with_reducible assumption) (by omega) (by omega) TN (by rfl)) | (clear hs hX hF hK; fail))
  repeat' (first | refine hw_ex32 ⟨by omega, by omega⟩ ?_ | (intro h; exact absurd h (by decide)) | intro _ | refine And.intro ?_ ?_ | (refine hs [9] _ rfl ?_; conv => whnf) | apply (cuts _) | apply hK | (apply hX; refine t_fit hU ?_ ?_) | (apply hX; refine t_two hU ?_ ?_ ?_))
  all_goals (first | with_reducible exact Nat.lt_succ_self _ | with_reducible assumption | omega | (have T := te_n (by with_reducible assumption) (by omega); omega) | (have T := te_1 (by with_reducible assumption) (by assumption); omega) | (have T := te_jb (by with_reducible assumption) (by omega); omega) | (have T := te_sb (q := y + 1) (by with_reducible assumption) (by omega) (by omega); omega) | (have T := te_sb (q := y) (by with_reducible assumption) (by omega) (by omega); omega) | (have T := te_sb (q := y - 1) (by with_reducible assumption) (by omega) (by omega); omega) | (refine te_s (by with_reducible assumption) ?_ ?_ ?_ <;> omega) | (refine te_j (by with_reducible assumption) ?_ ?_ ?_ <;> omega) | (have W := te_2 (by with_reducible assumption) (by assumption) (by assumption) (by assumption) (by assumption) (by assumption) (by assumption) (by assumption) (by assumption) (by assumption) (by assumption); first | omega | (have T := te_sb (q := y - 1) (by with_reducible assumption) (by omega) (by omega); omega) | (refine te_s (by with_reducible assumption) ?_ ?_ ?_ <;> omega)) | (exact tr_0 rfl rfl) | (exact tr_p0 (by with_reducible assumption) (by omega) (by omega) (by omega) (by omega) (by omega) (by rfl)) | (exact tr_p1 (by with_reducible assumption) (by omega) (by omega) (by omega) (by omega) (by omega) (by rfl)) | (have TN := te_n (by with_reducible assumption) (by omega); first | exact tr_14 (by with_reducible assumption) (by omega) (by omega) (by omega) (by omega) (by omega) (by omega) (by (first | with_reducible assumption | exact w32_u (by with_reducible assumption) (by with_reducible assumption) | (have E := w32_u (by with_reducible assumption) (by with_reducible assumption); omega))) | exact tr_15 (by with_reducible assumption) (by omega) (by omega) (by omega) (by omega) (by omega) (by omega) (by (first | with_reducible assumption | (have E := w64_u (by with_reducible assumption) (by with_reducible assumption); omega))) | exact tr_16y (j := y - 1) (by with_reducible assumption) (by omega) (by omega) (by omega) (by omega) (by first | assumption | omega) (by omega) (by omega) | exact tr_16n (j := y - 1) (by with_reducible assumption) (by omega) (by omega) (by omega) (by omega) (by first | assumption | omega) (by omega) (by omega) | exact tr_16y (j := y + -1) (by with_reducible assumption) (by omega) (by omega) (by omega) (by omega) (by first | assumption | omega) (by omega) (by omega) | exact tr_16n (j := y + -1) (by with_reducible assumption) (by omega) (by omega) (by omega) (by omega) (by first | assumption | omega) (by omega) (by omega) | exact tr_17y (j := y - 1) (by with_reducible assumption) (by omega) (by omega) (by omega) (by omega) (by first | assumption | omega) (by omega) (by omega) | exact tr_17n (j := y - 1) (by with_reducible assumption) (by omega) (by omega) (by omega) (by omega) (by first | assumption | omega) (by omega) (by omega) | exact tr_17y (j := y + -1) (by with_reducible assumption) (by omega) (by omega) (by omega) (by omega) (by first | assumption | omega) (by omega) (by omega) | exact tr_17n (j := y + -1) (by with_reducible assumption) (by omega) (by omega) (by omega) (by omega) (by first | assumption | omega) (by omega) (by omega) | exact tr_18y (j := y - 1) (by with_reducible assumption) (by omega) (by omega) (by omega) (by omega) (by first | assumption | omega) (by omega) (by omega) | exact tr_18n (j := y - 1) (by with_reducible assumption) (by omega) (by omega) (by omega) (by omega) (by first | assumption | omega) (by omega) (by omega) | exact tr_18y (j := y + -1) (by with_reducible assumption) (by omega) (by omega) (by omega) (by omega) (by first | assumption | omega) (by omega) (by omega) | exact tr_18n (j := y + -1) (by with_reducible assumption) (by omega) (by omega) (by omega) (by omega) (by first | assumption | omega) (by omega) (by omega) | exact tr_19y (j := y - 1) (by with_reducible assumption) (by omega) (by omega) (by omega) (by omega) (by first | assumption | omega) (by omega) (by omega) (by omega) | exact tr_19n (j := y - 1) (by with_reducible assumption) (by omega) (by omega) (by omega) (by omega) (by first | assumption | omega) (by omega) (by omega) | exact tr_19y (j := y + -1) (by with_reducible assumption) (by omega) (by omega) (by omega) (by omega) (by first | assumption | omega) (by omega) (by omega) (by omega) | exact tr_19n (j := y + -1) (by with_reducible assumption) (by omega) (by omega) (by omega) (by omega) (by first | assumption | omega) (by omega) (by omega)) | (exact tr_20 (by with_reducible assumption) (by omega) (by omega) (by omega) (by omega)) | (have W := te_2 (by with_reducible assumption) (by assumption) (by assumption) (by assumption) (by assumption) (by assumption) (by assumption) (by assumption) (by assumption) (by assumption) (by assumption); exact tr_2 (by with_reducible assumption) (by omega) W.1 W.2 (by omega) (by omega) (by omega) (j := y + -1) (by omega) (by assumption)) | (have TN := te_21 (by with_reducible assumption) (by omega); exact tl_i (by with_reducible assumption) (by omega) (by omega) TN (by rfl)) | (clear hs hX hF hK; fail))
end C64
