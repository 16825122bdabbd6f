/-! the model: programs of a text, commands -/
section C6b
variable {scr : Nat × (Nat → Int32)} {d : Nat} {K : Option hw_V → hw_Z → Prop} {E : Nat → hw_Z → Prop} {Z : hw_Z} {kof : Nat → Nat × Int} {own : Nat → Prop} {z_m_err z_m_fed z_m_wrong z_m_letters z_m_there z_m_kind z_m_word z_m_from z_m_to z_m_tokens z_m_names z_m_vars z_m_modules z_m_commands z_m_actions z_m_target z_m_phase z_m_codes z_m_deep z_m_bool z_m_broken z_m_explored z_m_states z_m_choices z_m_outcomes z_m_problem : Int} {z_m_text z_m_nameFrom z_m_nameSize z_m_nameKind z_m_nameValue z_m_actionFrom z_m_actionSize z_m_commandModule z_m_commandAction z_m_guard z_m_updates z_m_over z_m_under z_m_setTo z_m_code z_m_firstChoice z_m_firstOutcome z_m_goesTo z_m_taken z_m_step z_m_chosen z_m_isTarget z_m_holds z_m_above z_m_below z_m_solved z_m_known z_m_zero z_m_policy z_m_unknown z_m_index z_m_got z_m_set z_m_stack z_m_now z_m_next z_m_value z_m_octets z_m_varModule z_m_low z_m_high z_m_first z_m_isBool z_nn : Int → Int} {z_dg : Int → Int → Int}
/-- code kept below a -/
def ck_ok (f g : Int → Int) (a : Int) : Prop := ∃ _ : Unit, ∀ q : Int, q < a → g q = f q
theorem ck_0 {f : Int → Int} {a : Int} : ck_ok f f a := ⟨(), fun _ _ => rfl⟩
theorem ck_t {f g k : Int → Int} {a b : Int} (h : ck_ok f g a) (h' : ck_ok g k b) (hb : a ≤ b) : ck_ok f k a := h.elim fun _ h => h'.elim fun _ h' => ⟨(), fun q hq => (h' q (by omega)).trans (h q hq)⟩
theorem ck_w {f g : Int → Int} {a b p : Int} (h : wp_ok f a b) (hk : ck_ok f g b) (hp : b ≤ p) : wp_ok g a p := hk.elim fun _ hk => wp_k h (fun q _ q2 => hk q q2) hp
/-- a program, put behind what stood there -/
def pw_ok (f g : Int → Int) (a b : Int) : Prop := ∃ _ : Unit, wp_ok g a b ∧ ∀ q : Int, q < a → g q = f q
theorem pw_i {f g : Int → Int} {a b c v : Int} (h : gx_ok f g a b) (h0 : 0 ≤ a) (hb : b - a ≤ 3990) (hc : c = b + 2) : pw_ok f (hw_up (hw_up g b 21) (b + 1) v) a c := by
  obtain ⟨_, h1, h2⟩ := h
  have z := sc_n h1
  refine ⟨(), ⟨b, h0, sc_k h1 (fun q _ h5 => ?_), ?_, by omega, hb⟩, fun q hq => ?_⟩
  · rw [hw_up_n (by omega), hw_up_n (by omega)]
  · rw [hw_up_n (by omega), hw_up_s]
  · rw [hw_up_n (by omega), hw_up_n (by omega)]; exact h2 q hq
theorem pw_w {f g : Int → Int} {a b : Int} (h : pw_ok f g a b) : wp_ok g a b := h.elim fun _ h => h.1
theorem pw_k {f g : Int → Int} {a b c : Int} (h : pw_ok f g a b) (hc : c ≤ a) : ck_ok f g c := h.elim fun _ h => ⟨(), fun q hq => h.2 q (by omega)⟩
theorem wp_b {f : Int → Int} {a b : Int} (h : wp_ok f a b) : 0 ≤ a ∧ a + 4 ≤ b := by
  obtain ⟨c, h0, h1, h2, h3, h4⟩ := h
  have z := sc_n h1
  omega
theorem pw_2 {f g k : Int → Int} {a b c e : Int} (h : pw_ok f g a b) (h' : pw_ok g k c e) (hb : b ≤ c) : wp_ok k a e := by
  have z := wp_b (pw_w h')
  refine h.elim fun _ h => h'.elim fun _ h' => wp_k h.1 (fun q _ q2 => h'.2 q (by omega)) (by omega)
/-- names of actions -/
def ac_ok (f z : Int → Int) (n : Int) : Prop := ∃ _ : Unit, ∀ k : Int, 0 ≤ k → k < n → 0 ≤ f k ∧ 0 ≤ z k ∧ f k + z k ≤ 8192
theorem ac_e {f z : Int → Int} {n k : Int} (h : ac_ok f z n) (h1 : 0 ≤ k) (h2 : k < n) : 0 ≤ f k ∧ 0 ≤ z k ∧ f k + z k ≤ 8192 := h.elim fun _ h => h k h1 h2
theorem ac_0 {f z : Int → Int} : ac_ok f z 0 := ⟨(), fun k h1 h2 => absurd h1 (by omega)⟩
theorem ac_s {f z : Int → Int} {n a b p : Int} (h : ac_ok f z n) (h1 : 0 ≤ a ∧ 0 ≤ b ∧ a + b ≤ 8192) (hp : p = n + 1) : ac_ok (hw_up f n a) (hw_up z n b) p := h.elim fun _ h => ⟨(), fun k h3 h4 => by
  by_cases q : k = n
  · rw [q, hw_up_s, hw_up_s]; exact h1
  · rw [hw_up_n q, hw_up_n q]; exact h k h3 (by omega)⟩
/-- what an update costs at least, in tokens -/
def ut (st : Int → Int) (p : Int) : Int := if st (p * 8) < 0 ∧ st (p * 8 + 1) < 0 ∧ st (p * 8 + 2) < 0 ∧ st (p * 8 + 3) < 0 ∧ st (p * 8 + 4) < 0 ∧ st (p * 8 + 5) < 0 ∧ st (p * 8 + 6) < 0 ∧ st (p * 8 + 7) < 0 then 1 else 6
def cc (y : Int) : Int := if 1000 % y = 0 then 1 else 3
def us (un st : Int → Int) (b : Int) : Nat → Int
  | 0 => 0
  | n + 1 => us un st b n + (cc (un (b + n)) + 2 + ut st (b + n))
theorem ut_6 (st : Int → Int) (p : Int) : 1 ≤ ut st p ∧ ut st p ≤ 6 := by unfold ut; split <;> omega
theorem ut_t {st : Int → Int} {p a b : Int} (h : a + ut st p ≤ b) : a + 1 ≤ b := by
  have := ut_6 st p
  omega
theorem cc_b (y : Int) : 1 ≤ cc y ∧ cc y ≤ 3 := by unfold cc; split <;> omega
theorem ut_e {f g : Int → Int} {p : Int} (h : ∀ v : Int, 0 ≤ v → v < 8 → f (p * 8 + v) = g (p * 8 + v)) : ut f p = ut g p := by
  have h0 := h 0 (by decide) (by decide)
  rw [Int.add_zero] at h0
  unfold ut
  rw [h0, h 1 (by decide) (by decide), h 2 (by decide) (by decide), h 3 (by decide) (by decide), h 4 (by decide) (by decide), h 5 (by decide) (by decide), h 6 (by decide) (by decide), h 7 (by decide) (by decide)]
theorem us_e {f g st tt : Int → Int} {b : Int} {n : Nat} (h : ∀ i : Int, b ≤ i → i < b + n → f i = g i ∧ ∀ v : Int, 0 ≤ v → v < 8 → st (i * 8 + v) = tt (i * 8 + v)) : us f st b n = us g tt b n := by
  induction n with
  | zero => rfl
  | succ n ih =>
    show us f st b n + (cc (f (b + n)) + 2 + ut st (b + n)) = us g tt b n + (cc (g (b + n)) + 2 + ut tt (b + n))
    have h1 := h (b + n) (by omega) (by omega)
    rw [ih (fun i q1 q2 => h i q1 (by omega)), h1.1, ut_e h1.2]
theorem cc_d {x y : Int} (h : x ∣ y) : cc x ≤ cc y := by
  have b := cc_b x
  by_cases e : 1000 % y = 0
  · have h1 : x ∣ 1000 := Int.dvd_trans h (Int.dvd_of_emod_eq_zero e)
    have e2 : cc x = 1 := if_pos (Int.emod_eq_zero_of_dvd h1)
    have b2 := cc_b y
    omega
  · have e2 : cc y = 3 := if_neg e
    omega
theorem us_d {f g st : Int → Int} {b : Int} {n : Nat} (h : dv_ok f g) : us f st b n ≤ us g st b n := by
  induction n with
  | zero => exact Int.le_refl _
  | succ n ih =>
    show us f st b n + (cc (f (b + n)) + 2 + ut st (b + n)) ≤ us g st b n + (cc (g (b + n)) + 2 + ut st (b + n))
    have h1 := h.elim fun _ h => cc_d (h (b + n))
    omega
theorem us_z {un st : Int → Int} {b j : Int} (hj : j = 0) : us un st b j.toNat = 0 := by subst hj; rfl
/-- an update's programs: those that were before stay; all unset so far; each unset or a program -/
def ty_ok (s0 st : Int → Int) (p v : Int) : Prop := ∃ _ : Unit, (∀ q : Int, q < p * 8 ∨ p * 8 + 8 ≤ q → st q = s0 q) ∧ ∀ i : Int, 0 ≤ i → i < v → st (p * 8 + i) = -1
theorem ty_0 {s0 : Int → Int} {p : Int} : ty_ok s0 s0 p 0 := ⟨(), fun _ _ => rfl, fun i h1 h2 => absurd h1 (by omega)⟩
theorem ty_s {s0 st : Int → Int} {p v w q : Int} (h : ty_ok s0 st p v) (hv : 0 ≤ v ∧ v < 8) (hq : q = p * 8 + v) (hw : w = v + 1) : ty_ok s0 (hw_up st q (-1)) p w := h.elim fun _ h => ⟨(), fun r hr => by
  rw [hw_up_n (by omega)]; exact h.1 r hr, fun i h1 h2 => by
  by_cases e : i = v
  · rw [e, ← hq, hw_up_s]
  · rw [hw_up_n (by omega)]; exact h.2 i h1 (by omega)⟩
theorem ty_u {s0 st : Int → Int} {p v : Int} (h : ty_ok s0 st p v) (hv : 8 ≤ v) : ut st p = 1 := h.elim fun _ h => by
  have e := h.2 0 (by decide) (by omega)
  rw [Int.add_zero] at e
  refine if_pos ?_
  rw [e, h.2 1 (by decide) (by omega), h.2 2 (by decide) (by omega), h.2 3 (by decide) (by omega), h.2 4 (by decide) (by omega), h.2 5 (by decide) (by omega), h.2 6 (by decide) (by omega), h.2 7 (by decide) (by omega)]
  decide
def sz_ok (s0 st cd : Int → Int) (p cs : Int) : Prop := ∃ _ : Unit, (∀ q : Int, q < p * 8 ∨ p * 8 + 8 ≤ q → st q = s0 q) ∧ ∀ v : Int, 0 ≤ v → v < 8 → st (p * 8 + v) = -1 ∨ wp_ok cd (st (p * 8 + v)) cs
theorem sz_i {s0 st cd : Int → Int} {p v cs : Int} (h : ty_ok s0 st p v) (hv : 8 ≤ v) : sz_ok s0 st cd p cs := h.elim fun _ h => ⟨(), h.1, fun i h1 h2 => Or.inl (h.2 i h1 (by omega))⟩
theorem sz_s {s0 st cd ce : Int → Int} {p cs cs' v q e : Int} (h : sz_ok s0 st cd p cs) (hk : pw_ok cd ce e cs') (hc : cs ≤ e) (hv : 0 ≤ v ∧ v < 8) (hq : q = p * 8 + v) : sz_ok s0 (hw_up st q e) ce p cs' := by
  have z := wp_b (pw_w hk)
  refine h.elim fun _ h => ⟨(), fun r hr => by rw [hw_up_n (by omega)]; exact h.1 r hr, fun i h1 h2 => ?_⟩
  by_cases w : i = v
  · rw [w, ← hq, hw_up_s]; exact Or.inr (pw_w hk)
  · rw [hw_up_n (by omega)]
    rcases h.2 i h1 h2 with a | a
    · exact Or.inl a
    · exact Or.inr (ck_w a (pw_k hk (by omega)) (by omega))
/-- a command's programs -/
def sw_ok (s0 st cd : Int → Int) (k j cs : Int) : Prop := ∃ _ : Unit, (∀ q : Int, q < k * 48 ∨ k * 48 + 48 ≤ q → st q = s0 q) ∧ ∀ i v : Int, 0 ≤ i → i < j → 0 ≤ v → v < 8 → st ((k * 6 + i) * 8 + v) = -1 ∨ wp_ok cd (st ((k * 6 + i) * 8 + v)) cs
theorem sw_0 {s0 cd : Int → Int} {k j cs : Int} (hj : j ≤ 0) : sw_ok s0 s0 cd k j cs := ⟨(), fun _ _ => rfl, fun i v h1 h2 => absurd h1 (by omega)⟩
theorem sw_s {s0 st tt cd ce : Int → Int} {k j p q cs cs' : Int} (h : sw_ok s0 st cd k j cs) (h1 : sz_ok st tt ce p cs') (hk : ck_ok cd ce cs) (hc : cs ≤ cs') (hj : 0 ≤ j ∧ j < 6) (hp : p = k * 6 + j) (hq : q = j + 1) : sw_ok s0 tt ce k q cs' := by
  subst hp
  refine h.elim fun _ h => h1.elim fun _ h1 => ⟨(), fun r hr => ?_, fun i v q1 q2 q3 q4 => ?_⟩
  · rw [h1.1 r (by omega)]; exact h.1 r hr
  · by_cases e : i = j
    · rw [e]; exact h1.2 v q3 q4
    · rw [h1.1 _ (by omega)]
      rcases h.2 i v q1 (by omega) q3 q4 with a | a
      · exact Or.inl a
      · exact Or.inr (ck_w a hk hc)
/-- chances, one more -/
theorem c1_0 {v f : Int → Int} {b u : Int} (hu : u ≤ 0) : ch1 v f b u := ⟨(), fun j h1 h2 => absurd h1 (by omega)⟩
theorem c1_s {v f : Int → Int} {b j x y p q : Int} (h : ch1 v f b j) (hx : 1 ≤ x ∧ x ≤ y ∧ y ≤ 1000) (hp : p = b + j) (hq : q = j + 1) : ch1 (hw_up v p x) (hw_up f p y) b q := h.elim fun _ h => ⟨(), fun i h1 h2 => by
  by_cases e : i = j
  · rw [e, ← hp, hw_up_s, hw_up_s]; exact hx
  · rw [hw_up_n (by omega), hw_up_n (by omega)]; exact h i h1 (by omega)⟩
theorem c1_j {v f : Int → Int} {b u j : Int} (h : ch1 v f b j) (e : u = j) : ch1 v f b u := e ▸ h
theorem on_j {v f : Int → Int} {b u j : Int} (h : on_ok v f b j) (e : u = j) : on_ok v f b u := e ▸ h
theorem on_1 {v f : Int → Int} {b : Int} : on_ok (hw_up v b 1) (hw_up f b 1) b 1 := ⟨1, rfl, by
  have e : b + ((0 : Nat) : Int) = b := by omega
  show 0 + (1 * (hw_up f b 1) (b + ((0 : Nat) : Int))) / (hw_up f b 1) (b + ((0 : Nat) : Int)) * (hw_up v b 1) (b + ((0 : Nat) : Int)) = 1 * (hw_up f b 1) (b + ((0 : Nat) : Int))
  rw [e, hw_up_s, hw_up_s]; decide⟩
theorem ov_p {v f p q : Int → Int} {b j x y r : Int} (h : ov_ok v f p q b) (hj : 0 ≤ j ∧ j < 6) (hr : r = b + j) : ov_ok (hw_up v r x) (hw_up f r y) p q b := hr ▸ ov_u h hj
theorem ov_t {v f v1 f1 p q : Int → Int} {b : Int} (h : ov_ok v f v1 f1 b) (h' : ov_ok v1 f1 p q b) : ov_ok v f p q b := h.elim fun _ h => h'.elim fun _ h' => ⟨(), fun i hi => ⟨(h i hi).1.trans (h' i hi).1, (h i hi).2.trans (h' i hi).2⟩⟩
/-- changed at one place alone -/
def uo_ok (f g : Int → Int) (k : Int) : Prop := ∃ _ : Unit, ∀ i : Int, ¬ i = k → f i = g i
theorem uo_0 {f : Int → Int} {k : Int} : uo_ok f f k := ⟨(), fun _ _ => rfl⟩
theorem uo_u {f g : Int → Int} {k x : Int} (h : uo_ok f g k) : uo_ok (hw_up f k x) g k := h.elim fun _ h => ⟨(), fun i hi => (hw_up_n hi).trans (h i hi)⟩
theorem uo_t {f g p : Int → Int} {k : Int} (h : uo_ok f g k) (h' : uo_ok g p k) : uo_ok f p k := h.elim fun _ h => h'.elim fun _ h' => ⟨(), fun i hi => (h i hi).trans (h' i hi)⟩
theorem us_n {un st tt cd : Int → Int} {b j p q y T n0 n1 n2 cs : Int} (hy : y = 1 ∨ y = 10 ∨ y = 100 ∨ y = 1000 ∨ n0 + 3 ≤ n1) (h1 : sz_ok st tt cd p cs) (h01 : n0 < n1) (h2 : n1 + 1 + ut tt p ≤ n2) (hc : T + us un st b j.toNat ≤ n0) (hp : p = b + j) (hj : 0 ≤ j) (hq : q = j + 1) : T + us (hw_up un p y) tt b q.toNat ≤ n2 + 1 := by
  have e : q.toNat = j.toNat + 1 := by omega
  have e2 : b + ((j.toNat : Nat) : Int) = p := by omega
  have e3 : us (hw_up un p y) tt b j.toNat = us un st b j.toNat := us_e (fun i q1 q2 => ⟨hw_up_n (by omega), fun v q3 q4 => h1.elim fun _ h1 => h1.1 _ (by omega)⟩)
  have e4 : cc y ≤ n1 - n0 := by
    rcases hy with h | h | h | h | h
    · rw [h]; exact Int.le_trans (show cc 1 ≤ 1 by decide) (by omega)
    · rw [h]; exact Int.le_trans (show cc 10 ≤ 1 by decide) (by omega)
    · rw [h]; exact Int.le_trans (show cc 100 ≤ 1 by decide) (by omega)
    · rw [h]; exact Int.le_trans (show cc 1000 ≤ 1 by decide) (by omega)
    · have b := cc_b y
      omega
  rw [e]
  show T + (us (hw_up un p y) tt b j.toNat + (cc ((hw_up un p y) (b + ((j.toNat : Nat) : Int))) + 2 + ut tt (b + ((j.toNat : Nat) : Int)))) ≤ n2 + 1
  rw [e3, e2, hw_up_s]
  omega
/-- a command's tokens, those of its chances and updates -/
def cw (up un st ca : Int → Int) (k : Int) : Int := if up k ≤ 1 then 0 else 4 + (if ca k < 0 then 0 else 1) + us un st (k * 6) (up k).toNat
/-- a command, read -/
def cq_ok (cd gu up ov un st cm ca : Int → Int) (cs k : Int) : Prop := wp_ok cd (gu k) cs ∧ (1 ≤ up k ∧ up k ≤ 6) ∧ ch1 ov un (k * 6) (up k) ∧ on_ok ov un (k * 6) (up k) ∧ (0 ≤ cm k ∧ cm k ≤ 2) ∧ (-1 ≤ ca k ∧ ca k ≤ 39) ∧ ∀ i v : Int, 0 ≤ i → i < up k → 0 ≤ v → v < 8 → st ((k * 6 + i) * 8 + v) = -1 ∨ wp_ok cd (st ((k * 6 + i) * 8 + v)) cs
/-- commands, read: n of them, of at most x tokens -/
def ps_ok (cd gu up ov un st cm ca : Int → Int) (cs n x : Int) : Prop := ∃ _ : Unit, (∀ k : Int, 0 ≤ k → k < n → cq_ok cd gu up ov un st cm ca cs k) ∧ sm n.toNat (fun k => cw up un st ca k) ≤ x
theorem ps_0 {cd gu up ov un st cm ca : Int → Int} {cs x : Int} (hx : 0 ≤ x) : ps_ok cd gu up ov un st cm ca cs 0 x := ⟨(), fun k h1 h2 => absurd h1 (by omega), hx⟩
theorem ps_k {cd ce gu up ov un st cm ca : Int → Int} {cs cs' n x y : Int} (h : ps_ok cd gu up ov un st cm ca cs n x) (hk : ck_ok cd ce cs) (hc : cs ≤ cs') (hy : x ≤ y) : ps_ok ce gu up ov un st cm ca cs' n y := h.elim fun _ h => ⟨(), fun k q1 q2 => by
  have h1 := h.1 k q1 q2
  refine ⟨ck_w h1.1 hk hc, h1.2.1, h1.2.2.1, h1.2.2.2.1, h1.2.2.2.2.1, h1.2.2.2.2.2.1, fun i v a1 a2 a3 a4 => ?_⟩
  rcases h1.2.2.2.2.2.2 i v a1 a2 a3 a4 with a | a
  · exact Or.inl a
  · exact Or.inr (ck_w a hk hc), Int.le_trans h.2 hy⟩
theorem pu_e {f g : Int → Int} {b : Int} {n : Nat} (h : ∀ i : Int, b ≤ i → i < b + n → f i = g i) : pu f b n = pu g b n := by
  induction n with
  | zero => rfl
  | succ n ih =>
    show pu f b n * f (b + n) = pu g b n * g (b + n)
    rw [ih (fun i q1 q2 => h i q1 (by omega)), h (b + n) (by omega) (by omega)]
theorem su_e {v w f g : Int → Int} {b A : Int} {n : Nat} (h : ∀ i : Int, b ≤ i → i < b + n → f i = g i ∧ v i = w i) : su v f b A n = su w g b A n := by
  induction n with
  | zero => rfl
  | succ n ih =>
    show su v f b A n + A / f (b + n) * v (b + n) = su w g b A n + A / g (b + n) * w (b + n)
    have h1 := h (b + n) (by omega) (by omega)
    rw [ih (fun i q1 q2 => h i q1 (by omega)), h1.1, h1.2]
theorem on_e {v w f g : Int → Int} {b u : Int} (h : on_ok v f b u) (he : ∀ i : Int, b ≤ i → i < b + u → f i = g i ∧ v i = w i) : on_ok w g b u := by
  obtain ⟨n, e, h1⟩ := h
  subst e
  refine ⟨n, rfl, ?_⟩
  rw [← pu_e (fun i q1 q2 => (he i q1 q2).1), ← su_e he]; exact h1
theorem ps_s {cd ce gu up up' ov un ov' un' st st' cm ca ca' : Int → Int} {cs cs' n g m x y nu : Int} (h : ps_ok cd gu up ov un st cm ca cs n x) (hn : 0 ≤ n) (hk : ck_ok cd ce cs) (hc : cs ≤ cs') (hg : wp_ok ce g cs') (hup : uo_ok up' up n) (hu : up' n = nu) (hu1 : 1 ≤ nu ∧ nu ≤ 6) (hov : ov_ok ov' un' ov un (n * 6)) (hc1 : ch1 ov' un' (n * 6) nu) (hon : on_ok ov' un' (n * 6) nu) (hst : sw_ok st st' ce n nu cs') (hm : 0 ≤ m ∧ m ≤ 2) (hca : uo_ok ca' ca n) (ha : -1 ≤ ca' n ∧ ca' n ≤ 39) (hy : x ≤ y) (hy2 : nu ≤ 1 ∨ (x + 4 + us un' st' (n * 6) nu.toNat ≤ y ∧ (ca' n < 0 ∨ x + 5 + us un' st' (n * 6) nu.toNat ≤ y))) : ps_ok ce (hw_up gu n g) up' ov' un' st' (hw_up cm n m) ca' cs' (n + 1) y := by
  subst hu
  have h := ps_k h hk hc (Int.le_refl x)
  refine h.elim fun _ h => hup.elim fun _ hup => hov.elim fun _ hov => hst.elim fun _ hst => hca.elim fun _ hca => ⟨(), fun k q1 q2 => ?_, ?_⟩
  · by_cases e : k = n
    · subst e
      refine ⟨by rw [hw_up_s]; exact hg, hu1, hc1, hon, by rw [hw_up_s]; exact hm, ha, hst.2⟩
    · have h1 := h.1 k q1 (by omega)
      have eu := hup k e
      refine ⟨by rw [hw_up_n e]; exact h1.1, by rw [eu]; exact h1.2.1, ?_, ?_, by rw [hw_up_n e]; exact h1.2.2.2.2.1, by rw [hca k e]; exact h1.2.2.2.2.2.1, fun i v a1 a2 a3 a4 => ?_⟩
      · rw [eu]
        refine ⟨(), fun j b1 b2 => ?_⟩
        have b3 := h1.2.1
        have o := hov (k * 6 + j) (by omega)
        rw [o.1, o.2]; exact c1_e h1.2.2.1 b1 b2
      · rw [eu]
        have b3 := h1.2.1
        exact on_e h1.2.2.2.1 (fun i b1 b2 => by
          have o := hov i (by omega)
          exact ⟨o.2.symm, o.1.symm⟩)
      · rw [eu] at a2
        have b3 := h1.2.1
        rw [hst.1 _ (by omega)]
        exact h1.2.2.2.2.2.2 i v a1 a2 a3 a4
  · have e : (n + 1).toNat = n.toNat + 1 := by omega
    rw [e, sm_s]
    have e2 : sm n.toNat (fun k => cw up' un' st' ca' k) = sm n.toNat (fun k => cw up un st ca k) := sm_eq (fun k hk => by
      have h1 := h.1 k (by omega) (by omega)
      have b3 := h1.2.1
      have eu := hup k (by omega)
      show cw up' un' st' ca' k = cw up un st ca k
      unfold cw
      rw [eu, hca k (by omega), us_e (f := un') (g := un) (st := st') (tt := st) (fun i a1 a2 => ⟨(hov i (by omega)).2, fun v a3 a4 => hst.1 _ (by omega)⟩)])
    rw [e2]
    have e3 : ((n.toNat : Nat) : Int) = n := by omega
    have h2 := h.2
    show sm n.toNat (fun k => cw up un st ca k) + cw up' un' st' ca' ((n.toNat : Nat) : Int) ≤ y
    rw [e3]
    by_cases q : up' n ≤ 1
    · have e4 : cw up' un' st' ca' n = 0 := if_pos q
      omega
    · have e4 : cw up' un' st' ca' n = 4 + (if ca' n < 0 then 0 else 1) + us un' st' (n * 6) (up' n).toNat := if_neg q
      by_cases r : ca' n < 0
      · rw [if_pos r] at e4
        omega
      · rw [if_neg r] at e4
        omega
theorem t_whole (hU : hw_U (hm_T kof own)) {b : Int} (ht : tk_ok z_m_text z_m_letters z_m_kind z_m_word z_m_from z_m_to) (hn : 0 ≤ z_m_tokens ∧ z_m_tokens ≤ 1500) (hc : 0 ≤ z_m_codes ∧ z_m_codes ≤ 2 * z_m_tokens) (hl : 0 ≤ z_m_letters ∧ z_m_letters ≤ 8192) (hm : na_ok z_m_nameFrom z_m_nameSize z_m_nameKind z_m_nameValue z_m_names) (hz : 0 ≤ z_m_names ∧ z_m_names ≤ 600) (hK : ∀ (kd wd fr t tn cs dq bl : Int) (cd : Int → Int), z_m_tokens < tn → tn ≤ 1500 → tk_ok z_m_text z_m_letters kd wd fr t → z_m_codes + 4 ≤ cs → cs - z_m_codes ≤ 2 * (tn - z_m_tokens) + 2 → pw_ok z_m_code cd z_m_codes cs → K (some (hw_I z_m_codes)) ([z_m_err, z_m_fed, z_m_wrong, z_m_letters, z_m_there, kd, wd, fr, t, tn, z_m_names, z_m_vars, z_m_modules, z_m_commands, z_m_actions, z_m_target, z_m_phase, cs, dq, bl, z_m_broken, z_m_explored, z_m_states, z_m_choices, z_m_outcomes, z_m_problem], [z_m_text, z_m_nameFrom, z_m_nameSize, z_m_nameKind, z_m_nameValue, z_m_actionFrom, z_m_actionSize, z_m_commandModule, z_m_commandAction, z_m_guard, z_m_updates, z_m_over, z_m_under, z_m_setTo, cd, z_m_firstChoice, z_m_firstOutcome, z_m_goesTo, z_m_taken, z_m_step, z_m_chosen, z_m_isTarget, z_m_holds, z_m_above, z_m_below, z_m_solved, z_m_known, z_m_zero, z_m_policy, z_m_unknown, z_m_index, z_m_got, z_m_set, z_m_stack, z_m_now, z_m_next, z_m_value, z_m_octets, z_m_varModule, z_m_low, z_m_high, z_m_first, z_m_isBool], [z_nn], [z_dg])) (hK1 : ∀ (kd wd fr t tn cs dq bl wr : Int) (cd : Int → Int), K (some (hw_I (-1))) ([z_m_err, z_m_fed, wr, z_m_letters, z_m_there, kd, wd, fr, t, tn, z_m_names, z_m_vars, z_m_modules, z_m_commands, z_m_actions, z_m_target, z_m_phase, cs, dq, bl, z_m_broken, z_m_explored, z_m_states, z_m_choices, z_m_outcomes, z_m_problem], [z_m_text, z_m_nameFrom, z_m_nameSize, z_m_nameKind, z_m_nameValue, z_m_actionFrom, z_m_actionSize, z_m_commandModule, z_m_commandAction, z_m_guard, z_m_updates, z_m_over, z_m_under, z_m_setTo, cd, z_m_firstChoice, z_m_firstOutcome, z_m_goesTo, z_m_taken, z_m_step, z_m_chosen, z_m_isTarget, z_m_holds, z_m_above, z_m_below, z_m_solved, z_m_known, z_m_zero, z_m_policy, z_m_unknown, z_m_index, z_m_got, z_m_set, z_m_stack, z_m_now, z_m_next, z_m_value, z_m_octets, z_m_varModule, z_m_low, z_m_high, z_m_first, z_m_isBool], [z_nn], [z_dg])) : hw_C pg_G pg_TT scr (hm_T kof own) (d + 400) 210 [hw_R 2 0, hw_I b] ([z_m_err, z_m_fed, z_m_wrong, z_m_letters, z_m_there, z_m_kind, z_m_word, z_m_from, z_m_to, z_m_tokens, z_m_names, z_m_vars, z_m_modules, z_m_commands, z_m_actions, z_m_target, z_m_phase, z_m_codes, z_m_deep, z_m_bool, z_m_broken, z_m_explored, z_m_states, z_m_choices, z_m_outcomes, z_m_problem], [z_m_text, z_m_nameFrom, z_m_nameSize, z_m_nameKind, z_m_nameValue, z_m_actionFrom, z_m_actionSize, z_m_commandModule, z_m_commandAction, z_m_guard, z_m_updates, z_m_over, z_m_under, z_m_setTo, z_m_code, z_m_firstChoice, z_m_firstOutcome, z_m_goesTo, z_m_taken, z_m_step, z_m_chosen, z_m_isTarget, z_m_holds, z_m_above, z_m_below, z_m_solved, z_m_known, z_m_zero, z_m_policy, z_m_unknown, z_m_index, z_m_got, z_m_set, z_m_stack, z_m_now, z_m_next, z_m_value, z_m_octets, z_m_varModule, z_m_low, z_m_high, z_m_first, z_m_isBool], [z_nn], [z_dg]) K E := by
  refine hw_meth hU hv_DG ⟨rfl, rfl⟩ (fun w X hs hX hF => ?_)
  have T := tk_b ht
  repeat' (first | refine hw_ex32 ⟨by omega, by omega⟩ ?_ | (intro h; exact absurd h (by decide)) | intro _ | refine And.intro ?_ ?_ | (refine hs [] _ rfl ?_; conv => whnf) | apply hK | apply hK1 | (apply hX; refine t_expr hU hl hm hz _ (by omega) ?_ (by with_reducible assumption) ?_ ?_ ?_ ?_) | (apply hX; refine t_bad hU ?_) | (apply hX; refine t_emit hU ?_ ?_))
  all_goals (first | with_reducible exact Nat.lt_succ_self _ | with_reducible assumption | omega | (with_reducible exact pw_i (by with_reducible assumption) (by omega) (by omega) (by omega)) | (clear hs hX hF hK hK1; fail))
end C6b
