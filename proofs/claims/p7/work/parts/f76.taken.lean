/-! the model: commands taken together; a state of its own -/
section C76
variable {cm ca ho sp tk : Int → Int} {a cn : Int}
/-- modules that have the action and can: the first n, among those before m -/
def spj (cm ca ho sp : Int → Int) (a n m cn : Int) : Prop := ∃ _ : Unit, (0 ≤ n ∧ n ≤ m) ∧ (∀ i : Int, 0 ≤ i → i < n → sp i < m ∧ ∃ k : Int, 0 ≤ k ∧ k < cn ∧ cm k = sp i ∧ ca k = a ∧ ¬ ho k = 0) ∧ ∀ i j : Int, 0 ≤ i → i < j → j < n → ¬ sp i = sp j
theorem spj_0 : spj cm ca ho sp a 0 0 cn := ⟨(), by omega, fun i h1 h2 => absurd h1 (by omega), fun i j h1 h2 h3 => absurd h1 (by omega)⟩
theorem spj_m {n m p : Int} (h : spj cm ca ho sp a n m cn) (hp : p = m + 1) : spj cm ca ho sp a n p cn := h.elim fun _ h => ⟨(), by omega, fun i h1 h2 => ⟨by have := (h.2.1 i h1 h2).1; omega, (h.2.1 i h1 h2).2⟩, h.2.2⟩
/-- a command that holds was seen -/
def hkj (cm ca ho : Int → Int) (a m cn b : Int) : Prop := ∃ _ : Unit, ¬ b = 0 → ∃ k : Int, 0 ≤ k ∧ k < cn ∧ cm k = m ∧ ca k = a ∧ ¬ ho k = 0
theorem hkj_0 {m : Int} : hkj cm ca ho a m cn 0 := ⟨(), fun h => absurd rfl h⟩
theorem hkj_s {m b z k : Int} (h : hkj cm ca ho a m cn b) (h0 : 0 ≤ k) (h1 : k < cn) (h2 : cm k = m) (h3 : ca k = a) (hz : z = hb_or b (ho k)) (hb : 0 ≤ b ∧ b ≤ 1) (hk : 0 ≤ ho k ∧ ho k ≤ 1) : (0 ≤ z ∧ z ≤ 1) ∧ hkj cm ca ho a m cn z := by
  have c : ho k = 0 ∨ ho k = 1 := by omega
  rcases c with c | c
  · rw [c, hb_or_0 hb.1 hb.2] at hz
    subst hz
    exact ⟨hb, h⟩
  · rw [c, hb_or_1 hb.1 hb.2] at hz
    subst hz
    exact ⟨by omega, (), fun _ => ⟨k, h0, h1, h2, h3, by rw [c]; decide⟩⟩
theorem spj_s {n m p b q : Int} (h : spj cm ca ho sp a n m cn) (hk : hkj cm ca ho a m cn b) (hb : ¬ b = 0) (hp : p = m + 1) (hq : q = n + 1) : spj cm ca ho (hw_up sp n m) a q p cn := h.elim fun _ h => hk.elim fun _ hk => ⟨(), by omega, fun i h1 h2 => by
  by_cases e : i = n
  · rw [e, hw_up_s]
    exact ⟨by omega, hk hb⟩
  · rw [hw_up_n e]
    have z := h.2.1 i h1 (by omega)
    exact ⟨by omega, z.2⟩, fun i j h1 h2 h3 => by
  by_cases e : j = n
  · rw [e, hw_up_s, hw_up_n (by omega)]
    have z := (h.2.1 i h1 (by omega)).1
    omega
  · rw [hw_up_n e, hw_up_n (by omega)]
    exact h.2.2 i j h1 h2 (by omega)⟩
theorem spj_b {n m : Int} (h : spj cm ca ho sp a n m cn) : 0 ≤ n ∧ n ≤ m := h.elim fun _ h => h.1
theorem spj_x {n m j q b : Int} (h : spj cm ca ho sp a n m cn) (hj : 0 ≤ j) (hn : j < n) (hq : q = sp j) (hb : b = -1) (ha : ah_ok cm ca ho a q b cn) : False := by
  subst hq
  subst hb
  obtain ⟨_, k, b1, b2, b3, b4, b5⟩ := h.elim fun _ h => h.2.1 j hj hn
  exact ha.elim fun _ ha => ha k (by omega) b2 ⟨b3, b4, b5⟩
/-- the commands taken, for the first n modules -/
def tvj (cm ca ho sp tk : Int → Int) (a n cn : Int) : Prop := ∃ _ : Unit, ∀ i : Int, 0 ≤ i → i < n → (0 ≤ tk i ∧ tk i < cn) ∧ cm (tk i) = sp i ∧ ca (tk i) = a ∧ ¬ ho (tk i) = 0
theorem tvj_0 : tvj cm ca ho sp tk a 0 cn := ⟨(), fun i h1 h2 => absurd h1 (by omega)⟩
theorem tvj_e {n i : Int} (h : tvj cm ca ho sp tk a n cn) (h1 : 0 ≤ i) (h2 : i < n) : (0 ≤ tk i ∧ tk i < cn) ∧ cm (tk i) = sp i ∧ ca (tk i) = a ∧ ¬ ho (tk i) = 0 := h.elim fun _ h => h i h1 h2
theorem tvj_s {j r p b : Int} (h : tvj cm ca ho sp tk a j cn) (hb : -1 ≤ b) (h1 : b < r) (h2 : r < cn) (h3 : cm r = sp j) (h4 : ca r = a) (h5 : ¬ ho r = 0) (hp : p = j + 1) : tvj cm ca ho sp (hw_up tk j r) a p cn := h.elim fun _ h => ⟨(), fun i q1 q2 => by
  by_cases e : i = j
  · rw [e, hw_up_s]
    exact ⟨by omega, h3, h4, h5⟩
  · rw [hw_up_n e]; exact h i q1 (by omega)⟩
theorem tvj_u {j r n b : Int} (h : tvj cm ca ho sp tk a n cn) (hb : -1 ≤ b) (h1 : b < r) (h2 : r < cn) (h3 : cm r = sp j) (h4 : ca r = a) (h5 : ¬ ho r = 0) : tvj cm ca ho sp (hw_up tk j r) a n cn := h.elim fun _ h => ⟨(), fun i q1 q2 => by
  by_cases e : i = j
  · rw [e, hw_up_s]
    exact ⟨by omega, h3, h4, h5⟩
  · rw [hw_up_n e]; exact h i q1 (by omega)⟩
theorem tvj_t {n p : Int} (h : tvj cm ca ho sp tk a n cn) (hp : p ≤ n) : tvj cm ca ho sp tk a p cn := h.elim fun _ h => ⟨(), fun i q1 q2 => h i q1 (by omega)⟩
theorem tvj_q {n m : Int} (h : tvj cm ca ho sp tk a n cn) (hs : spj cm ca ho sp a n m cn) (ha : 0 ≤ a) : tq_ok tk ca n cn := h.elim fun _ h => hs.elim fun _ hs => ⟨(), fun i h1 h2 => (h i h1 h2).1, fun i j h1 h2 h3 e => by
  have a1 := h i h1 (by omega)
  have a2 := h j (by omega) h3
  rw [e] at a1
  exact hs.2.2 i j h1 h2 h3 (a1.2.1.symm.trans a2.2.1), fun _ i h1 h2 => by rw [(h i h1 h2).2.2.1]; exact ha⟩
theorem tq_1 {k : Int} (h0 : 0 ≤ k) (h1 : k < cn) : tq_ok (hw_up tk 0 k) ca 1 cn := ⟨(), fun i a b => by
  have e : i = 0 := by omega
  rw [e, hw_up_s]; exact ⟨h0, h1⟩, fun i j a b c => absurd a (by omega), fun h => absurd h (by omega)⟩
/-- a row of digits that is 1 -/
def rwj (f g : Int → Int) (p j : Int) : Prop := ∃ _ : Unit, (∀ q : Int, q < p → g q = f q) ∧ ∀ i : Int, 0 ≤ i → i < j → g (p + i) = if i = 0 then 1 else 0
theorem rwj_0 {f : Int → Int} {p : Int} : rwj f f p 0 := ⟨(), fun _ _ => rfl, fun i h1 h2 => absurd h1 (by omega)⟩
theorem rwj_s {f g : Int → Int} {p j x r q : Int} (h : rwj f g p j) (hj : 0 ≤ j) (hx : (j = 0 ∧ x = 1) ∨ (¬ j = 0 ∧ x = 0)) (hr : r = p + j) (hq : q = j + 1) : rwj f (hw_up g r x) p q := h.elim fun _ h => ⟨(), fun i hi => by
  rw [hw_up_n (by omega)]; exact h.1 i hi, fun i h1 h2 => by
  by_cases e : i = j
  · rw [e, ← hr, hw_up_s]
    rcases hx with c | c
    · rw [if_pos c.1]; exact c.2
    · rw [if_neg c.1]; exact c.2
  · rw [hw_up_n (by omega)]; exact h.2 i h1 (by omega)⟩
theorem rwj_1 {f g : Int → Int} {p j : Int} (h : rwj f g p j) (hj : 20 ≤ j) : bw g p = 1 := h.elim fun _ h => by
  have e : bw g p = wv (fun i => if i = 0 then 1 else 0) 20 := wv_eq (fun i hi => h.2 i (by omega) (by omega))
  rw [e]
  decide
theorem rwj_k {f g : Int → Int} {p j q : Int} (h : rwj f g p j) (hq : q + 20 ≤ p) : bw g q = bw f q := h.elim fun _ h => wv_eq (fun i hi => h.1 _ (by omega))
theorem oa_j {go ab be A B : Int → Int} {o i j s : Int} (hA : rwj ab A (o * 20) i) (hB : rwj be B (o * 20) j) : oa_ok go ab be (hw_up go o s) A B o := ⟨(), fun r hr => ⟨hw_up_n (by omega), rwj_k hA (by omega), rwj_k hB (by omega)⟩⟩
theorem cx_j {fo go ab be A B up ov un st ca : Int → Int} {cn ns c o s i j p q : Int} (hA : rwj ab A (o * 20) i) (hB : rwj be B (o * 20) j) (hi : 20 ≤ i) (hj : 20 ≤ j) (hs : 0 ≤ s ∧ s < ns) (hc : 0 ≤ c ∧ c ≤ 199) (ho : 0 ≤ o ∧ o ≤ 3199) (hp : p = c + 1) (hq : q = o + 1) : cx_ok (hw_up (hw_up fo c o) p q) (hw_up go o s) A B up ov un st ca cn ns c := by
  subst hp
  subst hq
  have e0 : hw_up (hw_up fo c o) (c + 1) (o + 1) c = o := (hw_up_n (by omega)).trans hw_up_s
  have e1 : hw_up (hw_up fo c o) (c + 1) (o + 1) (c + 1) = o + 1 := hw_up_s
  have a1 := rwj_1 hA hi
  have b1 := rwj_1 hB hj
  have w6 : (1 : Int) < wB 6 := by
    show (1 : Int) < 65536 ^ 6
    decide
  have oc : ocm_ok (hw_up go o s) A B o (o + 1) 1 (fun _ => 1) (fun _ => s) 1 := by
    refine ⟨(), by omega, fun r h1 h2 => ?_, fun r t h1 h2 h3 => by omega, fun k hk => ⟨o, by omega, by omega, hw_up_s⟩⟩
    have er : r = o := by omega
    subst er
    rw [a1, b1, hw_up_s]
    refine ⟨⟨by decide, by decide, by decide, Int.dvd_refl 1⟩, ?_⟩
    show (1 : Int) / 1 * 1 = 0 + (if s = s then 1 else 0)
    rw [if_pos rfl]; decide
  refine ⟨(), oc_ch (D := 1) (W := fun _ => 1) (dst := fun _ => s) (w := 1) (by rw [e0, e1]; exact oc) (fun i hi => by decide) rfl (by decide) w6 (fun i hi => hs) hc (by rw [e0]; exact ho.1) (by rw [e1]; omega), 0, fun _ => 0, by omega, ⟨(), fun i a b => absurd a (by omega), fun i j a b c => absurd a (by omega), fun h => absurd h (by omega)⟩, (by have e : cwn up (fun _ => 0) 0 = 1 := rfl; omega), ?_⟩
  unfold Lq
  rw [e0, e1]
  have z : lcr B o (o + 1 - o).toNat ∣ 1 := (lcr_dv (fun i hi => by
    have ei : i = 0 := by omega
    subst ei
    have e : (o + ((0 : Nat) : Int)) * 20 = o * 20 := by omega
    rw [e, b1]
    exact ⟨by decide, Int.dvd_refl 1⟩)).2
  have m : cMn ov un st up (fun _ => 0) 0 = 1 := rfl
  rw [m]; exact z
/-- where the choices of each state begin -/
def fcj (fc : Int → Int) (s nc : Int) : Prop := ∃ _ : Unit, ∀ t : Int, 0 ≤ t → t < s → 0 ≤ hw_up fc s nc t ∧ hw_up fc s nc t < hw_up fc s nc (t + 1) ∧ hw_up fc s nc (t + 1) ≤ nc
theorem fcj_0 {fc : Int → Int} {nc : Int} : fcj fc 0 nc := ⟨(), fun t h1 h2 => absurd h1 (by omega)⟩
theorem fcj_s {fc : Int → Int} {s nc p q : Int} (h : fcj fc s nc) (h0 : 0 ≤ nc) (hq : nc < q) (hs : 0 ≤ s) (hp : p = s + 1) : fcj (hw_up fc s nc) p q := by
  subst hp
  refine h.elim fun _ h => ⟨(), fun t h1 h2 => ?_⟩
  by_cases e : t = s
  · subst e
    rw [hw_up_s, hw_up_n (by omega), hw_up_s]
    omega
  · have z := h t h1 (by omega)
    rw [hw_up_n (show ¬ t = s + 1 by omega), hw_up_n (show ¬ t + 1 = s + 1 by omega)]
    omega
theorem fcj_m {fo go ab be fc up ov un st ca : Int → Int} {cn ns nc oc s : Int} (h : fcj fc s nc) (hc : cv_ok fo go ab be up ov un st ca cn ns nc oc) (hs : s = ns) (hn : 0 ≤ ns ∧ ns ≤ 24) (hnc : nc ≤ 200) : mo_ok (hw_up fo nc oc) go ab be (hw_up fc ns nc) ns := by
  subst hs
  refine h.elim fun _ h => hc.elim fun _ hc => ⟨(), hn, fun t h1 h2 => ?_, fun t c h1 h2 h3 h4 => ?_⟩
  · have z := h t h1 h2
    omega
  · have z := h t h1 h2
    exact (hc c (by omega) (by omega)).2.elim fun _ q => q.1
/-- all choices, once exploring is done -/
def cw_ok (fo go ab be fc up ov un st ca : Int → Int) (cn ns : Int) : Prop := ∃ _ : Unit, ∀ s c : Int, 0 ≤ s → s < ns → fc s ≤ c → c < fc (s + 1) → cx_ok fo go ab be up ov un st ca cn ns c
theorem fcj_w {fo go ab be fc up ov un st ca : Int → Int} {cn ns nc oc s : Int} (h : fcj fc s nc) (hc : cv_ok fo go ab be up ov un st ca cn ns nc oc) (hs : s = ns) : cw_ok (hw_up fo nc oc) go ab be (hw_up fc ns nc) up ov un st ca cn ns := by
  subst hs
  refine h.elim fun _ h => hc.elim fun _ hc => ⟨(), fun t c h1 h2 h3 h4 => ?_⟩
  have z := h t h1 h2
  exact (hc c (by omega) (by omega)).2
end C76
