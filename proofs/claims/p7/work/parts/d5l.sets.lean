/-! the model: sets of states that keep out, or can get in -/
section C5l
theorem hb_or_0 {x : Int} (h0 : 0 ≤ x) (h1 : x ≤ 1) : hb_or x 0 = x := by
  rcases (by omega : x = 0 ∨ x = 1) with e | e <;> subst e <;> decide
theorem hb_or_1 {x : Int} (h0 : 0 ≤ x) (h1 : x ≤ 1) : hb_or x 1 = 1 := by
  rcases (by omega : x = 0 ∨ x = 1) with e | e <;> subst e <;> decide
/-- a process in order: its states, their choices, the outcomes of these -/
def mo_ok (fo go ab be fc : Int → Int) (n : Int) : Prop := ∃ _ : Unit, (0 ≤ n ∧ n ≤ 24) ∧ (∀ s : Int, 0 ≤ s → s < n → 0 ≤ fc s ∧ fc s < fc (s + 1) ∧ fc (s + 1) ≤ 200) ∧ ∀ s c : Int, 0 ≤ s → s < n → fc s ≤ c → c < fc (s + 1) → ch_ok fo go ab be n c
theorem mo_n {fo go ab be fc : Int → Int} {n : Int} (h : mo_ok fo go ab be fc n) : 0 ≤ n ∧ n ≤ 24 := h.elim fun _ h => h.1
theorem mo_f {fo go ab be fc : Int → Int} {n s : Int} (h : mo_ok fo go ab be fc n) (h1 : 0 ≤ s) (h2 : s < n) : 0 ≤ fc s ∧ fc s < fc (s + 1) ∧ fc (s + 1) ≤ 200 := h.elim fun _ h => h.2.1 s h1 h2
theorem mo_c {fo go ab be fc : Int → Int} {n s c : Int} (h : mo_ok fo go ab be fc n) (h1 : 0 ≤ s) (h2 : s < n) (h3 : fc s ≤ c) (h4 : c < fc (s + 1)) : ch_ok fo go ab be n c := h.elim fun _ h => h.2.2 s c h1 h2 h3 h4
/-- a policy takes choices that are there -/
def po_ok (fc po : Int → Int) (k n : Int) : Prop := ∃ _ : Unit, ∀ s : Int, 0 ≤ s → s < n → 0 ≤ po (k * 24 + s) ∧ fc s + po (k * 24 + s) < fc (s + 1)
theorem po_e {fc po : Int → Int} {k n s : Int} (h : po_ok fc po k n) (h1 : 0 ≤ s) (h2 : s < n) : 0 ≤ po (k * 24 + s) ∧ fc s + po (k * 24 + s) < fc (s + 1) := h.elim fun _ h => h s h1 h2
theorem po_cs {fo go ab be fc po : Int → Int} {k n : Int} (h : mo_ok fo go ab be fc n) (hp : po_ok fc po k n) : cs_ok fo go ab be fc po k n := ⟨(), fun s h1 h2 => by
  have := po_e hp h1 h2
  exact mo_c h h1 h2 (by omega) (by omega)⟩
def al_in (fo go st : Int → Int) (c o : Int) : Prop := ∃ _ : Unit, ∀ x : Int, fo c ≤ x → x < o → st (go x) = 1
def no_in (fo go st : Int → Int) (c o : Int) : Prop := ∃ _ : Unit, ∀ x : Int, fo c ≤ x → x < o → st (go x) = 0
theorem al_0 {fo go st : Int → Int} {c : Int} : al_in fo go st c (fo c) := ⟨(), fun x h1 h2 => absurd h1 (by omega)⟩
theorem al_s {fo go st : Int → Int} {c o p : Int} (h : al_in fo go st c o) (h1 : st (go o) = 1) (hp : p = o + 1) : al_in fo go st c p := h.elim fun _ h => ⟨(), fun x h2 h3 => by
  by_cases e : x = o
  · rw [e]; exact h1
  · exact h x h2 (by omega)⟩
theorem al_t {fo go st : Int → Int} {c o p : Int} (h : al_in fo go st c o) (hp : p ≤ o) : al_in fo go st c p := h.elim fun _ h => ⟨(), fun x h2 h3 => h x h2 (by omega)⟩
theorem no_0 {fo go st : Int → Int} {c : Int} : no_in fo go st c (fo c) := ⟨(), fun x h1 h2 => absurd h1 (by omega)⟩
theorem no_s {fo go st : Int → Int} {c o p : Int} (h : no_in fo go st c o) (h1 : st (go o) = 0) (hp : p = o + 1) : no_in fo go st c p := h.elim fun _ h => ⟨(), fun x h2 h3 => by
  by_cases e : x = o
  · rw [e]; exact h1
  · exact h x h2 (by omega)⟩
theorem no_t {fo go st : Int → Int} {c o p : Int} (h : no_in fo go st c o) (hp : p ≤ o) : no_in fo go st c p := h.elim fun _ h => ⟨(), fun x h2 h3 => h x h2 (by omega)⟩
theorem al_n {fo go st : Int → Int} {c o p : Int} (h1 : fo c ≤ o) (h2 : o < p) (h3 : ¬ st (go o) = 1) : ¬ al_in fo go st c p := fun h => h.elim fun _ h => h3 (h o h1 h2)
theorem no_n {fo go st : Int → Int} {c o p : Int} (h1 : fo c ≤ o) (h2 : o < p) (h3 : ¬ st (go o) = 0) : ¬ no_in fo go st c p := fun h => h.elim fun _ h => h3 (h o h1 h2)
/-- some choice of a state keeps in; none does, up to one -/
def hs1 (fo go fc st : Int → Int) (s : Int) : Prop := ∃ c : Int, fc s ≤ c ∧ c < fc (s + 1) ∧ al_in fo go st c (fo (c + 1))
def hn1 (fo go fc st : Int → Int) (s c : Int) : Prop := ∃ _ : Unit, ∀ x : Int, fc s ≤ x → x < c → ¬ al_in fo go st x (fo (x + 1))
theorem hn1_0 {fo go fc st : Int → Int} {s : Int} : hn1 fo go fc st s (fc s) := ⟨(), fun x h1 h2 => absurd h1 (by omega)⟩
theorem hn1_s {fo go fc st : Int → Int} {s c p : Int} (h : hn1 fo go fc st s c) (h1 : ¬ al_in fo go st c (fo (c + 1))) (hp : p = c + 1) : hn1 fo go fc st s p := h.elim fun _ h => ⟨(), fun x h2 h3 => by
  by_cases e : x = c
  · rw [e]; exact h1
  · exact h x h2 (by omega)⟩
/-- some choice can get in; none can, up to one -/
def hs0 (fo go fc st : Int → Int) (s : Int) : Prop := ∃ c o : Int, fc s ≤ c ∧ c < fc (s + 1) ∧ fo c ≤ o ∧ o < fo (c + 1) ∧ ¬ st (go o) = 0
/-- the states that can keep out of the target, at most -/
def mx1 (fo go fc tg st : Int → Int) (n : Int) : Prop := ∃ _ : Unit, ∀ S : Int → Prop, (∀ s, S s → (0 ≤ s ∧ s < n) ∧ tg s = 0 ∧ ∃ c : Int, fc s ≤ c ∧ c < fc (s + 1) ∧ ∀ o : Int, fo c ≤ o → o < fo (c + 1) → S (go o)) → ∀ s, S s → st s = 1
theorem mx1_0 {fo go fc tg st : Int → Int} {n : Int} (h : ∀ t : Int, 0 ≤ t → t < n → tg t = 0 → st t = 1) : mx1 fo go fc tg st n := ⟨(), fun S hS s hs => h s (hS s hs).1.1 (hS s hs).1.2 (hS s hs).2.1⟩
theorem mx1_s {fo go fc tg st : Int → Int} {n s c : Int} (h : mx1 fo go fc tg st n) (h1 : hn1 fo go fc st s c) (hc : fc (s + 1) ≤ c) : mx1 fo go fc tg (hw_up st s 0) n := h.elim fun _ h => h1.elim fun _ h1 => ⟨(), fun S hS t ht => by
  by_cases e : t = s
  · exfalso
    subst e
    obtain ⟨c2, q1, q2, q3⟩ := (hS t ht).2.2
    exact h1 c2 q1 (by omega) ⟨(), fun x q4 q5 => h S hS _ (q3 x q4 q5)⟩
  · rw [hw_up_n e]; exact h S hS t ht⟩
/-- the states that can't get to the target stay out -/
def mn0 (fo go fc tg st : Int → Int) (n : Int) : Prop := ∃ _ : Unit, ∀ S : Int → Prop, (∀ s, S s → (0 ≤ s ∧ s < n) ∧ tg s = 0 ∧ ∀ c o : Int, fc s ≤ c → c < fc (s + 1) → fo c ≤ o → o < fo (c + 1) → S (go o)) → ∀ s, S s → st s = 0
theorem mn0_0 {fo go fc tg st : Int → Int} {n : Int} (h : ∀ t : Int, 0 ≤ t → t < n → tg t = 0 → st t = 0) : mn0 fo go fc tg st n := ⟨(), fun S hS s hs => h s (hS s hs).1.1 (hS s hs).1.2 (hS s hs).2.1⟩
theorem mn0_s {fo go fc tg st : Int → Int} {n s : Int} (h : mn0 fo go fc tg st n) (h1 : hs0 fo go fc st s) : mn0 fo go fc tg (hw_up st s 1) n := h.elim fun _ h => ⟨(), fun S hS t ht => by
  by_cases e : t = s
  · exfalso
    subst e
    obtain ⟨c, o, q1, q2, q3, q4, q5⟩ := h1
    exact q5 (h S hS _ ((hS t ht).2.2 c o q1 q2 q3 q4))
  · rw [hw_up_n e]; exact h S hS t ht⟩
/-- an outcome has weight -/
theorem qS_p {fo go ab be : Int → Int} {n c o : Int} (h : ch_ok fo go ab be n c) (h1 : fo c ≤ o) (h2 : o < fo (c + 1)) : 0 < qS fo go ab be c (go o).toNat := by
  obtain ⟨x, hx⟩ := Int.eq_ofNat_of_zero_le (by omega : 0 ≤ o - fo c)
  obtain rfl : o = fo c + x := by omega
  have hx2 : x < nq fo c := by unfold nq; omega
  have h3 := sm_ge (n := nq fo c) (i := x) (f := fun y => if (go (fo c + y)).toNat = (go (fo c + x)).toNat then hq fo ab be c y else 0) hx2 (fun y hy => by
    by_cases e : (go (fo c + y)).toNat = (go (fo c + x)).toNat
    · rw [if_pos e]; exact ch_h h hy
    · rw [if_neg e]; exact Int.le_refl _)
  rw [if_pos rfl] at h3
  have h4 := ch_p h hx2
  unfold qS
  omega
/-- least values: every policy leaves -/
theorem pp_1 {fo go ab be fc po tg ze st : Int → Int} {n : Int} (h : mo_ok fo go ab be fc n) (hm : mx1 fo go fc tg st n) (hz : ∀ t : Int, 0 ≤ t → t < n → tg t = 0 → ze (1 * 24 + t) = 0 → ¬ st t = 1) (hp : po_ok fc po 1 n) : pp_ok n.toNat (uS tg ze 1 n) (fun s => qS fo go ab be (cS fc po 1 s)) := by
  intro S hS hne
  by_cases hno : ∃ s t, S s ∧ t < n.toNat ∧ ¬ S t ∧ 0 < qS fo go ab be (cS fc po 1 s) t
  · exact hno
  · exfalso
    obtain ⟨s, hs⟩ := hne
    have h1 := hm.elim fun _ hm => hm (fun z => 0 ≤ z ∧ S z.toNat) (fun z hz => by
      have h2 := hS _ hz.2
      have e : ((z.toNat : Nat) : Int) = z := by omega
      unfold uS at h2
      rw [e] at h2
      have h3 := po_e hp hz.1 h2.1
      have h4 := mo_c h hz.1 h2.1 (c := fc z + po (1 * 24 + z)) (by omega) (by omega)
      refine ⟨⟨hz.1, h2.1⟩, h2.2.1, fc z + po (1 * 24 + z), by omega, by omega, fun o h5 h6 => ?_⟩
      have h7 := ch_o h4 h5 h6
      refine ⟨h7.1, ?_⟩
      by_cases q : S (go o).toNat
      · exact q
      · have h8 := qS_p h4 h5 h6
        refine absurd ⟨z.toNat, (go o).toNat, hz.2, by omega, q, ?_⟩ hno
        show 0 < qS fo go ab be (fc ((z.toNat : Nat) : Int) + po (1 * 24 + ((z.toNat : Nat) : Int))) (go o).toNat
        rw [e]
        exact h8) s ⟨by omega, by rw [Int.toNat_natCast]; exact hs⟩
    have h2 := hS s hs
    exact hz s (by omega) h2.1 h2.2.1 h2.2.2 h1
/-- greatest values: ranks of the states that can get to the target -/
def rk_ok (fo go fc tg gt po : Int → Int) (n r : Int) : Prop := ∃ _ : Unit, ∀ s : Int, 0 ≤ s → s < n → (0 ≤ gt s ∧ gt s ≤ r) ∧ (0 ≤ po (0 * 24 + s) ∧ fc s + po (0 * 24 + s) < fc (s + 1)) ∧ (0 < gt s → ∃ o : Int, fo (fc s + po (0 * 24 + s)) ≤ o ∧ o < fo (fc s + po (0 * 24 + s) + 1) ∧ (¬ tg (go o) = 0 ∨ (0 < gt (go o) ∧ gt (go o) < gt s)))
theorem pp_0 {fo go ab be fc po tg ze st gt : Int → Int} {n r : Int} (h : mo_ok fo go ab be fc n) (hr : rk_ok fo go fc tg gt po n r) (hm : mn0 fo go fc tg st n) (hz : ∀ t : Int, 0 ≤ t → t < n → tg t = 0 → ze (0 * 24 + t) = 0 → ¬ st t = 0) (he : ∀ s c o : Int, 0 ≤ s → s < n → tg s = 0 → gt s = 0 → fc s ≤ c → c < fc (s + 1) → fo c ≤ o → o < fo (c + 1) → tg (go o) = 0 ∧ gt (go o) = 0) : pp_ok n.toNat (uS tg ze 0 n) (fun s => qS fo go ab be (cS fc po 0 s)) := by
  intro S hS hne
  have hpos : ∀ s : Nat, S s → 0 < gt s := fun s hs => by
    have h2 := hS s hs
    by_cases q : 0 < gt s
    · exact q
    · exfalso
      have h3 := hr.elim fun _ hr => (hr s (by omega) h2.1).1
      refine hz s (by omega) h2.1 h2.2.1 h2.2.2 (hm.elim fun _ hm => hm (fun z => (0 ≤ z ∧ z < n) ∧ tg z = 0 ∧ gt z = 0) (fun z hz => ⟨hz.1, hz.2.1, fun c o q1 q2 q3 q4 => ?_⟩) s ⟨⟨by omega, h2.1⟩, h2.2.1, by omega⟩)
      have h4 := he z c o hz.1.1 hz.1.2 hz.2.1 hz.2.2 q1 q2 q3 q4
      have h5 := ch_o (mo_c h hz.1.1 hz.1.2 q1 q2) q3 q4
      exact ⟨⟨h5.1, h5.2.1⟩, h4.1, h4.2⟩
  obtain ⟨x, hx⟩ := hne
  have hxn := (hS x hx).1
  obtain ⟨s, h1, h2, h3⟩ := fin_min (n := n.toNat) (y := fun t => gt t) (S := S) ⟨x, by omega, hx⟩
  have hu := hS s h2
  have h4 := hr.elim fun _ hr => hr s (by omega) hu.1
  obtain ⟨o, q1, q2, q3⟩ := h4.2.2 (hpos s h2)
  have h5 := mo_c h (s := s) (by omega) hu.1 (c := fc s + po (0 * 24 + s)) (by omega) (by omega)
  have h6 := ch_o h5 q1 q2
  have h9 : (go o).toNat < n.toNat := by
    have b1 := h6.1
    have b2 := h6.2.1
    clear h4 q3 h6
    omega
  refine ⟨s, (go o).toNat, h2, h9, fun hS2 => ?_, qS_p h5 q1 q2⟩
  have e : (((go o).toNat : Nat) : Int) = go o := by
    have b1 := h6.1
    clear h4 q3 h6
    omega
  have h7 := hS _ hS2
  unfold uS at h7
  rw [e] at h7
  rcases q3 with q3 | q3
  · exact q3 h7.2.1
  · have h8 := h3 _ h9 hS2
    clear h4
    rw [e] at h8
    omega
end C5l
