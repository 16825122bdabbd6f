/-! the model: the commands of a choice, their weights; how ways follow each other -/
section C73
def lcmI (x y : Int) : Int := ((Nat.lcm x.toNat y.toNat : Nat) : Int)
theorem lcmI_p {x y : Int} (hx : 1 ≤ x) (hy : 1 ≤ y) : 1 ≤ lcmI x y ∧ x ∣ lcmI x y ∧ y ∣ lcmI x y := by
  have h := Nat.lcm_pos (m := x.toNat) (n := y.toNat) (by omega) (by omega)
  have a := Nat.dvd_lcm_left x.toNat y.toNat
  have b := Nat.dvd_lcm_right x.toNat y.toNat
  have ex : ((x.toNat : Nat) : Int) = x := by omega
  have ey : ((y.toNat : Nat) : Int) = y := by omega
  unfold lcmI
  refine ⟨by omega, ?_, ?_⟩
  · have z := Int.natCast_dvd_natCast.mpr a
    rw [ex] at z; exact z
  · have z := Int.natCast_dvd_natCast.mpr b
    rw [ey] at z; exact z
/-- a chance's denominator in lowest terms -/
def dd (ov un : Int → Int) (i : Int) : Int := un i / gd (ov i) (un i)
theorem dd_p {ov un : Int → Int} {i : Int} (h0 : 1 ≤ ov i) (h1 : 1 ≤ un i) : 1 ≤ dd ov un i ∧ dd ov un i ∣ un i ∧ ∃ o : Int, 1 ≤ o ∧ gd o (dd ov un i) = 1 ∧ un i * o = dd ov un i * ov i := by
  have l : lo_v (ov i) (un i) (ov i / gd (ov i) (un i)) (un i / gd (ov i) (un i)) := ⟨(), fun h => by omega, fun _ => ⟨rfl, rfl⟩⟩
  obtain ⟨g, g0, g1, g2, g3, g4, g5⟩ := lv_1 l h0 h1
  refine ⟨g4, ⟨g, ?_⟩, _, g3, g5, ?_⟩
  · show un i = un i / gd (ov i) (un i) * g
    rw [Int.mul_comm]; exact g2
  · show un i * (ov i / gd (ov i) (un i)) = un i / gd (ov i) (un i) * ov i
    generalize ov i / gd (ov i) (un i) = a at *
    generalize un i / gd (ov i) (un i) = b at *
    rw [g2, g1]
    simp only [Int.mul_assoc, Int.mul_comm, Int.mul_left_comm]
/-- the least common multiple of the chances of updates that set something -/
def lA (ov un st : Int → Int) (b : Int) : Nat → Int
  | 0 => 1
  | c + 1 => if ut st (b + c) = 1 then lA ov un st b c else lcmI (lA ov un st b c) (dd ov un (b + c))
theorem lA_p {ov un st : Int → Int} {b : Int} {n : Nat} (h : ∀ c : Nat, c < n → 1 ≤ dd ov un (b + c)) : 1 ≤ lA ov un st b n ∧ ∀ c : Nat, c < n → ¬ ut st (b + c) = 1 → dd ov un (b + c) ∣ lA ov un st b n := by
  induction n with
  | zero => exact ⟨Int.le_refl 1, fun c hc => absurd hc (Nat.not_lt_zero c)⟩
  | succ n ih =>
    obtain ⟨i1, i2⟩ := ih (fun c hc => h c (by omega))
    have h1 := lcmI_p i1 (h n (by omega))
    have ee : lA ov un st b (n + 1) = if ut st (b + n) = 1 then lA ov un st b n else lcmI (lA ov un st b n) (dd ov un (b + n)) := rfl
    by_cases e : ut st (b + n) = 1
    · rw [ee, if_pos e]
      refine ⟨i1, fun c hc hu => ?_⟩
      by_cases q : c = n
      · subst q; exact absurd e hu
      · exact i2 c (by omega) hu
    · rw [ee, if_neg e]
      refine ⟨h1.1, fun c hc hu => ?_⟩
      by_cases q : c = n
      · subst q; exact h1.2.2
      · exact Int.dvd_trans (i2 c (by omega) hu) h1.2.1
theorem pu_p {f : Int → Int} {b : Int} {n : Nat} (h : ∀ c : Nat, c < n → 1 ≤ f (b + c)) : 1 ≤ pu f b n ∧ ∀ c : Nat, c < n → f (b + c) ∣ pu f b n := by
  induction n with
  | zero => exact ⟨Int.le_refl 1, fun c hc => absurd hc (Nat.not_lt_zero c)⟩
  | succ n ih =>
    obtain ⟨i1, i2⟩ := ih (fun c hc => h c (by omega))
    have h1 := h n (by omega)
    have h2 := Int.mul_pos (show 0 < pu f b n by omega) (show 0 < f (b + n) by omega)
    refine ⟨?_, fun c hc => ?_⟩
    · show 1 ≤ pu f b n * f (b + n)
      omega
    · show f (b + c) ∣ pu f b n * f (b + n)
      by_cases q : c = n
      · subst q; exact Int.dvd_mul_left _ _
      · exact Int.dvd_trans (i2 c (by omega)) (Int.dvd_mul_right _ _)
theorem pu_le {f : Int → Int} {b : Int} {n : Nat} (h : ∀ c : Nat, c < n → 1 ≤ f (b + c) ∧ f (b + c) ≤ 1000) : pu f b n ≤ 1000 ^ n := by
  induction n with
  | zero => exact Int.le_refl 1
  | succ n ih =>
    have i1 := (pu_p (fun c hc => (h c (by omega)).1) : 1 ≤ pu f b n ∧ _).1
    have h1 := h n (by omega)
    show pu f b n * f (b + n) ≤ 1000 ^ (n + 1)
    rw [Int.pow_succ]
    exact Int.mul_le_mul (ih (fun c hc => h c (by omega))) h1.2 (by omega) (by have := Int.pow_pos (n := 1000) (m := n) (by decide); omega)
theorem su_sm {v f : Int → Int} {b A : Int} {n : Nat} : sm n (fun c => A / f (b + c) * v (b + c)) = su v f b A n := by
  induction n with
  | zero => rfl
  | succ n ih =>
    show sm n (fun c => A / f (b + c) * v (b + c)) + A / f (b + n) * v (b + n) = su v f b A n + A / f (b + n) * v (b + n)
    rw [ih]
/-- the command at place j of a choice of n: its updates, chances, weights -/
def cuj (up tk : Int → Int) (n : Int) (j : Int) : Nat := if j < n then (up (tk j)).toNat else 1
def cnj (un tk : Int → Int) (n j : Int) (c : Nat) : Int := if j < n then un (tk j * 6 + c) else 1
def ctj (st tk : Int → Int) (n j : Int) (c : Nat) : Prop := j < n ∧ ut st (tk j * 6 + c) = 1
def cPj (un up tk : Int → Int) (n j : Int) : Int := if j < n then pu un (tk j * 6) (up (tk j)).toNat else 1
def cAj (ov un st up tk : Int → Int) (n j : Int) : Int := if j < n then lA ov un st (tk j * 6) (up (tk j)).toNat else 1
def cDn (un up tk : Int → Int) (n : Int) : Int := cPj un up tk n 0 * (cPj un up tk n 1 * (cPj un up tk n 2 * 1))
def cMn (ov un st up tk : Int → Int) (n : Int) : Int := cAj ov un st up tk n 0 * (cAj ov un st up tk n 1 * (cAj ov un st up tk n 2 * 1))
def cWt (ov un up tk : Int → Int) (n : Int) : Nat → Int := wW (cuj up tk n 1) (cuj up tk n 2) (cnj un tk n 0) (cnj ov tk n 0) (cnj un tk n 1) (cnj ov tk n 1) (cnj un tk n 2) (cnj ov tk n 2) (cPj un up tk n 0) (cPj un up tk n 1) (cPj un up tk n 2)
def cwn (up tk : Int → Int) (n : Int) : Nat := cuj up tk n 0 * cuj up tk n 1 * cuj up tk n 2
/-- which update a way chooses -/
def dgt (up tk : Int → Int) (n : Int) (y : Nat) (j : Int) : Int := if j = 0 then ((y / cuj up tk n 2 / cuj up tk n 1 : Nat) : Int) else if j = 1 then ((y / cuj up tk n 2 % cuj up tk n 1 : Nat) : Int) else ((y % cuj up tk n 2 : Nat) : Int)
def tq_ok (tk ca : Int → Int) (n cn : Int) : Prop := ∃ _ : Unit, (∀ i : Int, 0 ≤ i → i < n → 0 ≤ tk i ∧ tk i < cn) ∧ (∀ i j : Int, 0 ≤ i → i < j → j < n → ¬ tk i = tk j) ∧ (2 ≤ n → ∀ i : Int, 0 ≤ i → i < n → 0 ≤ ca (tk i))
section cmd
variable {cd gu up ov un st cm ca tk : Int → Int} {cs cn x n : Int}
theorem tq_e {i : Int} (h : tq_ok tk ca n cn) (h1 : 0 ≤ i) (h2 : i < n) : 0 ≤ tk i ∧ tk i < cn := h.elim fun _ h => h.1 i h1 h2
theorem wej_g {j : Int} (h : tq_ok tk ca n cn) (hp : ps_ok cd gu up ov un st cm ca cs cn x) (hj : 0 ≤ j) : wej_ok (cuj up tk n j) (cnj un tk n j) (cnj ov tk n j) (ctj st tk n j) (cAj ov un st up tk n j) (cPj un up tk n j) := by
  by_cases e : j < n
  · have h1 := tq_e h hj e
    obtain ⟨q1, q2, q3, q4, q5, q6, q7⟩ := ps_c hp h1.1 h1.2
    have eu : cuj up tk n j = (up (tk j)).toNat := if_pos e
    have eA : cAj ov un st up tk n j = lA ov un st (tk j * 6) (up (tk j)).toNat := if_pos e
    have eP : cPj un up tk n j = pu un (tk j * 6) (up (tk j)).toNat := if_pos e
    have en : ∀ (f : Int → Int) (c : Nat), cnj f tk n j c = f (tk j * 6 + c) := fun f c => if_pos e
    have hc : ∀ c : Nat, c < (up (tk j)).toNat → 1 ≤ ov (tk j * 6 + c) ∧ ov (tk j * 6 + c) ≤ un (tk j * 6 + c) ∧ un (tk j * 6 + c) ≤ 1000 := fun c hc => c1_e q3 (by omega) (by omega)
    have p1 := pu_p (f := un) (b := tk j * 6) (n := (up (tk j)).toNat) (fun c h => by have := hc c h; omega)
    have hd : ∀ c : Nat, c < (up (tk j)).toNat → 1 ≤ dd ov un (tk j * 6 + c) ∧ dd ov un (tk j * 6 + c) ∣ un (tk j * 6 + c) ∧ ∃ o : Int, 1 ≤ o ∧ gd o (dd ov un (tk j * 6 + c)) = 1 ∧ un (tk j * 6 + c) * o = dd ov un (tk j * 6 + c) * ov (tk j * 6 + c) := fun c h => by
      have q := hc c h
      exact dd_p (by omega) (by omega)
    have a1 := lA_p (ov := ov) (un := un) (st := st) (b := tk j * 6) (n := (up (tk j)).toNat) (fun c h => (hd c h).1)
    rw [eu, eA, eP]
    refine ⟨p1.1, fun c h2 h3 => ?_, fun c h2 => ?_, ?_⟩
    · rw [en, en]
      obtain ⟨a, ha⟩ := a1.2 c h2 (fun z => h3 ⟨e, z⟩)
      obtain ⟨_, _, o, _, _, ho⟩ := hd c h2
      refine ⟨o * a, ?_⟩
      calc lA ov un st (tk j * 6) (up (tk j)).toNat * ov (tk j * 6 + c) = dd ov un (tk j * 6 + c) * a * ov (tk j * 6 + c) := by rw [← ha]
        _ = dd ov un (tk j * 6 + c) * ov (tk j * 6 + c) * a := by simp only [Int.mul_assoc, Int.mul_comm, Int.mul_left_comm]
        _ = un (tk j * 6 + c) * o * a := by rw [← ho]
        _ = un (tk j * 6 + c) * (o * a) := Int.mul_assoc _ _ _
    · rw [en, en]
      have := hc c h2
      exact ⟨p1.2 c h2, by omega, by omega⟩
    · obtain ⟨m, e1, e2⟩ := q4
      have em : m = (up (tk j)).toNat := by omega
      subst em
      rw [← su_sm] at e2
      refine Eq.trans (sm_eq (fun c _ => ?_)) e2
      rw [en, en]
  · have eu : cuj up tk n j = 1 := if_neg e
    have eA : cAj ov un st up tk n j = 1 := if_neg e
    have eP : cPj un up tk n j = 1 := if_neg e
    have en : ∀ (f : Int → Int) (c : Nat), cnj f tk n j c = 1 := fun f c => if_neg e
    rw [eu, eA, eP]
    refine ⟨by decide, fun c h2 h3 => ?_, fun c h2 => ?_, ?_⟩
    · rw [en, en]; exact Int.dvd_refl 1
    · rw [en, en]; exact ⟨Int.dvd_refl 1, by decide, by decide⟩
    · show 0 + 1 / cnj un tk n j 0 * cnj ov tk n j 0 = 1
      rw [en, en]; decide
theorem cuj_p {j : Int} (h : tq_ok tk ca n cn) (hp : ps_ok cd gu up ov un st cm ca cs cn x) (hj : 0 ≤ j) : 1 ≤ cuj up tk n j ∧ cuj up tk n j ≤ 6 := by
  unfold cuj
  split
  · have h1 := tq_e h hj (by assumption)
    have := (ps_c hp h1.1 h1.2).2.1
    omega
  · omega
theorem cW_s (h : tq_ok tk ca n cn) (hp : ps_ok cd gu up ov un st cm ca cs cn x) : sm (cwn up tk n) (cWt ov un up tk n) = cDn un up tk n := wW_1 (by have := cuj_p h hp (j := 1) (by decide); omega) (by have := cuj_p h hp (j := 2) (by decide); omega) (wej_g h hp (by decide)) (wej_g h hp (by decide)) (wej_g h hp (by decide))
theorem dv_pos {P a : Int} (hP : 1 ≤ P) (ha : 1 ≤ a) (h : a ∣ P) : 1 ≤ P / a := by
  obtain ⟨k, hk⟩ := h
  have e : P / a = k := by
    rw [hk]
    exact Int.mul_ediv_cancel_left _ (by omega)
  rw [e]
  rcases Int.lt_or_le 0 k with r | r
  · omega
  · have := Int.mul_nonpos_of_nonneg_of_nonpos (show 0 ≤ a by omega) r
    omega
theorem dg_b {y : Nat} (h : tq_ok tk ca n cn) (hp : ps_ok cd gu up ov un st cm ca cs cn x) (hy : y < cwn up tk n) : y / cuj up tk n 2 / cuj up tk n 1 < cuj up tk n 0 ∧ y / cuj up tk n 2 % cuj up tk n 1 < cuj up tk n 1 ∧ y % cuj up tk n 2 < cuj up tk n 2 := by
  have h1 := cuj_p h hp (j := 1) (by decide)
  have h2 := cuj_p h hp (j := 2) (by decide)
  refine ⟨?_, Nat.mod_lt _ (by omega), Nat.mod_lt _ (by omega)⟩
  rw [Nat.div_div_eq_div_mul, Nat.div_lt_iff_lt_mul (Nat.mul_pos (by omega) (by omega)), Nat.mul_comm (cuj up tk n 2), ← Nat.mul_assoc]
  exact hy
theorem cW_p {y : Nat} (h : tq_ok tk ca n cn) (hp : ps_ok cd gu up ov un st cm ca cs cn x) (hy : y < cwn up tk n) : 0 < cWt ov un up tk n y := by
  have d := dg_b h hp hy
  have w0 := wej_g h hp (j := 0) (by decide)
  have w1 := wej_g h hp (j := 1) (by decide)
  have w2 := wej_g h hp (j := 2) (by decide)
  have k : ∀ {u : Nat} {f v : Nat → Int} {t : Nat → Prop} {A P : Int} {c : Nat}, wej_ok u f v t A P → c < u → 0 < P / f c * v c := fun w hc => by
    have a := w.2.2.1 _ hc
    have b := dv_pos w.1 a.2.1 a.1
    exact Int.mul_pos (by omega) (by omega)
  exact Int.mul_pos (k w0 d.1) (Int.mul_pos (k w1 d.2.1) (k w2 d.2.2))
theorem cD_b (h : tq_ok tk ca n cn) (hp : ps_ok cd gu up ov un st cm ca cs cn x) (hw : cwn up tk n ≤ 16) : 1 ≤ cDn un up tk n ∧ cDn un up tk n < wB 6 := by
  have p : ∀ j : Int, 0 ≤ j → 1 ≤ cPj un up tk n j ∧ cPj un up tk n j ≤ 1000 ^ cuj up tk n j := fun j hj => by
    refine ⟨(wej_g h hp hj).1, ?_⟩
    unfold cPj cuj
    split
    · have h1 := tq_e h hj (by assumption)
      have q := (ps_c hp h1.1 h1.2).2.2.1
      exact pu_le (fun c hc => by
        have := c1_e q (j := c) (by omega) (by omega)
        omega)
    · decide
  have p0 := p 0 (by decide)
  have p1 := p 1 (by decide)
  have p2 := p 2 (by decide)
  have u0 := cuj_p h hp (j := 0) (by decide)
  have u1 := cuj_p h hp (j := 1) (by decide)
  have u2 := cuj_p h hp (j := 2) (by decide)
  have s : cuj up tk n 0 + (cuj up tk n 1 + cuj up tk n 2) ≤ 9 := by
    unfold cwn at hw
    generalize cuj up tk n 0 = a at *
    generalize cuj up tk n 1 = b at *
    generalize cuj up tk n 2 = c at *
    clear p p0 p1 p2 hp h
    have ca : a = 1 ∨ a = 2 ∨ a = 3 ∨ a = 4 ∨ a = 5 ∨ a = 6 := by omega
    have cb : b = 1 ∨ b = 2 ∨ b = 3 ∨ b = 4 ∨ b = 5 ∨ b = 6 := by omega
    rcases ca with r | r | r | r | r | r <;> subst r <;> rcases cb with r | r | r | r | r | r <;> subst r <;> omega
  unfold cDn
  have m1 := Int.mul_pos (show 0 < cPj un up tk n 1 by omega) (show 0 < cPj un up tk n 2 * 1 by omega)
  have m0 := Int.mul_pos (show 0 < cPj un up tk n 0 by omega) m1
  refine ⟨by omega, ?_⟩
  have z : ∀ k : Nat, (0 : Int) ≤ 1000 ^ k := fun k => by
    have := Int.pow_pos (n := 1000) (m := k) (by decide)
    omega
  have b1 : cPj un up tk n 1 * (cPj un up tk n 2 * 1) ≤ 1000 ^ cuj up tk n 1 * 1000 ^ cuj up tk n 2 := Int.mul_le_mul p1.2 (by omega) (by omega) (z _)
  have b0 : cPj un up tk n 0 * (cPj un up tk n 1 * (cPj un up tk n 2 * 1)) ≤ 1000 ^ cuj up tk n 0 * (1000 ^ cuj up tk n 1 * 1000 ^ cuj up tk n 2) := Int.mul_le_mul p0.2 b1 (by omega) (z _)
  rw [← Int.pow_add, ← Int.pow_add] at b0
  have ec : ∀ k : Nat, ((1000 ^ k : Nat) : Int) = (1000 : Int) ^ k := fun k => by rw [Int.natCast_pow]; rfl
  have b2 : (1000 : Int) ^ (cuj up tk n 0 + (cuj up tk n 1 + cuj up tk n 2)) ≤ 1000 ^ 9 := by
    rw [← ec, ← ec]
    exact Int.ofNat_le.mpr (Nat.pow_le_pow_right (by decide) s)
  have b3 : (1000 : Int) ^ 9 < wB 6 := by
    show (1000 : Int) ^ 9 < 65536 ^ 6
    decide
  omega
/-- a way's own numbers -/
theorem cW_q {ch : Int → Int} {y : Nat} (h : tq_ok tk ca n cn) (hp : ps_ok cd gu up ov un st cm ca cs cn x) (hn : 0 ≤ n ∧ n ≤ 3) (hy : y < cwn up tk n) (hc : ∀ i : Int, 0 ≤ i → i < n → ch i = dgt up tk n y i) : pd un tk ch n.toNat ∣ cDn un up tk n ∧ cDn un up tk n / pd un tk ch n.toNat * pd ov tk ch n.toNat = cWt ov un up tk n y := by
  have d := dg_b h hp hy
  have w0 := wej_g h hp (j := 0) (by decide)
  have w1 := wej_g h hp (j := 1) (by decide)
  have w2 := wej_g h hp (j := 2) (by decide)
  have e : ∀ f : Int → Int, pd f tk ch n.toNat = cnj f tk n 0 (y / cuj up tk n 2 / cuj up tk n 1) * (cnj f tk n 1 (y / cuj up tk n 2 % cuj up tk n 1) * cnj f tk n 2 (y % cuj up tk n 2)) := fun f => by
    have c : n = 0 ∨ n = 1 ∨ n = 2 ∨ n = 3 := by omega
    have g0 : ∀ c : Nat, 0 < n → cnj f tk n 0 c = f (tk 0 * 6 + c) := fun c h => if_pos h
    have g1 : ∀ c : Nat, 1 < n → cnj f tk n 1 c = f (tk 1 * 6 + c) := fun c h => if_pos h
    have g2 : ∀ c : Nat, 2 < n → cnj f tk n 2 c = f (tk 2 * 6 + c) := fun c h => if_pos h
    have k0 : ∀ c : Nat, n ≤ 0 → cnj f tk n 0 c = 1 := fun c h => if_neg (by omega)
    have k1 : ∀ c : Nat, n ≤ 1 → cnj f tk n 1 c = 1 := fun c h => if_neg (by omega)
    have k2 : ∀ c : Nat, n ≤ 2 → cnj f tk n 2 c = 1 := fun c h => if_neg (by omega)
    have c0 : 0 < n → ch 0 = ((y / cuj up tk n 2 / cuj up tk n 1 : Nat) : Int) := fun h => (hc 0 (by decide) h).trans (if_pos rfl)
    have c1 : 1 < n → ch 1 = ((y / cuj up tk n 2 % cuj up tk n 1 : Nat) : Int) := fun h => (hc 1 (by decide) h).trans ((if_neg (by decide)).trans (if_pos rfl))
    have c2 : 2 < n → ch 2 = ((y % cuj up tk n 2 : Nat) : Int) := fun h => (hc 2 (by decide) h).trans ((if_neg (by decide)).trans (if_neg (by decide)))
    rcases c with c | c | c | c
    · rw [k0 _ (by omega), k1 _ (by omega), k2 _ (by omega), c]; rfl
    · rw [g0 _ (by omega), k1 _ (by omega), k2 _ (by omega), ← c0 (by omega), c]
      show 1 * f (tk 0 * 6 + ch 0) = f (tk 0 * 6 + ch 0) * (1 * 1)
      omega
    · rw [g0 _ (by omega), g1 _ (by omega), k2 _ (by omega), ← c0 (by omega), ← c1 (by omega), c]
      show 1 * f (tk 0 * 6 + ch 0) * f (tk 1 * 6 + ch 1) = f (tk 0 * 6 + ch 0) * (f (tk 1 * 6 + ch 1) * 1)
      rw [Int.one_mul, Int.mul_one]
    · rw [g0 _ (by omega), g1 _ (by omega), g2 _ (by omega), ← c0 (by omega), ← c1 (by omega), ← c2 (by omega), c]
      show 1 * f (tk 0 * 6 + ch 0) * f (tk 1 * 6 + ch 1) * f (tk 2 * 6 + ch 2) = f (tk 0 * 6 + ch 0) * (f (tk 1 * 6 + ch 1) * f (tk 2 * 6 + ch 2))
      rw [Int.one_mul, Int.mul_assoc]
  rw [e un, e ov]
  have a0 := w0.2.2.1 _ d.1
  have a1 := w1.2.2.1 _ d.2.1
  have a2 := w2.2.2.1 _ d.2.2
  have p0 := w0.1
  have p1 := w1.1
  have p2 := w2.1
  unfold cDn cWt wW
  generalize cnj un tk n 0 (y / cuj up tk n 2 / cuj up tk n 1) = f0 at *
  generalize cnj un tk n 1 (y / cuj up tk n 2 % cuj up tk n 1) = f1 at *
  generalize cnj un tk n 2 (y % cuj up tk n 2) = f2 at *
  generalize cnj ov tk n 0 (y / cuj up tk n 2 / cuj up tk n 1) = v0 at *
  generalize cnj ov tk n 1 (y / cuj up tk n 2 % cuj up tk n 1) = v1 at *
  generalize cnj ov tk n 2 (y % cuj up tk n 2) = v2 at *
  generalize cPj un up tk n 0 = P0 at *
  generalize cPj un up tk n 1 = P1 at *
  generalize cPj un up tk n 2 = P2 at *
  clear e w0 w1 w2 d hc hy hp h
  obtain ⟨⟨k0, r0⟩, b0, _⟩ := a0
  obtain ⟨⟨k1, r1⟩, b1, _⟩ := a1
  obtain ⟨⟨k2, r2⟩, b2, _⟩ := a2
  have q0 : P0 / f0 = k0 := by rw [r0]; exact Int.mul_ediv_cancel_left _ (by omega)
  have q1 : P1 / f1 = k1 := by rw [r1]; exact Int.mul_ediv_cancel_left _ (by omega)
  have q2 : P2 / f2 = k2 := by rw [r2]; exact Int.mul_ediv_cancel_left _ (by omega)
  have m1 := Int.mul_pos (show 0 < f1 by omega) (show 0 < f2 by omega)
  have m0 := Int.mul_pos (show 0 < f0 by omega) m1
  have eD : P0 * (P1 * (P2 * 1)) = f0 * (f1 * f2) * (k0 * (k1 * k2)) := by
    rw [r0, r1, r2]
    simp only [Int.mul_one, Int.mul_assoc, Int.mul_comm, Int.mul_left_comm]
  refine ⟨⟨_, eD⟩, ?_⟩
  have eq : P0 * (P1 * (P2 * 1)) / (f0 * (f1 * f2)) = k0 * (k1 * k2) := by
    rw [eD]
    exact Int.mul_ediv_cancel_left _ (by omega)
  rw [eq, q0, q1, q2]
  simp only [Int.mul_assoc, Int.mul_comm, Int.mul_left_comm]
end cmd
/-- where the ways so far led, and why -/
def ds_ok (cd nw st up tk va : Int → Int) (vn ns n : Int) (ds : Nat → Int) (y : Nat) : Prop := ∃ _ : Unit, ∀ i : Nat, i < y → (0 ≤ ds i ∧ ds i < ns) ∧ nj_ok cd nw st tk (dgt up tk n i) vn n (fun v => va (8 * ds i + v))
theorem ds_0 {cd nw st up tk va : Int → Int} {vn ns n : Int} {ds : Nat → Int} : ds_ok cd nw st up tk va vn ns n ds 0 := ⟨(), fun i h => absurd h (Nat.not_lt_zero i)⟩
theorem ag_t {f g h : Int → Int} {n : Int} (a : ag_ok f g n) (b : ag_ok g h n) : ag_ok f h n := a.elim fun _ a => b.elim fun _ b => ⟨(), fun q h1 h2 => (a q h1 h2).trans (b q h1 h2)⟩
theorem nc_c {cd nw st tk ch ch' g : Int → Int} {vn j : Int} (h : nc_ok cd nw st tk ch vn j g) (hc : ∀ i : Int, 0 ≤ i → i < j → ch i = ch' i) : nc_ok cd nw st tk ch' vn j g := by
  obtain ⟨k, h, h1, h2, h3, h4⟩ := h
  refine ⟨k, h, h1, h2, h3, fun i hi => ?_⟩
  rw [← hc i (by omega) (by omega)]
  exact h4 i hi
theorem ds_s {cd nw st up tk ch va vb nx : Int → Int} {vn ns ns' n s : Int} {ds : Nat → Int} {y : Nat} (h : ds_ok cd nw st up tk va vn ns n ds y) (hk : vk_ok va vb ns) (hv : vn ≤ 8) (h1 : 0 ≤ s) (h2 : s < ns') (h3 : ns ≤ ns') (hj : nj_ok cd nw st tk ch vn n nx) (hr : ro_ok vb nx (8 * s) vn) (hc : ∀ i : Int, 0 ≤ i → i < n → ch i = dgt up tk n y i) : ds_ok cd nw st up tk vb vn ns' n (dn ds y s) (y + 1) := h.elim fun _ h => hk.elim fun _ hk => hr.elim fun _ hr => ⟨(), fun i hi => by
  by_cases e : i = y
  · subst e
    rw [dn_w]
    obtain ⟨g, g1, g2⟩ := hj
    exact ⟨⟨h1, h2⟩, g, nc_c g1 hc, ag_t ⟨(), fun q a b => hr q a b⟩ g2⟩
  · rw [dn_n (by omega)]
    obtain ⟨a, g, g1, g2⟩ := h i (by omega)
    exact ⟨by omega, g, g1, ag_t ⟨(), fun q b c => hk _ (by omega)⟩ g2⟩⟩
/-- ways that differ by updates that set nothing lead to the same -/
theorem ds_u {cd nw st up tk va : Int → Int} {vn ns n : Int} {ds : Nat → Int} {y i k : Nat} (h : ds_ok cd nw st up tk va vn ns n ds y) (hr : dr_ok va vn ns) (hv : vn ≤ 8) (hi : i < y) (hk : k < y) (he : ∀ j : Int, 0 ≤ j → j < n → dgt up tk n i j = dgt up tk n k j ∨ (ut st (tk j * 6 + dgt up tk n i j) = 1 ∧ ut st (tk j * 6 + dgt up tk n k j) = 1)) : ds i = ds k := by
  obtain ⟨⟨a1, a2⟩, g, a3, a4⟩ := h.elim fun _ h => h i hi
  obtain ⟨⟨b1, b2⟩, f, b3, b4⟩ := h.elim fun _ h => h k hk
  have e := nc_u a3 b3 hv he
  subst e
  refine dr_e hr a1 a2 b1 b2 (fun v h1 h2 => ?_)
  exact (ag_e a4 h1 h2).trans (ag_e b4 h1 h2).symm
/-- a choice that is complete: its denominators divide those of its commands -/
theorem cx_M {cd gu up ov un st cm ca tk nw va go ab be : Int → Int} {cs cn x n vn ns f0 oc o : Int} {ds : Nat → Int} (h : tq_ok tk ca n cn) (hp : ps_ok cd gu up ov un st cm ca cs cn x) (hn : 0 ≤ n ∧ n ≤ 3) (hw : cwn up tk n ≤ 16) (hd : ds_ok cd nw st up tk va vn ns n ds (cwn up tk n)) (hr : dr_ok va vn ns) (hv : vn ≤ 8) (ho : ocm_ok go ab be f0 oc (cDn un up tk n) (cWt ov un up tk n) ds (cwn up tk n)) (h1 : f0 ≤ o) (h2 : o < oc) : bw be (o * 20) ∣ cMn ov un st up tk n := by
  refine oc_dv ho (cD_b h hp hw).1 h1 h2 ?_
  have u1 := cuj_p h hp (j := 1) (by decide)
  have u2 := cuj_p h hp (j := 2) (by decide)
  let wi : Nat → Nat → Nat → Nat := fun a b c => (a * cuj up tk n 1 + b) * cuj up tk n 2 + c
  have dm : ∀ a b c : Nat, b < cuj up tk n 1 → c < cuj up tk n 2 → wi a b c / cuj up tk n 2 / cuj up tk n 1 = a ∧ wi a b c / cuj up tk n 2 % cuj up tk n 1 = b ∧ wi a b c % cuj up tk n 2 = c := fun a b c hb hc => by
    have e1 : wi a b c / cuj up tk n 2 = a * cuj up tk n 1 + b := by
      show ((a * cuj up tk n 1 + b) * cuj up tk n 2 + c) / cuj up tk n 2 = _
      rw [Nat.mul_comm _ (cuj up tk n 2), Nat.mul_add_div (by omega), Nat.div_eq_of_lt hc, Nat.add_zero]
    have e2 : wi a b c % cuj up tk n 2 = c := by
      show ((a * cuj up tk n 1 + b) * cuj up tk n 2 + c) % cuj up tk n 2 = _
      rw [Nat.mul_comm _ (cuj up tk n 2), Nat.mul_add_mod, Nat.mod_eq_of_lt hc]
    refine ⟨?_, ?_, e2⟩
    · rw [e1, Nat.mul_comm a, Nat.mul_add_div (by omega), Nat.div_eq_of_lt hb, Nat.add_zero]
    · rw [e1, Nat.mul_comm a, Nat.mul_add_mod, Nat.mod_eq_of_lt hb]
  have lt : ∀ a b c : Nat, a < cuj up tk n 0 → b < cuj up tk n 1 → c < cuj up tk n 2 → wi a b c < cwn up tk n := fun a b c ha hb hc => by
    show (a * cuj up tk n 1 + b) * cuj up tk n 2 + c < cuj up tk n 0 * cuj up tk n 1 * cuj up tk n 2
    have l1 : a * cuj up tk n 1 + b + 1 ≤ cuj up tk n 0 * cuj up tk n 1 := by
      have l2 : (a + 1) * cuj up tk n 1 ≤ cuj up tk n 0 * cuj up tk n 1 := Nat.mul_le_mul_right _ (by omega)
      rw [Nat.succ_mul] at l2
      omega
    have l3 : (a * cuj up tk n 1 + b + 1) * cuj up tk n 2 ≤ cuj up tk n 0 * cuj up tk n 1 * cuj up tk n 2 := Nat.mul_le_mul_right _ l1
    rw [Nat.succ_mul] at l3
    omega
  have key := wW_d (by omega : 0 < cuj up tk n 1) (by omega : 0 < cuj up tk n 2) (wej_g h hp (j := 0) (by decide)) (wej_g h hp (j := 1) (by decide)) (wej_g h hp (j := 2) (by decide)) (fun a b c => if ds (wi a b c) = go o then 1 else 0) (fun a b c a' b' c' ha hb hc ha' hb' hc' ea eb ec => by
    have e : ds (wi a b c) = ds (wi a' b' c') := ds_u hd hr hv (lt a b c ha hb hc) (lt a' b' c' ha' hb' hc') (fun j j0 j1 => by
      have d := dm a b c hb hc
      have d' := dm a' b' c' hb' hc'
      have cj : j = 0 ∨ j = 1 ∨ j = 2 := by omega
      rcases cj with r | r | r
      · subst r
        have g : ∀ y : Nat, dgt up tk n y 0 = ((y / cuj up tk n 2 / cuj up tk n 1 : Nat) : Int) := fun y => if_pos rfl
        rw [g, g, d.1, d'.1]
        rcases ea with q | ⟨q, q'⟩
        · exact Or.inl (by rw [q])
        · exact Or.inr ⟨q.2, q'.2⟩
      · subst r
        have g : ∀ y : Nat, dgt up tk n y 1 = ((y / cuj up tk n 2 % cuj up tk n 1 : Nat) : Int) := fun y => (if_neg (by decide)).trans (if_pos rfl)
        rw [g, g, d.2.1, d'.2.1]
        rcases eb with q | ⟨q, q'⟩
        · exact Or.inl (by rw [q])
        · exact Or.inr ⟨q.2, q'.2⟩
      · subst r
        have g : ∀ y : Nat, dgt up tk n y 2 = ((y % cuj up tk n 2 : Nat) : Int) := fun y => (if_neg (by decide)).trans (if_neg (by decide))
        rw [g, g, d.2.2, d'.2.2]
        rcases ec with q | ⟨q, q'⟩
        · exact Or.inl (by rw [q])
        · exact Or.inr ⟨q.2, q'.2⟩)
    rw [e])
  have eq : sm (cwn up tk n) (fun i => if ds i = go o then cWt ov un up tk n i else 0) = sm (cwn up tk n) (fun y => cWt ov un up tk n y * (if ds (wi (y / cuj up tk n 2 / cuj up tk n 1) (y / cuj up tk n 2 % cuj up tk n 1) (y % cuj up tk n 2)) = go o then 1 else 0)) := sm_eq (fun i _ => by
    have e : wi (i / cuj up tk n 2 / cuj up tk n 1) (i / cuj up tk n 2 % cuj up tk n 1) (i % cuj up tk n 2) = i := by
      show (i / cuj up tk n 2 / cuj up tk n 1 * cuj up tk n 1 + i / cuj up tk n 2 % cuj up tk n 1) * cuj up tk n 2 + i % cuj up tk n 2 = i
      rw [Nat.mul_comm _ (cuj up tk n 1), Nat.div_add_mod, Nat.mul_comm _ (cuj up tk n 2), Nat.div_add_mod]
    rw [e]
    split
    · rw [Int.mul_one]
    · rw [Int.mul_zero])
  rw [eq]
  exact key
end C73
