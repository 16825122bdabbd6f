/-! the model: how ways follow each other; choices that are complete -/
section C74
variable {cd gu up ov un st cm ca tk ch : Int → Int} {cs cn x n : Int}
theorem in_1 {y u : Nat} (hu : 0 < u) : (y % u + 1 = u → (y + 1) / u = y / u + 1 ∧ (y + 1) % u = 0) ∧ (¬ y % u + 1 = u → (y + 1) / u = y / u ∧ (y + 1) % u = y % u + 1) := by
  have e := Nat.div_add_mod y u
  have l := Nat.mod_lt y hu
  refine ⟨fun h => ?_, fun h => ?_⟩
  · have e1 : y + 1 = u * (y / u + 1) := by
      rw [Nat.mul_succ]
      omega
    refine ⟨?_, ?_⟩
    · refine (congrArg (fun t => t / u) e1).trans ?_
      exact Nat.mul_div_cancel_left _ hu
    · refine (congrArg (fun t => t % u) e1).trans ?_
      exact Nat.mul_mod_right _ _
  · have e1 : y + 1 = u * (y / u) + (y % u + 1) := by omega
    refine ⟨?_, ?_⟩
    · refine (congrArg (fun t => t / u) e1).trans ?_
      show (u * (y / u) + (y % u + 1)) / u = y / u
      rw [Nat.mul_add_div hu, Nat.div_eq_of_lt (show y % u + 1 < u by omega), Nat.add_zero]
    · refine (congrArg (fun t => t % u) e1).trans ?_
      show (u * (y / u) + (y % u + 1)) % u = y % u + 1
      rw [Nat.mul_add_mod, Nat.mod_eq_of_lt (show y % u + 1 < u by omega)]
def da_ok (up tk ch : Int → Int) (n : Int) (y : Nat) : Prop := ∃ _ : Unit, ∀ i : Int, 0 ≤ i → i < n → ch i = dgt up tk n y i
theorem dgt_0 {y : Nat} : dgt up tk n y 0 = ((y / cuj up tk n 2 / cuj up tk n 1 : Nat) : Int) := if_pos rfl
theorem dgt_1 {y : Nat} : dgt up tk n y 1 = ((y / cuj up tk n 2 % cuj up tk n 1 : Nat) : Int) := (if_neg (by decide)).trans (if_pos rfl)
theorem dgt_2 {y : Nat} : dgt up tk n y 2 = ((y % cuj up tk n 2 : Nat) : Int) := (if_neg (by decide)).trans (if_neg (by decide))
theorem tz_d {y : Nat} (h : tq_ok tk ca n cn) (hp : ps_ok cd gu up ov un st cm ca cs cn x) (hn : n ≤ 3) (hd : da_ok up tk ch n y) (hy : y < cwn up tk n) : tz_ok tk ch up n cn := hd.elim fun _ hd => ⟨(), fun i h1 h2 => by
  refine ⟨tq_e h h1 h2, ?_⟩
  have d := dg_b h hp hy
  have e := hd i h1 h2
  have u : cuj up tk n i = (up (tk i)).toNat := if_pos h2
  have c : i = 0 ∨ i = 1 ∨ i = 2 := by omega
  rcases c with c | c | c <;> subst c
  · rw [dgt_0] at e
    have d0 := d.1
    generalize y / cuj up tk n 2 / cuj up tk n 1 = A at e d0
    clear d
    omega
  · rw [dgt_1] at e
    have d0 := d.2.1
    generalize y / cuj up tk n 2 % cuj up tk n 1 = A at e d0
    clear d
    omega
  · rw [dgt_2] at e
    have d0 := d.2.2
    generalize y % cuj up tk n 2 = A at e d0
    clear d
    omega⟩
def zc_ok (ch : Int → Int) (j : Int) : Prop := ∃ _ : Unit, ∀ i : Int, 0 ≤ i → i < j → ch i = 0
theorem zc_0 : zc_ok ch 0 := ⟨(), fun i h1 h2 => absurd h1 (by omega)⟩
theorem zc_s {j p : Int} (h : zc_ok ch j) (hp : p = j + 1) : zc_ok (hw_up ch j 0) p := h.elim fun _ h => ⟨(), fun i h1 h2 => by
  by_cases e : i = j
  · rw [e, hw_up_s]
  · rw [hw_up_n e]; exact h i h1 (by omega)⟩
theorem da_0 {j y : Int} (h : zc_ok ch j) (hj : n ≤ j) (hn : n ≤ 3) (hy : y = 0) : da_ok up tk ch n y.toNat := h.elim fun _ h => ⟨(), fun i h1 h2 => by
  rw [h i h1 (by omega)]
  subst hy
  have c : i = 0 ∨ i = 1 ∨ i = 2 := by omega
  rcases c with c | c | c <;> subst c
  · rw [dgt_0]
    show (0 : Int) = ((0 / cuj up tk n 2 / cuj up tk n 1 : Nat) : Int)
    rw [Nat.zero_div, Nat.zero_div]; rfl
  · rw [dgt_1]
    show (0 : Int) = ((0 / cuj up tk n 2 % cuj up tk n 1 : Nat) : Int)
    rw [Nat.zero_div, Nat.zero_mod]; rfl
  · rw [dgt_2]
    show (0 : Int) = ((0 % cuj up tk n 2 : Nat) : Int)
    rw [Nat.zero_mod]; rfl⟩
def wq (up tk : Int → Int) : Nat → Int
  | 0 => 1
  | k + 1 => wq up tk k * up (tk k)
def wqj (up tk : Int → Int) (j z : Int) : Prop := ∃ k : Nat, j = k ∧ z = wq up tk k ∧ 1 ≤ z ∧ z ≤ 6 ^ k
theorem wqj_0 : wqj up tk 0 1 := ⟨0, rfl, rfl, by decide, by decide⟩
theorem wqj_s {j z p q r : Int} (h : wqj up tk j z) (hz : p = z * up (tk j) + 4294967296 * q) (hr : -2147483648 ≤ p ∧ p ≤ 2147483647) (hu : 1 ≤ up (tk j) ∧ up (tk j) ≤ 6) (hj : j ≤ 2) (hp : r = j + 1) : wqj up tk r p := by
  obtain ⟨k, h1, h2, h3, h4⟩ := h
  subst h1
  have h5 : (6 : Int) ^ k ≤ 36 := by
    have c : k = 0 ∨ k = 1 ∨ k = 2 := by omega
    rcases c with c | c | c <;> subst c <;> decide
  have b1 : 1 * 1 ≤ z * up (tk k) := Int.mul_le_mul h3 hu.1 (by decide) (by omega)
  have b2 : z * up (tk k) ≤ 6 ^ k * 6 := Int.mul_le_mul h4 hu.2 (by omega) (by omega)
  have e : p = z * up (tk k) := by omega
  refine ⟨k + 1, by omega, ?_, by omega, ?_⟩
  · rw [e, h2]; rfl
  · rw [e, Int.pow_succ]; exact b2
theorem wqj_e {j z : Int} (h : tq_ok tk ca n cn) (hp : ps_ok cd gu up ov un st cm ca cs cn x) (hn : 0 ≤ n ∧ n ≤ 3) (hq : wqj up tk j z) (hj : j = n) : z = ((cwn up tk n : Nat) : Int) := by
  obtain ⟨k, h1, h2, _⟩ := hq
  have g : ∀ i : Int, 0 ≤ i → i < n → ((cuj up tk n i : Nat) : Int) = up (tk i) := fun i a b => by
    have u : cuj up tk n i = (up (tk i)).toNat := if_pos b
    have t := tq_e h a b
    have v := (ps_c hp t.1 t.2).2.1
    omega
  have g1 : ∀ i : Int, n ≤ i → cuj up tk n i = 1 := fun i a => if_neg (by omega)
  unfold cwn
  rw [Int.natCast_mul, Int.natCast_mul, h2]
  have c : n = 0 ∨ n = 1 ∨ n = 2 ∨ n = 3 := by omega
  rcases c with c | c | c | c
  · obtain rfl : k = 0 := by omega
    rw [g1 0 (by omega), g1 1 (by omega), g1 2 (by omega)]; rfl
  · obtain rfl : k = 1 := by omega
    rw [g 0 (by decide) (by omega), g1 1 (by omega), g1 2 (by omega)]
    show 1 * up (tk 0) = up (tk 0) * 1 * 1
    omega
  · obtain rfl : k = 2 := by omega
    rw [g 0 (by decide) (by omega), g 1 (by decide) (by omega), g1 2 (by omega)]
    show 1 * up (tk 0) * up (tk 1) = up (tk 0) * up (tk 1) * 1
    rw [Int.one_mul, Int.mul_one]
  · obtain rfl : k = 3 := by omega
    rw [g 0 (by decide) (by omega), g 1 (by decide) (by omega), g 2 (by decide) (by omega)]
    show 1 * up (tk 0) * up (tk 1) * up (tk 2) = up (tk 0) * up (tk 1) * up (tk 2)
    rw [Int.one_mul]
/-- in the midst of passing to the next way: place j is next -/
def cy_ok (up tk ch : Int → Int) (n : Int) (y : Nat) (j : Int) : Prop := ∃ _ : Unit, (∀ i : Int, 0 ≤ i → i ≤ j → ch i = dgt up tk n y i) ∧ (j ≤ 1 → y % cuj up tk n 2 + 1 = cuj up tk n 2 ∧ (2 < n → ch 2 = 0)) ∧ (j ≤ 0 → y / cuj up tk n 2 % cuj up tk n 1 + 1 = cuj up tk n 1 ∧ (1 < n → ch 1 = 0)) ∧ (j ≤ -1 → y / cuj up tk n 2 / cuj up tk n 1 + 1 = cuj up tk n 0)
theorem cy_0 {y : Nat} {j : Int} (hd : da_ok up tk ch n y) (hy : y < cwn up tk n) (hn : 0 ≤ n ∧ n ≤ 3) (hj : j = n - 1) : cy_ok up tk ch n y j := hd.elim fun _ hd => by
  have g1 : ∀ i : Int, n ≤ i → cuj up tk n i = 1 := fun i a => if_neg (by omega)
  refine ⟨(), fun i h1 h2 => hd i h1 (by omega), fun h => ⟨?_, fun q => by omega⟩, fun h => ⟨?_, fun q => by omega⟩, fun h => ?_⟩
  · rw [g1 2 (by omega), Nat.mod_one]
  · rw [g1 1 (by omega), Nat.mod_one]
  · unfold cwn at hy
    rw [g1 0 (by omega), g1 1 (by omega), g1 2 (by omega)] at hy
    rw [g1 0 (by omega), g1 1 (by omega), g1 2 (by omega), Nat.div_one, Nat.div_one]
    omega
theorem cy_b {y : Nat} {i j : Int} (h : tq_ok tk ca n cn) (hp : ps_ok cd gu up ov un st cm ca cs cn x) (hn : n ≤ 3) (hy : y < cwn up tk n) (hc : cy_ok up tk ch n y j) (h0 : 0 ≤ i) (hi : i ≤ j) (h1 : i < n) : (0 ≤ ch i ∧ ch i ≤ 5) ∧ (0 ≤ tk i ∧ tk i < cn) ∧ ch i < up (tk i) := hc.elim fun _ hc => by
  have t := tq_e h h0 h1
  have v := (ps_c hp t.1 t.2).2.1
  have d := dg_b h hp hy
  have e := hc.1 i h0 hi
  have u : cuj up tk n i = (up (tk i)).toNat := if_pos h1
  have c : i = 0 ∨ i = 1 ∨ i = 2 := by omega
  rcases c with c | c | c <;> subst c
  · rw [dgt_0] at e
    have d0 := d.1
    generalize y / cuj up tk n 2 / cuj up tk n 1 = A at e d0
    clear d
    omega
  · rw [dgt_1] at e
    have d0 := d.2.1
    generalize y / cuj up tk n 2 % cuj up tk n 1 = A at e d0
    clear d
    omega
  · rw [dgt_2] at e
    have d0 := d.2.2
    generalize y % cuj up tk n 2 = A at e d0
    clear d
    omega
theorem cy_y {y : Nat} {j z p : Int} (h : tq_ok tk ca n cn) (hp : ps_ok cd gu up ov un st cm ca cs cn x) (hn : n ≤ 3) (hc : cy_ok up tk ch n y j) (h0 : 0 ≤ j) (h1 : j < n) (hz : z = ch j + 1) (hx : z = up (tk j)) (hq : p = j - 1) : cy_ok up tk (hw_up (hw_up ch j z) j 0) n y p := hc.elim fun _ hc => by
  have t := tq_e h h0 h1
  have v := (ps_c hp t.1 t.2).2.1
  have e := hc.1 j h0 (Int.le_refl j)
  have u : cuj up tk n j = (up (tk j)).toNat := if_pos h1
  have k : ∀ i : Int, ¬ i = j → hw_up (hw_up ch j z) j 0 i = ch i := fun i hi => (hw_up_n hi).trans (hw_up_n hi)
  have k0 : hw_up (hw_up ch j z) j 0 j = 0 := hw_up_s
  have c : j = 0 ∨ j = 1 ∨ j = 2 := by omega
  refine ⟨(), fun i a b => by rw [k i (by omega)]; exact hc.1 i a (by omega), fun a => ?_, fun a => ?_, fun a => ?_⟩
  · rcases c with c | c | c <;> subst c
    · exact ⟨(hc.2.1 (by decide)).1, fun b => by rw [k 2 (by decide)]; exact (hc.2.1 (by decide)).2 b⟩
    · exact ⟨(hc.2.1 (by decide)).1, fun b => by rw [k 2 (by decide)]; exact (hc.2.1 (by decide)).2 b⟩
    · rw [dgt_2] at e
      exact ⟨by omega, fun _ => k0⟩
  · rcases c with c | c | c <;> subst c
    · exact ⟨(hc.2.2.1 (by decide)).1, fun b => by rw [k 1 (by decide)]; exact (hc.2.2.1 (by decide)).2 b⟩
    · rw [dgt_1] at e
      exact ⟨by omega, fun _ => k0⟩
    · omega
  · rcases c with c | c | c <;> subst c
    · rw [dgt_0] at e
      omega
    · omega
    · omega
theorem cy_n {y : Nat} {j z p : Int} (h : tq_ok tk ca n cn) (hp : ps_ok cd gu up ov un st cm ca cs cn x) (hn : n ≤ 3) (hc : cy_ok up tk ch n y j) (h0 : 0 ≤ j) (h1 : j < n) (hz : z = ch j + 1) (hx : ¬ z = up (tk j)) (hq : p.toNat = y + 1) : da_ok up tk (hw_up ch j z) n p.toNat := hc.elim fun _ hc => by
  rw [hq]
  have t := tq_e h h0 h1
  have v := (ps_c hp t.1 t.2).2.1
  have e := hc.1 j h0 (Int.le_refl j)
  have u : cuj up tk n j = (up (tk j)).toNat := if_pos h1
  have u1 := cuj_p h hp (j := 1) (by decide)
  have u2 := cuj_p h hp (j := 2) (by decide)
  have i2 := in_1 (y := y) (u := cuj up tk n 2) (by omega)
  have i1 := in_1 (y := y / cuj up tk n 2) (u := cuj up tk n 1) (by omega)
  have k : ∀ i : Int, ¬ i = j → hw_up ch j z i = ch i := fun i hi => hw_up_n hi
  have k0 : hw_up ch j z j = z := hw_up_s
  have c : j = 0 ∨ j = 1 ∨ j = 2 := by omega
  refine ⟨(), fun i a b => ?_⟩
  have ci : i = 0 ∨ i = 1 ∨ i = 2 := by omega
  rcases c with c | c | c <;> subst c
  · have c2 := hc.2.1 (by decide)
    have c1 := hc.2.2.1 (by decide)
    have a2 := i2.1 c2.1
    have a1 := i1.1 c1.1
    rw [dgt_0] at e
    rcases ci with r | r | r <;> subst r
    · rw [k0, dgt_0, a2.1, a1.1, hz, e]
      omega
    · rw [k 1 (by decide), dgt_1, a2.1, a1.2, c1.2 b]; rfl
    · rw [k 2 (by decide), dgt_2, a2.2, c2.2 b]; rfl
  · have c2 := hc.2.1 (by decide)
    have a2 := i2.1 c2.1
    rw [dgt_1] at e
    have a1 := i1.2 (by omega)
    rcases ci with r | r | r <;> subst r
    · rw [k 0 (by decide), dgt_0, a2.1, a1.1, hc.1 0 (by decide) (by decide), dgt_0]
    · rw [k0, dgt_1, a2.1, a1.2, hz, e]
      omega
    · rw [k 2 (by decide), dgt_2, a2.2, c2.2 b]; rfl
  · rw [dgt_2] at e
    have a2 := i2.2 (by omega)
    rcases ci with r | r | r <;> subst r
    · rw [k 0 (by decide), dgt_0, a2.1, hc.1 0 (by decide) (by decide), dgt_0]
    · rw [k 1 (by decide), dgt_1, a2.1, hc.1 1 (by decide) (by decide), dgt_1]
    · rw [k0, dgt_2, a2.2, hz, e]
      omega
theorem cy_e {y : Nat} {j : Int} (hc : cy_ok up tk ch n y j) (hj : j < 0) : y + 1 = cwn up tk n := hc.elim fun _ hc => by
  have c2 := (hc.2.1 (by omega)).1
  have c1 := (hc.2.2.1 (by omega)).1
  have c0 := hc.2.2.2 (by omega)
  have e2 := Nat.div_add_mod y (cuj up tk n 2)
  have e1 := Nat.div_add_mod (y / cuj up tk n 2) (cuj up tk n 1)
  unfold cwn
  generalize y / cuj up tk n 2 / cuj up tk n 1 = a at *
  generalize y / cuj up tk n 2 % cuj up tk n 1 = b at *
  generalize y % cuj up tk n 2 = c at *
  generalize y / cuj up tk n 2 = q at *
  rw [← c0]
  generalize cuj up tk n 1 = p1 at *
  generalize cuj up tk n 2 = p2 at *
  have f1 : (a + 1) * p1 = q + 1 := by
    rw [Nat.succ_mul, Nat.mul_comm a p1]
    omega
  rw [f1, Nat.succ_mul, Nat.mul_comm q p2]
  omega
theorem oc_p {go ab be : Int → Int} {f0 oc D p : Int} {W ds : Nat → Int} {k : Nat} (h : ocm_ok go ab be f0 oc D W ds k) (hp : p.toNat = k) : ocm_ok go ab be f0 oc D W ds p.toNat := by rw [hp]; exact h
theorem ds_p {cd nw st up tk va : Int → Int} {vn ns n p : Int} {ds : Nat → Int} {k : Nat} (h : ds_ok cd nw st up tk va vn ns n ds k) (hp : p.toNat = k) : ds_ok cd nw st up tk va vn ns n ds p.toNat := by rw [hp]; exact h
theorem wuj_c {y : Nat} (h : tq_ok tk ca n cn) (hp : ps_ok cd gu up ov un st cm ca cs cn x) (hw : cwn up tk n ≤ 16) (hy : y < cwn up tk n) : wuj_ok (cWt ov un up tk n) (cDn un up tk n) y := by
  have b := cD_b h hp hw
  refine ⟨(), fun i hi => cW_p h hp (by omega), ?_, b.1, b.2⟩
  rw [← cW_s h hp]
  exact sm_mono (by omega) (fun i hi => Int.le_of_lt (cW_p h hp hi))
/-- a choice that is complete, and the commands it stands for -/
def cx_ok (fo go ab be up ov un st ca : Int → Int) (cn ns c : Int) : Prop := ∃ _ : Unit, ch_ok fo go ab be ns c ∧ ∃ (n : Int) (tk : Int → Int), (0 ≤ n ∧ n ≤ 3) ∧ tq_ok tk ca n cn ∧ cwn up tk n ≤ 16 ∧ Lq fo be c ∣ cMn ov un st up tk n
theorem cx_i {go ab be nw va fo : Int → Int} {vn ns f0 oc c y p : Int} {ds : Nat → Int} (h : tq_ok tk ca n cn) (hp : ps_ok cd gu up ov un st cm ca cs cn x) (hn : 0 ≤ n ∧ n ≤ 3) (hw : cwn up tk n ≤ 16) (hy : y.toNat = cwn up tk n) (hd : ds_ok cd nw st up tk va vn ns n ds y.toNat) (hr : dr_ok va vn ns) (hv : vn ≤ 8) (ho : ocm_ok go ab be f0 oc (cDn un up tk n) (cWt ov un up tk n) ds y.toNat) (hc : 0 ≤ c ∧ c ≤ 199) (h0 : 0 ≤ f0) (h1 : oc ≤ 3200) (hq : p = c + 1) : cx_ok (hw_up (hw_up fo c f0) p oc) go ab be up ov un st ca cn ns c := by
  subst hq
  rw [hy] at hd ho
  have b := cD_b h hp hw
  have e0 : hw_up (hw_up fo c f0) (c + 1) oc c = f0 := (hw_up_n (by omega)).trans hw_up_s
  have e1 : hw_up (hw_up fo c f0) (c + 1) oc (c + 1) = oc := hw_up_s
  refine ⟨(), oc_ch (D := cDn un up tk n) (W := cWt ov un up tk n) (dst := ds) (w := cwn up tk n) ?_ (fun i hi => cW_p h hp hi) (cW_s h hp) b.1 b.2 (fun i hi => (hd.elim fun _ hd => hd i hi).1) hc (by rw [e0]; exact h0) (by rw [e1]; exact h1), n, tk, hn, h, hw, ?_⟩
  · rw [e0, e1]; exact ho
  · unfold Lq
    rw [e0, e1]
    have ob := oc_b ho
    exact (lcr_dv (fun i hi => ⟨((ho.elim fun _ ho => ho.2.1 (f0 + i) (by omega) (by omega)).1).1, cx_M h hp hn hw hd hr hv ho (by omega) (by omega)⟩)).2
theorem lcr_e {A B : Int → Int} {a : Int} {k : Nat} (h : ∀ i : Nat, i < k → bw B ((a + i) * 20) = bw A ((a + i) * 20)) : lcr B a k = lcr A a k := by
  induction k with
  | zero => rfl
  | succ k ih => rw [lcr_s, lcr_s, ih (fun i hi => h i (by omega)), h k (by omega)]
theorem ch_fr {fo go ab be fo' go' ab' be' : Int → Int} {ns ns' c f0 : Int} (h : ch_ok fo go ab be ns c) (h1 : fo' c = fo c) (h2 : fo' (c + 1) = fo (c + 1)) (ho : oa_ok go ab be go' ab' be' f0) (hf : fo (c + 1) ≤ f0) (hn : ns ≤ ns') : ch_ok fo' go' ab' be' ns' c ∧ Lq fo' be' c = Lq fo be c := h.elim fun _ h => ho.elim fun _ ho => by
  have en : nq fo' c = nq fo c := by
    unfold nq
    rw [h1, h2]
  have eL : Lq fo' be' c = Lq fo be c := by
    unfold Lq
    rw [h1, h2]
    exact lcr_e (fun i hi => (ho _ (by omega)).2.2)
  have eh : ∀ i : Nat, i < nq fo c → hq fo' ab' be' c i = hq fo ab be c i := fun i hi => by
    unfold nq at hi
    unfold hq
    have q := ho (fo c + i) (by omega)
    rw [eL, h1, q.2.1, q.2.2]
  refine ⟨⟨(), h.1, by rw [h1, h2]; exact h.2.1, ⟨(), fun k hk => ?_⟩, fun i hi => ?_, ?_⟩, eL⟩
  · rw [h1, h2] at hk
    have l := h.2.2.1.elim fun _ l => l k hk
    rw [h1, h2, lcr_e (A := be) (fun i hi => (ho _ (by omega)).2.2)]
    refine ⟨l.1, l.2.1, fun q => ?_⟩
    rw [(ho (fo c + k) (by omega)).2.2]
    exact l.2.2 q
  · rw [en] at hi
    have z := h.2.2.2.1 i hi
    have hi2 := hi
    unfold nq at hi2
    rw [eh i hi, h1, (ho (fo c + i) (by omega)).1]
    exact ⟨by omega, z.2⟩
  · rw [en, eL, ← h.2.2.2.2]
    exact sm_eq (fun i hi => eh i hi)
theorem cx_f {fo go ab be fo' go' ab' be' : Int → Int} {ns ns' c f0 : Int} (h : cx_ok fo go ab be up ov un st ca cn ns c) (h1 : fo' c = fo c) (h2 : fo' (c + 1) = fo (c + 1)) (ho : oa_ok go ab be go' ab' be' f0) (hf : fo (c + 1) ≤ f0) (hn : ns ≤ ns') : cx_ok fo' go' ab' be' up ov un st ca cn ns' c := h.elim fun _ h => by
  have q := ch_fr h.1 h1 h2 ho hf hn
  obtain ⟨m, t, a1, a2, a3, a4⟩ := h.2
  exact ⟨(), q.1, m, t, a1, a2, a3, by rw [q.2]; exact a4⟩
/-- all choices so far -/
def cv_ok (fo go ab be up ov un st ca : Int → Int) (cn ns nc oc : Int) : Prop := ∃ _ : Unit, ∀ c : Int, 0 ≤ c → c < nc → hw_up fo nc oc (c + 1) ≤ oc ∧ cx_ok (hw_up fo nc oc) go ab be up ov un st ca cn ns c
theorem cv_0 {fo go ab be : Int → Int} {ns oc : Int} : cv_ok fo go ab be up ov un st ca cn ns 0 oc := ⟨(), fun c h1 h2 => absurd h1 (by omega)⟩
theorem cv_s {fo go ab be go' ab' be' : Int → Int} {ns ns' nc oc oc' p : Int} (h : cv_ok fo go ab be up ov un st ca cn ns nc oc) (ho : oa_ok go ab be go' ab' be' oc) (hn : ns ≤ ns') (hc : cx_ok (hw_up (hw_up fo nc oc) p oc') go' ab' be' up ov un st ca cn ns' nc) (hp : p = nc + 1) (hoc : oc ≤ oc') : cv_ok (hw_up fo nc oc) go' ab' be' up ov un st ca cn ns' p oc' := by
  subst hp
  refine h.elim fun _ h => ⟨(), fun c h1 h2 => ?_⟩
  by_cases e : c = nc
  · subst e
    exact ⟨by rw [hw_up_s]; exact Int.le_refl _, hc⟩
  · have q := h c h1 (by omega)
    have e1 : hw_up (hw_up fo nc oc) (nc + 1) oc' (c + 1) = hw_up fo nc oc (c + 1) := hw_up_n (by omega)
    exact ⟨by rw [e1]; omega, cx_f q.2 (hw_up_n (by omega)) e1 ho q.1 hn⟩
theorem cv_n {fo go ab be : Int → Int} {ns ns' nc oc : Int} (h : cv_ok fo go ab be up ov un st ca cn ns nc oc) (hn : ns ≤ ns') : cv_ok fo go ab be up ov un st ca cn ns' nc oc := h.elim fun _ h => ⟨(), fun c h1 h2 => ⟨(h c h1 h2).1, cx_f (h c h1 h2).2 rfl rfl oa_0 (h c h1 h2).1 hn⟩⟩
end C74
