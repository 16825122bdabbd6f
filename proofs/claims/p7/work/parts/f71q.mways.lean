/-! the model explores: which UPDATES a way takes -/
section MW
variable {D : dM} {cd gu up st cm ca lo hi fi tk : Int → Int} {cs cn vn pn : Int} {T : List Nat} {y : Nat}
theorem mQ_at (h : mQ D cd cs gu up st cm ca lo hi fi cn vn) {k : Nat} (hk : k < D.2.1.length) : mK cd cs gu up st cm ca (k : Int) (qcm D.2.1 k) := h.elim fun _ h => h.1 k _ (qcm_at hk).1
theorem mQ_n (h : mQ D cd cs gu up st cm ca lo hi fi cn vn) : cn = D.2.1.length ∧ vn = D.1.length := h.elim fun _ h => ⟨h.2.1, h.2.2.2⟩
theorem cuj_l (h : mQ D cd cs gu up st cm ca lo hi fi cn vn) (hT : tkA tk pn T) (hO : tOw D.2.1 T) {p : Nat} {k : Nat} (hp : T[p]? = some k) : cuj up tk pn p = (qcm D.2.1 k).2.2.2.length := by
  have l := (List.getElem?_eq_some_iff.mp hp).1
  obtain ⟨_, t1, t2⟩ := hT
  obtain ⟨_, o1, _⟩ := hO
  have q := mQ_at h (o1 k (List.mem_of_getElem? hp))
  unfold cuj
  rw [if_pos (by omega), t2 p k hp, q.2.2.2.1]
  exact Int.toNat_natCast _
theorem cuj_o (hT : tkA tk pn T) {p : Int} (hp : (T.length : Int) ≤ p) : cuj up tk pn p = 1 := by
  have e := tkA_n hT
  exact if_neg (by omega)
/-- how many ways -/
theorem cwn_x (h : mQ D cd cs gu up st cm ca lo hi fi cn vn) (hT : tkA tk pn T) (hO : tOw D.2.1 T) : cwn up tk pn = mxp (qup D.2.1 T) := by
  have hl := tOw_n hO
  unfold cwn
  match T, hT, hO, hl with
  | [], hT, hO, _ =>
    rw [cuj_o hT (by show (0 : Int) ≤ 0; omega), cuj_o hT (by show (0 : Int) ≤ 1; omega), cuj_o hT (by show (0 : Int) ≤ 2; omega)]
    rfl
  | [a], hT, hO, _ =>
    have e0 := cuj_l h hT hO (p := 0) (k := a) rfl
    rw [show ((0 : Nat) : Int) = 0 by omega] at e0
    rw [e0, cuj_o hT (by show (1 : Int) ≤ 1; omega), cuj_o hT (by show (1 : Int) ≤ 2; omega)]
    show (qcm D.2.1 a).2.2.2.length * 1 * 1 = (qcm D.2.1 a).2.2.2.length * 1
    omega
  | [a, b], hT, hO, _ =>
    have e0 := cuj_l h hT hO (p := 0) (k := a) rfl
    have e1 := cuj_l h hT hO (p := 1) (k := b) rfl
    rw [show ((0 : Nat) : Int) = 0 by omega] at e0
    rw [show ((1 : Nat) : Int) = 1 by omega] at e1
    rw [e0, e1, cuj_o hT (by show (2 : Int) ≤ 2; omega)]
    show _ * _ * 1 = _ * (_ * 1)
    rw [Nat.mul_one, Nat.mul_one]
  | [a, b, c], hT, hO, _ =>
    have e0 := cuj_l h hT hO (p := 0) (k := a) rfl
    have e1 := cuj_l h hT hO (p := 1) (k := b) rfl
    have e2 := cuj_l h hT hO (p := 2) (k := c) rfl
    rw [show ((0 : Nat) : Int) = 0 by omega] at e0
    rw [show ((1 : Nat) : Int) = 1 by omega] at e1
    rw [show ((2 : Nat) : Int) = 2 by omega] at e2
    rw [e0, e1, e2]
    show _ * _ * _ = _ * (_ * (_ * 1))
    rw [Nat.mul_one, Nat.mul_assoc]
  | _ :: _ :: _ :: _ :: _, _, _, hl => exact absurd hl (by simp only [List.length_cons]; omega)
/-- which UPDATE -/
theorem dgt_x (h : mQ D cd cs gu up st cm ca lo hi fi cn vn) (hT : tkA tk pn T) (hO : tOw D.2.1 T) (hy : y < cwn up tk pn) {p : Nat} {k : Nat} (hp : T[p]? = some k) : dgt up tk pn y p = ((qui D.2.1 T y p k : Nat) : Int) := by
  have hl := tOw_n hO
  have hw := cwn_x h hT hO
  have lp := (List.getElem?_eq_some_iff.mp hp).1
  rw [hw] at hy
  unfold qui
  match T, hT, hO, hl, hy, hp, lp with
  | [], _, _, _, _, hp, _ => cases hp
  | [a], hT, hO, _, hy, hp, lp =>
    have p0 : p = 0 := by
      simp only [List.length_cons, List.length_nil] at lp
      omega
    subst p0
    have e0 : some a = some k := hp
    injection e0 with e0
    subst e0
    rw [show ((0 : Nat) : Int) = 0 by omega, dgt_0, cuj_o hT (by show (1 : Int) ≤ 2; omega), cuj_o hT (by show (1 : Int) ≤ 1; omega), Nat.div_one, Nat.div_one]
    show ((y : Nat) : Int) = ((y / 1 % _ : Nat) : Int)
    rw [Nat.div_one, Nat.mod_eq_of_lt]
    have hy : y < (qcm D.2.1 a).2.2.2.length * 1 := hy
    omega
  | [a, b], hT, hO, _, hy, hp, lp =>
    have e1 := cuj_l h hT hO (p := 1) (k := b) rfl
    rw [show ((1 : Nat) : Int) = 1 by omega] at e1
    have o2 := cuj_o (up := up) hT (p := 2) (by show (2 : Int) ≤ 2; omega)
    have hy : y < (qcm D.2.1 a).2.2.2.length * ((qcm D.2.1 b).2.2.2.length * 1) := hy
    rw [Nat.mul_one] at hy
    have c : p = 0 ∨ p = 1 := by
      simp only [List.length_cons, List.length_nil] at lp
      omega
    rcases c with c | c <;> subst c
    · have e0 : some a = some k := hp
      injection e0 with e0
      subst e0
      rw [show ((0 : Nat) : Int) = 0 by omega, dgt_0, e1, o2, Nat.div_one]
      show ((y / (qcm D.2.1 b).2.2.2.length : Nat) : Int) = ((y / ((qcm D.2.1 b).2.2.2.length * 1) % (qcm D.2.1 a).2.2.2.length : Nat) : Int)
      rw [Nat.mul_one, Nat.mod_eq_of_lt (Nat.div_lt_of_lt_mul (by rw [Nat.mul_comm]; exact hy))]
    · have e0 : some b = some k := hp
      injection e0 with e0
      subst e0
      rw [show ((1 : Nat) : Int) = 1 by omega, dgt_1, e1, o2, Nat.div_one]
      show ((y % (qcm D.2.1 b).2.2.2.length : Nat) : Int) = ((y / 1 % (qcm D.2.1 b).2.2.2.length : Nat) : Int)
      rw [Nat.div_one]
  | [a, b, c], hT, hO, _, hy, hp, lp =>
    have e1 := cuj_l h hT hO (p := 1) (k := b) rfl
    have e2 := cuj_l h hT hO (p := 2) (k := c) rfl
    rw [show ((1 : Nat) : Int) = 1 by omega] at e1
    rw [show ((2 : Nat) : Int) = 2 by omega] at e2
    have hy : y < (qcm D.2.1 a).2.2.2.length * ((qcm D.2.1 b).2.2.2.length * ((qcm D.2.1 c).2.2.2.length * 1)) := hy
    rw [Nat.mul_one] at hy
    have cc : p = 0 ∨ p = 1 ∨ p = 2 := by
      simp only [List.length_cons, List.length_nil] at lp
      omega
    rcases cc with cc | cc | cc <;> subst cc
    · have e0 : some a = some k := hp
      injection e0 with e0
      subst e0
      rw [show ((0 : Nat) : Int) = 0 by omega, dgt_0, e1, e2]
      show ((y / (qcm D.2.1 c).2.2.2.length / (qcm D.2.1 b).2.2.2.length : Nat) : Int) = ((y / ((qcm D.2.1 b).2.2.2.length * ((qcm D.2.1 c).2.2.2.length * 1)) % (qcm D.2.1 a).2.2.2.length : Nat) : Int)
      rw [Nat.mul_one, Nat.mod_eq_of_lt (Nat.div_lt_of_lt_mul (by rw [Nat.mul_comm]; exact hy)), Nat.div_div_eq_div_mul, Nat.mul_comm (qcm D.2.1 c).2.2.2.length]
    · have e0 : some b = some k := hp
      injection e0 with e0
      subst e0
      rw [show ((1 : Nat) : Int) = 1 by omega, dgt_1, e1, e2]
      show ((y / (qcm D.2.1 c).2.2.2.length % (qcm D.2.1 b).2.2.2.length : Nat) : Int) = ((y / ((qcm D.2.1 c).2.2.2.length * 1) % (qcm D.2.1 b).2.2.2.length : Nat) : Int)
      rw [Nat.mul_one]
    · have e0 : some c = some k := hp
      injection e0 with e0
      subst e0
      rw [show ((2 : Nat) : Int) = 2 by omega, dgt_2, e2]
      show ((y % (qcm D.2.1 c).2.2.2.length : Nat) : Int) = ((y / 1 % (qcm D.2.1 c).2.2.2.length : Nat) : Int)
      rw [Nat.div_one]
  | _ :: _ :: _ :: _ :: _, _, _, hl, _, _, _ => exact absurd hl (by simp only [List.length_cons]; omega)
end MW
/-! assignments in order of their code -/
section IO
variable {f st : Int → Int} {cs p b : Int} {U : dU} {vn : Nat}
/-- the smallest one above l -/
theorem bs_x {l : Int} : ∀ n : Nat, (bs st b l n = -1 ∧ ∀ v : Nat, v < n → st (b + (v : Int)) ≤ l) ∨ (∃ v : Nat, bs st b l n = (v : Int) ∧ v < n ∧ l < st (b + (v : Int)) ∧ ∀ w : Nat, w < n → l < st (b + (w : Int)) → st (b + (v : Int)) ≤ st (b + (w : Int))) := by
  intro n
  induction n with
  | zero => exact Or.inl ⟨rfl, fun v h => absurd h (Nat.not_lt_zero v)⟩
  | succ n ih =>
    have e : bs st b l (n + 1) = if l < st (b + (n : Int)) ∧ (bs st b l n < 0 ∨ st (b + (n : Int)) < st (b + bs st b l n)) then (n : Int) else bs st b l n := rfl
    rw [e]
    rcases ih with ⟨h1, h2⟩ | ⟨v, h1, h2, h3, h4⟩
    · by_cases c : l < st (b + (n : Int))
      · rw [if_pos ⟨c, Or.inl (by omega)⟩]
        refine Or.inr ⟨n, rfl, Nat.lt_succ_self n, c, fun w hw hl => ?_⟩
        by_cases e2 : w = n
        · rw [e2]; exact Int.le_refl _
        · have := h2 w (by omega); omega
      · rw [if_neg (fun z => c z.1)]
        refine Or.inl ⟨h1, fun v hv => ?_⟩
        by_cases e2 : v = n
        · rw [e2]; omega
        · exact h2 v (by omega)
    · by_cases c : l < st (b + (n : Int)) ∧ (bs st b l n < 0 ∨ st (b + (n : Int)) < st (b + bs st b l n))
      · rw [if_pos c]
        refine Or.inr ⟨n, rfl, Nat.lt_succ_self n, c.1, fun w hw hl => ?_⟩
        have c2 := c.2
        rw [h1] at c2
        by_cases e2 : w = n
        · rw [e2]; exact Int.le_refl _
        · have := h4 w (by omega) hl; omega
      · rw [if_neg c]
        refine Or.inr ⟨v, h1, by omega, h3, fun w hw hl => ?_⟩
        by_cases e2 : w = n
        · rw [e2] at hl ⊢
          rw [h1] at c
          omega
        · exact h4 w (by omega) hl
theorem iob_1 (h : mUs f cs st p U) (hb : b = p * 8) (hv : ∀ a, a ∈ U → a.1 < (vn : Int)) (h8 : vn ≤ 8) {j : Nat} {l : Int} (hj : j ≤ U.length) (i1 : -1 ≤ l) (i2 : ∀ (i : Nat) (a : Int × yC), i < j → U[i]? = some a → st (b + a.1) ≤ l) (i3 : ∀ (i : Nat) (a : Int × yC), j ≤ i → U[i]? = some a → l < st (b + a.1)) : (∀ a, U[j]? = some a → bs st b l vn = a.1) ∧ (j = U.length → bs st b l vn = -1) := by
  have inU : ∀ v : Nat, v < vn → l < st (b + (v : Int)) → ∃ (i : Nat) (a : Int × yC), j ≤ i ∧ U[i]? = some a ∧ a.1 = (v : Int) := by
    intro v hvn hl
    have hm : (v : Int) ∈ U.map Prod.fst := by
      refine Classical.byContradiction (fun c => ?_)
      have := h.2.2 v (by omega) (by omega) c
      rw [← hb] at this
      omega
    obtain ⟨a, ha, e⟩ := List.mem_map.mp hm
    obtain ⟨i, hi⟩ := List.getElem?_of_mem ha
    have e : a.1 = (v : Int) := e
    refine ⟨i, a, ?_, hi, e⟩
    refine Nat.le_of_not_lt (fun c => ?_)
    have := i2 i a c hi
    rw [e] at this
    omega
  refine ⟨fun a ha => ?_, fun hj2 => ?_⟩
  · have l1 := i3 j a (Nat.le_refl j) ha
    have a0 := (h.1 j a.1 a.2 ha).1
    have av := hv a (List.mem_of_getElem? ha)
    have ea : ((a.1.toNat : Nat) : Int) = a.1 := by omega
    rcases bs_x (st := st) (b := b) (l := l) vn with ⟨q1, q2⟩ | ⟨v, q1, q2, q3, q4⟩
    · have := q2 a.1.toNat (by omega)
      rw [ea] at this
      omega
    · rw [q1]
      obtain ⟨i, a', z1, z2, z3⟩ := inU v q2 q3
      by_cases e : i = j
      · subst e
        rw [ha] at z2
        injection z2 with z2
        rw [z2]
        exact z3.symm
      · have lt := h.2.1 j i a a' (by omega) ha z2
        have mn := q4 a.1.toNat (by omega) (by rw [ea]; exact l1)
        rw [ea] at mn
        rw [← hb, z3] at lt
        omega
  · rcases bs_x (st := st) (b := b) (l := l) vn with ⟨q1, q2⟩ | ⟨v, q1, q2, q3, q4⟩
    · exact q1
    · obtain ⟨i, a', z1, z2, z3⟩ := inU v q2 q3
      have := (List.getElem?_eq_some_iff.mp z2).1
      omega
theorem iob_x (h : mUs f cs st p U) (hb : b = p * 8) (hv : ∀ a, a ∈ U → a.1 < (vn : Int)) (h8 : vn ≤ 8) : ∀ j : Nat, j ≤ U.length → -1 ≤ iol st b vn j ∧ (∀ (i : Nat) (a : Int × yC), i < j → U[i]? = some a → st (b + a.1) ≤ iol st b vn j) ∧ (∀ (i : Nat) (a : Int × yC), j ≤ i → U[i]? = some a → iol st b vn j < st (b + a.1)) := by
  intro j
  induction j with
  | zero =>
    intro _
    refine ⟨Int.le_refl _, fun i a hi => absurd hi (Nat.not_lt_zero i), fun i a _ hi => ?_⟩
    have := mcd_b (h.1 i a.1 a.2 hi).2
    rw [← hb] at this
    show -1 < _
    omega
  | succ j ih =>
    intro hj
    obtain ⟨i1, i2, i3⟩ := ih (by omega)
    have l : j < U.length := by omega
    have e := List.getElem?_eq_getElem l
    have q := (iob_1 h hb hv h8 (by omega) i1 i2 i3).1 _ e
    have el : iol st b vn (j + 1) = st (b + U[j].1) := by
      show st (b + bs st b (iol st b vn j) vn) = _
      rw [q]
    have g := mcd_b (h.1 j U[j].1 U[j].2 e).2
    rw [← hb] at g
    rw [el]
    refine ⟨by omega, fun i a hi ha => ?_, fun i a hi ha => ?_⟩
    · by_cases c : i = j
      · subst c
        rw [e] at ha
        injection ha with ha
        rw [ha]
        exact Int.le_refl _
      · have := h.2.1 i j a U[j] (by omega) ha e
        rw [← hb] at this
        omega
    · have := h.2.1 j i U[j] a (by omega) e ha
      rw [← hb] at this
      exact this
/-- the j-th to be assigned is the j-th of the UPDATE -/
theorem iob_y (h : mUs f cs st p U) (hb : b = p * 8) (hv : ∀ a, a ∈ U → a.1 < (vn : Int)) (h8 : vn ≤ 8) {j : Nat} : (∀ a, U[j]? = some a → iob st b vn j = a.1) ∧ (j = U.length → iob st b vn j = -1) := by
  by_cases c : j ≤ U.length
  · obtain ⟨i1, i2, i3⟩ := iob_x h hb hv h8 j c
    exact iob_1 h hb hv h8 c i1 i2 i3
  · exact ⟨fun a ha => absurd (List.getElem?_eq_some_iff.mp ha).1 (by omega), fun e => by omega⟩
/-- what inOrder finds -/
theorem io_yx {vI u r : Int} (h : mUs f cs st p U) (hb : b = p * 8) (hv : ∀ a, a ∈ U → a.1 < vI) (h8 : 0 ≤ vI ∧ vI ≤ 8) (hy : io_y st b vI u r) : ∃ a, U[u.toNat]? = some a ∧ a.1 = r := by
  obtain ⟨k, e1, e2, e3⟩ := hy
  have hv' : ∀ a, a ∈ U → a.1 < ((vI.toNat : Nat) : Int) := fun a ha => by have := hv a ha; omega
  have hk : k < U.length := by
    refine Nat.lt_of_not_le (fun c => ?_)
    have q := (iob_y h hb hv' (by omega) (j := U.length)).2 rfl
    have := e3 U.length c
    omega
  have e := List.getElem?_eq_getElem hk
  have q := (iob_y h hb hv' (by omega) (j := k)).1 _ e
  exact ⟨U[k], by rw [show u.toNat = k by omega]; exact e, by rw [e2, q]⟩
theorem io_nx {vI u : Int} (h : mUs f cs st p U) (hb : b = p * 8) (hv : ∀ a, a ∈ U → a.1 < vI) (h8 : 0 ≤ vI ∧ vI ≤ 8) (hy : io_n st b vI u) : U.length ≤ u := by
  obtain ⟨k, j, e1, e2, e3⟩ := hy
  have hv' : ∀ a, a ∈ U → a.1 < ((vI.toNat : Nat) : Int) := fun a ha => by have := hv a ha; omega
  have hj : ¬ j < U.length := fun c => by
    have e := List.getElem?_eq_getElem c
    have q := (iob_y h hb hv' (by omega) (j := j)).1 _ e
    have g := (h.1 j U[j].1 U[j].2 e).1
    omega
  omega
end IO
