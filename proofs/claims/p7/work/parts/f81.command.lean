/-! how much a command adds to a common denominator, by its tokens -/
section C81
/-- chances that are 1 together: each denominator divides what the others divide -/
theorem cz_h {u : Nat} {un ov : Nat → Int} {f : Nat → Nat} {P : Int} (hP : 1 ≤ P) (hd : ∀ c, c < u → un c ∣ P ∧ 1 ≤ un c ∧ 1 ≤ ov c) (hs : sm u (fun c => P / un c * ov c) = P) (hf : ∀ c, c < u → 0 < f c ∧ ∃ o : Int, 1 ≤ o ∧ gd o (f c) = 1 ∧ un c * o = f c * ov c) (i Q : Nat) (hi : i < u) (hQ : ∀ j, j < u → ¬ j = i → f j ∣ Q) : f i ∣ Q := by
  have hj : ∀ j, j < u → ¬ j = i → P ∣ (Q : Int) * (P / un j * ov j) := fun j h1 h2 => by
    obtain ⟨⟨p, hp⟩, a1, a2⟩ := hd j h1
    obtain ⟨a3, o, a4, a5, a6⟩ := hf j h1
    obtain ⟨q, hq⟩ := Int.natCast_dvd_natCast.mpr (hQ j h1 h2)
    have e : P / un j = p := by
      rw [hp]
      exact Int.mul_ediv_cancel_left p (by omega)
    refine ⟨o * q, ?_⟩
    calc (Q : Int) * (P / un j * ov j) = f j * q * (p * ov j) := by rw [e, hq]
      _ = p * q * (f j * ov j) := by simp only [Int.mul_assoc, Int.mul_comm, Int.mul_left_comm]
      _ = p * q * (un j * o) := by rw [a6]
      _ = un j * p * (o * q) := by simp only [Int.mul_assoc, Int.mul_comm, Int.mul_left_comm]
      _ = P * (o * q) := by rw [← hp]
  have h1 : P ∣ (Q : Int) * (P / un i * ov i) := by
    have e := sm_one (n := u) (i := i) (f := fun c => P / un c * ov c) hi
    rw [hs] at e
    have e2 : (Q : Int) * P = (Q : Int) * (P / un i * ov i) + (Q : Int) * sm u (fun c => if c = i then 0 else P / un c * ov c) := by
      rw [← Int.mul_add]
      exact congrArg (fun t => (Q : Int) * t) e
    have d : P ∣ (Q : Int) * sm u (fun c => if c = i then 0 else P / un c * ov c) := by
      have e3 : sm u (fun c => (Q : Int) * (if c = i then 0 else P / un c * ov c)) = (Q : Int) * sm u (fun c => if c = i then 0 else P / un c * ov c) := sm_m
      rw [← e3]
      refine sm_dv (fun c hc => ?_)
      by_cases q : c = i
      · rw [if_pos q, Int.mul_zero]
        exact ⟨0, (Int.mul_zero P).symm⟩
      · rw [if_neg q]
        exact hj c hc q
    have d2 : P ∣ (Q : Int) * P := ⟨(Q : Int), Int.mul_comm _ _⟩
    rw [e2] at d2
    exact (Int.dvd_add_left d).mp d2
  obtain ⟨⟨p, hp⟩, a1, a2⟩ := hd i hi
  obtain ⟨a3, o, a4, a5, a6⟩ := hf i hi
  obtain ⟨r, hr⟩ := h1
  have e : P / un i = p := by
    rw [hp]
    exact Int.mul_ediv_cancel_left p (by omega)
  have p1 : 0 < p := by
    rcases Int.lt_or_le 0 p with q | q
    · exact q
    · have := Int.mul_nonpos_of_nonneg_of_nonpos (show 0 ≤ un i by omega) q
      omega
  have e1 : (Q : Int) * ov i = un i * r := by
    refine Int.eq_of_mul_eq_mul_left (show p ≠ 0 by omega) ?_
    calc p * ((Q : Int) * ov i) = (Q : Int) * (P / un i * ov i) := by
          rw [e]
          simp only [Int.mul_assoc, Int.mul_comm, Int.mul_left_comm]
      _ = P * r := hr
      _ = un i * p * r := by rw [← hp]
      _ = p * (un i * r) := by simp only [Int.mul_assoc, Int.mul_comm, Int.mul_left_comm]
  have e2 : o * (Q : Int) = f i * r := by
    refine Int.eq_of_mul_eq_mul_left (show un i ≠ 0 by omega) ?_
    calc un i * (o * (Q : Int)) = un i * o * Q := (Int.mul_assoc _ _ _).symm
      _ = f i * ov i * Q := by rw [a6]
      _ = f i * ((Q : Int) * ov i) := by simp only [Int.mul_assoc, Int.mul_comm, Int.mul_left_comm]
      _ = f i * (un i * r) := by rw [e1]
      _ = un i * (f i * r) := Int.mul_left_comm _ _ _
  have d := co_dv (x := o) (y := (f i : Int)) (D := (Q : Int)) (by omega) (by omega) a5 ⟨r, e2⟩
  exact Int.natCast_dvd_natCast.mp d
/-- the numbers of a command's chances; those that matter -/
def dn1 (ov un : Int → Int) (b : Int) (i : Nat) : Nat := (dd ov un (b + i)).toNat
def dn2 (ov un st : Int → Int) (b : Int) (i : Nat) : Nat := if ut st (b + i) = 1 then 1 else dn1 ov un b i
/-- fractions, reals; true, assigned -/
def gT (ov un st : Int → Int) (b : Int) (i : Nat) : Nat := if dn1 ov un b i ∣ 1000 then 0 else if ut st (b + i) = 1 then 1 else 0
def gA (ov un st : Int → Int) (b : Int) (i : Nat) : Nat := if dn1 ov un b i ∣ 1000 then 0 else if ut st (b + i) = 1 then 0 else 1
def gR (ov un st : Int → Int) (b : Int) (i : Nat) : Nat := if dn1 ov un b i ∣ 1000 then (if ut st (b + i) = 1 then 1 else 0) else 0
def gS (ov un st : Int → Int) (b : Int) (i : Nat) : Nat := if dn1 ov un b i ∣ 1000 then (if ut st (b + i) = 1 then 0 else 1) else 0
theorem g_all {ov un st : Int → Int} {b : Int} {n : Nat} : cnt (gT ov un st b) n + cnt (gA ov un st b) n + cnt (gR ov un st b) n + cnt (gS ov un st b) n = n := by
  induction n with
  | zero => rfl
  | succ n ih =>
    have e : gT ov un st b n + gA ov un st b n + gR ov un st b n + gS ov un st b n = 1 := by
      unfold gT gA gR gS
      by_cases h : dn1 ov un b n ∣ 1000
      · rw [if_pos h, if_pos h, if_pos h, if_pos h]
        split <;> rfl
      · rw [if_neg h, if_neg h, if_neg h, if_neg h]
        split <;> rfl
    show cnt (gT ov un st b) n + gT ov un st b n + (cnt (gA ov un st b) n + gA ov un st b n) + (cnt (gR ov un st b) n + gR ov un st b n) + (cnt (gS ov un st b) n + gS ov un st b n) = n + 1
    omega
theorem g_us {ov un st : Int → Int} {b : Int} {n : Nat} (h : ∀ c : Nat, c < n → 1 ≤ dd ov un (b + c) ∧ dd ov un (b + c) ∣ un (b + c)) : 6 * (cnt (gT ov un st b) n : Int) + 11 * (cnt (gA ov un st b) n : Int) + 4 * (cnt (gR ov un st b) n : Int) + 9 * (cnt (gS ov un st b) n : Int) ≤ us un st b n := by
  induction n with
  | zero => exact Int.le_refl _
  | succ n ih =>
    have i1 := ih (fun c hc => h c (by omega))
    have h1 := h n (by omega)
    have c1 := cc_d h1.2
    have en : ((dn1 ov un b n : Nat) : Int) = dd ov un (b + n) := by
      unfold dn1
      omega
    have e : 6 * (gT ov un st b n : Int) + 11 * (gA ov un st b n : Int) + 4 * (gR ov un st b n : Int) + 9 * (gS ov un st b n : Int) ≤ cc (un (b + n)) + 2 + ut st (b + n) := by
      have hu : ut st (b + n) = 1 ∨ ut st (b + n) = 6 := by
        unfold ut
        split
        · exact Or.inl rfl
        · exact Or.inr rfl
      unfold gT gA gR gS
      by_cases q : dn1 ov un b n ∣ 1000
      · rw [if_pos q, if_pos q, if_pos q, if_pos q]
        have b1 := cc_b (un (b + n))
        rcases hu with r | r
        · rw [r, if_pos rfl, if_pos rfl]
          show 6 * ((0 : Nat) : Int) + 11 * ((0 : Nat) : Int) + 4 * ((1 : Nat) : Int) + 9 * ((0 : Nat) : Int) ≤ _
          omega
        · rw [r, if_neg (by decide), if_neg (by decide)]
          show 6 * ((0 : Nat) : Int) + 11 * ((0 : Nat) : Int) + 4 * ((0 : Nat) : Int) + 9 * ((1 : Nat) : Int) ≤ _
          omega
      · rw [if_neg q, if_neg q, if_neg q, if_neg q]
        have c3 : cc (dd ov un (b + n)) = 3 := if_neg (fun z => q (by
          have z1 := Int.dvd_of_emod_eq_zero z
          rw [← en] at z1
          exact Int.natCast_dvd_natCast.mp z1))
        rcases hu with r | r
        · rw [r, if_pos rfl, if_pos rfl]
          show 6 * ((1 : Nat) : Int) + 11 * ((0 : Nat) : Int) + 4 * ((0 : Nat) : Int) + 9 * ((0 : Nat) : Int) ≤ _
          omega
        · rw [r, if_neg (by decide), if_neg (by decide)]
          show 6 * ((0 : Nat) : Int) + 11 * ((1 : Nat) : Int) + 4 * ((0 : Nat) : Int) + 9 * ((0 : Nat) : Int) ≤ _
          omega
    show 6 * ((cnt (gT ov un st b) n + gT ov un st b n : Nat) : Int) + 11 * ((cnt (gA ov un st b) n + gA ov un st b n : Nat) : Int) + 4 * ((cnt (gR ov un st b) n + gR ov un st b n : Nat) : Int) + 9 * ((cnt (gS ov un st b) n + gS ov un st b n : Nat) : Int) ≤ us un st b n + (cc (un (b + n)) + 2 + ut st (b + n))
    omega
theorem lA_f {ov un st : Int → Int} {b : Int} {n : Nat} (h : ∀ c : Nat, c < n → 1 ≤ dd ov un (b + c)) : lA ov un st b n = ((fw 1 (dn2 ov un st b) n : Nat) : Int) := by
  induction n with
  | zero => rfl
  | succ n ih =>
    have i1 := ih (fun c hc => h c (by omega))
    have h1 := h n (by omega)
    have ee : lA ov un st b (n + 1) = if ut st (b + n) = 1 then lA ov un st b n else lcmI (lA ov un st b n) (dd ov un (b + n)) := rfl
    have ef : fw 1 (dn2 ov un st b) (n + 1) = Nat.lcm (fw 1 (dn2 ov un st b) n) (dn2 ov un st b n) := rfl
    rw [ee, ef, i1]
    unfold dn2
    by_cases e : ut st (b + n) = 1
    · rw [if_pos e, if_pos e, Nat.lcm_one_right]
    · rw [if_neg e, if_neg e]
      unfold lcmI dn1
      rw [Int.toNat_natCast]
/-- what a command may add -/
def Fu (u : Nat) : Int := if u ≤ 1 then 0 else if u = 2 then 2 else if u = 3 then 3 else if u = 4 then 14 else if u = 5 then 15 else 26
def bJ (u J : Nat) : Int := if J = 0 then 0 else if u = 2 then 38 else 19
def kb_ok (A : Int) (u J B h : Nat) (w nm : Int) : Prop := J ≤ 1 ∧ (J = 1 → 2 ≤ u) ∧ 0 < B ∧ A ∣ ((1000 ^ J * B : Nat) : Int) ∧ B * B ≤ 1000 ^ h ∧ 23 * (h : Int) + bJ u J ≤ 2 * w + Fu u + nm
theorem kb_i {cd gu up ov un st cm ca : Int → Int} {cs k : Int} (h : cq_ok cd gu up ov un st cm ca cs k) : ∃ J B e : Nat, kb_ok (lA ov un st (k * 6) (up k).toNat) (up k).toNat J B e (cw up un st ca k) (if ca k < 0 then 2 else 0) := by
  obtain ⟨q1, q2, q3, q4, q5, q6, q7⟩ := h
  have hc : ∀ c : Nat, c < (up k).toNat → 1 ≤ ov (k * 6 + c) ∧ ov (k * 6 + c) ≤ un (k * 6 + c) ∧ un (k * 6 + c) ≤ 1000 := fun c hc => c1_e q3 (by omega) (by omega)
  have hd : ∀ c : Nat, c < (up k).toNat → 1 ≤ dd ov un (k * 6 + c) ∧ dd ov un (k * 6 + c) ∣ un (k * 6 + c) ∧ ∃ o : Int, 1 ≤ o ∧ gd o (dd ov un (k * 6 + c)) = 1 ∧ un (k * 6 + c) * o = dd ov un (k * 6 + c) * ov (k * 6 + c) := fun c h => by
    have q := hc c h
    exact dd_p (by omega) (by omega)
  have p1 := pu_p (f := un) (b := k * 6) (n := (up k).toNat) (fun c h => by have := hc c h; omega)
  have hs : sm (up k).toNat (fun c => pu un (k * 6) (up k).toNat / un (k * 6 + c) * ov (k * 6 + c)) = pu un (k * 6) (up k).toNat := by
    obtain ⟨m, e1, e2⟩ := q4
    have em : m = (up k).toNat := by omega
    subst em
    rw [← su_sm] at e2
    exact e2
  have en : ∀ c : Nat, c < (up k).toNat → ((dn1 ov un (k * 6) c : Nat) : Int) = dd ov un (k * 6 + c) := fun c h => by
    have := (hd c h).1
    unfold dn1
    omega
  have key : ∀ i Q : Nat, i < (up k).toNat → (∀ j, j < (up k).toNat → ¬ j = i → dn1 ov un (k * 6) j ∣ Q) → dn1 ov un (k * 6) i ∣ Q := cz_h (un := fun c => un (k * 6 + c)) (ov := fun c => ov (k * 6 + c)) (P := pu un (k * 6) (up k).toNat) p1.1 (fun c h => ⟨p1.2 c h, by have := hc c h; omega, (hc c h).1⟩) hs (fun c h => by
    obtain ⟨a1, a2, o, a3, a4, a5⟩ := hd c h
    have z := en c h
    refine ⟨by omega, o, a3, ?_, ?_⟩
    · rw [z]; exact a4
    · rw [z]; exact a5)
  have fp : ∀ c : Nat, c < (up k).toNat → 0 < dn1 ov un (k * 6) c ∧ dn1 ov un (k * 6) c ≤ 1000 := fun c h => by
    have z := en c h
    have a := hd c h
    have b := Int.le_of_dvd (by have := hc c h; omega) a.2.1
    have d := hc c h
    omega
  have fp2 : ∀ c : Nat, c < (up k).toNat → dn2 ov un st (k * 6) c ≤ 1000 ∧ 0 < dn2 ov un st (k * 6) c := fun c h => by
    unfold dn2
    split
    · omega
    · have := fp c h
      omega
  have d2 : ∀ c : Nat, dn2 ov un st (k * 6) c ∣ dn1 ov un (k * 6) c := fun c => by
    unfold dn2
    split
    · exact Nat.one_dvd _
    · exact Nat.dvd_refl _
  have eA := lA_f (ov := ov) (un := un) (st := st) (b := k * 6) (n := (up k).toNat) (fun c h => (hd c h).1)
  by_cases hu : (up k).toNat = 1
  · -- one update
    have d1 : dn1 ov un (k * 6) 0 = 1 := Nat.dvd_one.mp (key 0 1 (by omega) (fun j h1 h2 => absurd h1 (by omega)))
    have e2 : dn2 ov un st (k * 6) 0 = 1 := Nat.dvd_one.mp (by rw [← d1]; exact d2 0)
    refine ⟨0, 1, 0, by omega, by omega, by omega, ?_, by decide, ?_⟩
    · rw [eA, hu]
      show ((Nat.lcm 1 (dn2 ov un st (k * 6) 0) : Nat) : Int) ∣ _
      rw [e2]
      exact Int.dvd_refl _
    · have ec : cw up un st ca k = 0 := if_pos (by omega)
      have eF : Fu (up k).toNat = 0 := if_pos (by omega)
      have eb : bJ (up k).toNat 0 = 0 := if_pos rfl
      rw [ec, eF, eb]
      split <;> omega
  · have hu2 : 2 ≤ (up k).toNat ∧ (up k).toNat ≤ 6 := by omega
    have ga := g_all (ov := ov) (un := un) (st := st) (b := k * 6) (n := (up k).toNat)
    have gu2 := g_us (ov := ov) (un := un) (st := st) (b := k * 6) (n := (up k).toNat) (fun c h => ⟨(hd c h).1, (hd c h).2.1⟩)
    have ec : cw up un st ca k = 4 + (if ca k < 0 then 0 else 1) + us un st (k * 6) (up k).toNat := if_neg (by omega)
    have enm : (if ca k < 0 then (0 : Int) else 1) * 2 + (if ca k < 0 then (2 : Int) else 0) = 2 := by split <;> rfl
    -- bounds on both kinds of gains
    have le1 : ∀ m : Nat, 0 < m → pa (fa m (dn2 ov un st (k * 6))) (up k).toNat ≤ pa (fa m (dn1 ov un (k * 6))) (up k).toNat := fun m hm => by
      have z : fw m (dn2 ov un st (k * 6)) (up k).toNat ≤ fw m (dn1 ov un (k * 6)) (up k).toNat := Nat.le_of_dvd (fw_p hm (fun i hi => (fp i hi).1)) (fw_u fw_d.1 (fun i hi => Nat.dvd_trans (d2 i) (fw_d.2 i hi)))
      rw [fw_a, fw_a] at z
      exact Nat.le_of_mul_le_mul_left z hm
    have sq : ∀ m : Nat, 0 < m → pa (fa m (dn2 ov un st (k * 6))) (up k).toNat * pa (fa m (dn2 ov un st (k * 6))) (up k).toNat ≤ 1000 ^ cnt (ce m (dn1 ov un (k * 6))) (up k).toNat := fun m hm => by
      have z := sq_1 (m := m) (f := dn1 ov un (k * 6)) (n := (up k).toNat) hm (fun i hi => (fp i hi).1) (fun i Q hi _ hQ => key i Q hi hQ)
      have z2 := pe_b (m := m) (f := dn1 ov un (k * 6)) (n := (up k).toNat) (r := (up k).toNat) (fun i hi => (fp i hi).2) (Nat.le_refl _)
      rw [cn_r] at z2
      exact Nat.le_trans (Nat.mul_le_mul (le1 m hm) (le1 m hm)) (Nat.le_trans z z2)
    have lin : ∀ m : Nat, pa (fa m (dn2 ov un st (k * 6))) (up k).toNat ≤ 1000 ^ cnt (ce m (dn2 ov un st (k * 6))) (up k).toNat := fun m => pa_b fp2
    have lin2 : ∀ m : Nat, pa (fa m (dn2 ov un st (k * 6))) (up k).toNat * pa (fa m (dn2 ov un st (k * 6))) (up k).toNat ≤ 1000 ^ (2 * cnt (ce m (dn2 ov un st (k * 6))) (up k).toNat) := fun m => by
      have z := Nat.mul_le_mul (lin m) (lin m)
      rw [← Nat.pow_add] at z
      rw [Nat.two_mul]; exact z
    have pos : ∀ m : Nat, 0 < m → 0 < pa (fa m (dn2 ov un st (k * 6))) (up k).toNat := fun m hm => pa_pos hm (fun i hi => (fp2 i hi).2)
    have c1k : cnt (ce 1000 (dn1 ov un (k * 6))) (up k).toNat = cnt (gT ov un st (k * 6)) (up k).toNat + cnt (gA ov un st (k * 6)) (up k).toNat := by
      generalize (up k).toNat = n
      induction n with
      | zero => rfl
      | succ n ih =>
        have e : ce 1000 (dn1 ov un (k * 6)) n = gT ov un st (k * 6) n + gA ov un st (k * 6) n := by
          unfold ce gT gA
          by_cases h : dn1 ov un (k * 6) n ∣ 1000
          · rw [if_pos h, if_pos h, if_pos h]
          · rw [if_neg h, if_neg h, if_neg h]
            split <;> rfl
        show cnt (ce 1000 (dn1 ov un (k * 6))) n + ce 1000 (dn1 ov un (k * 6)) n = cnt (gT ov un st (k * 6)) n + gT ov un st (k * 6) n + (cnt (gA ov un st (k * 6)) n + gA ov un st (k * 6) n)
        omega
    have c2k : cnt (ce 1000 (dn2 ov un st (k * 6))) (up k).toNat ≤ cnt (gA ov un st (k * 6)) (up k).toNat := cnt_le (fun i hi => by
      unfold ce gA dn2
      by_cases r : ut st (k * 6 + i) = 1
      · rw [if_pos r, if_pos (Nat.one_dvd _)]
        exact Nat.zero_le _
      · rw [if_neg r, if_neg r]
        exact Nat.le_refl _)
    have c11 : cnt (ce 1 (dn1 ov un (k * 6))) (up k).toNat ≤ (up k).toNat := by
      generalize (up k).toNat = n
      induction n with
      | zero => exact Nat.le_refl _
      | succ n ih =>
        have e : ce 1 (dn1 ov un (k * 6)) n ≤ 1 := by
          unfold ce
          split <;> omega
        show cnt (ce 1 (dn1 ov un (k * 6))) n + ce 1 (dn1 ov un (k * 6)) n ≤ n + 1
        omega
    have c21 : cnt (ce 1 (dn2 ov un st (k * 6))) (up k).toNat ≤ cnt (gA ov un st (k * 6)) (up k).toNat + cnt (gS ov un st (k * 6)) (up k).toNat := by
      generalize (up k).toNat = n
      induction n with
      | zero => exact Nat.le_refl _
      | succ n ih =>
        have e : ce 1 (dn2 ov un st (k * 6)) n ≤ gA ov un st (k * 6) n + gS ov un st (k * 6) n := by
          unfold ce gA gS dn2
          by_cases r : ut st (k * 6 + n) = 1
          · rw [if_pos r, if_pos (Nat.one_dvd _)]
            exact Nat.zero_le _
          · rw [if_neg r, if_neg r]
            by_cases h : dn1 ov un (k * 6) n ∣ 1000
            · rw [if_pos h, if_pos h]
              split <;> omega
            · rw [if_neg h, if_neg h]
              split <;> omega
        show cnt (ce 1 (dn2 ov un st (k * 6))) n + ce 1 (dn2 ov un st (k * 6)) n ≤ cnt (gA ov un st (k * 6)) n + gA ov un st (k * 6) n + (cnt (gS ov un st (k * 6)) n + gS ov un st (k * 6) n)
        omega
    have n1 := ce_1 (m := 1000) (f := dn1 ov un (k * 6)) (n := (up k).toNat) (fun i Q hi _ hQ => key i Q hi hQ)
    rw [c1k] at n1
    have sqk := sq 1000 (by decide)
    rw [c1k] at sqk
    have sq1 := Nat.le_trans (sq 1 (by decide)) (Nat.pow_le_pow_right (by decide) c11)
    have l1 := Nat.le_trans (lin2 1) (Nat.pow_le_pow_right (show 0 < 1000 by decide) (Nat.mul_le_mul_left 2 c21))
    have lk := Nat.le_trans (lin2 1000) (Nat.pow_le_pow_right (show 0 < 1000 by decide) (Nat.mul_le_mul_left 2 c2k))
    have dk : lA ov un st (k * 6) (up k).toNat ∣ ((1000 ^ 1 * pa (fa 1000 (dn2 ov un st (k * 6))) (up k).toNat : Nat) : Int) := by
      rw [eA, Nat.pow_one, ← fw_a]
      exact Int.natCast_dvd_natCast.mpr (fw_u (Nat.one_dvd _) (fun i hi => fw_d.2 i hi))
    have d1 : lA ov un st (k * 6) (up k).toNat ∣ ((1000 ^ 0 * pa (fa 1 (dn2 ov un st (k * 6))) (up k).toNat : Nat) : Int) := by
      rw [eA, Nat.pow_zero, ← fw_a]
      exact Int.dvd_refl _
    have eF : ∀ u : Nat, 2 ≤ u → u ≤ 6 → (u = 2 ∧ Fu u = 2 ∧ bJ u 1 = 38) ∨ (u = 3 ∧ Fu u = 3 ∧ bJ u 1 = 19) ∨ (u = 4 ∧ Fu u = 14 ∧ bJ u 1 = 19) ∨ (u = 5 ∧ Fu u = 15 ∧ bJ u 1 = 19) ∨ (u = 6 ∧ Fu u = 26 ∧ bJ u 1 = 19) := fun u h1 h2 => by
      have c : u = 2 ∨ u = 3 ∨ u = 4 ∨ u = 5 ∨ u = 6 := by omega
      rcases c with c | c | c | c | c <;> subst c <;> decide
    have eF2 := eF _ hu2.1 hu2.2
    have b0 : bJ (up k).toNat 0 = 0 := if_pos rfl
    have pB1 := pos 1 (by decide)
    have pBk := pos 1000 (by decide)
    rw [ec]
    clear sq lin lin2 le1 pos eF key fp fp2 d2 hd hc en hs p1 c1k c2k c11 c21 q1 q3 q4 q5 q6 q7 eA
    generalize pa (fa 1 (dn2 ov un st (k * 6))) (up k).toNat = B1 at *
    generalize pa (fa 1000 (dn2 ov un st (k * 6))) (up k).toNat = Bk at *
    generalize cnt (gT ov un st (k * 6)) (up k).toNat = nt at *
    generalize cnt (gA ov un st (k * 6)) (up k).toNat = na at *
    generalize cnt (gR ov un st (k * 6)) (up k).toNat = rt at *
    generalize cnt (gS ov un st (k * 6)) (up k).toNat = ra at *
    generalize us un st (k * 6) (up k).toNat = U at *
    generalize (if ca k < 0 then (0 : Int) else 1) = a1 at *
    generalize (if ca k < 0 then (2 : Int) else 0) = a2 at *
    by_cases cA : rt + ra = 0
    · by_cases cB : na ≤ nt
      · exact ⟨0, B1, 2 * (na + ra), by omega, by omega, by omega, d1, l1, by omega⟩
      · exact ⟨0, B1, (up k).toNat, by omega, by omega, by omega, d1, sq1, by omega⟩
    · by_cases cB : ra = 0 ∧ na ≤ nt
      · exact ⟨0, B1, 2 * (na + ra), by omega, by omega, by omega, d1, l1, by omega⟩
      · by_cases cC : na ≤ nt
        · exact ⟨1, Bk, 2 * na, by omega, by omega, by omega, dk, lk, by omega⟩
        · exact ⟨1, Bk, nt + na, by omega, by omega, by omega, dk, sqk, by omega⟩
end C81
