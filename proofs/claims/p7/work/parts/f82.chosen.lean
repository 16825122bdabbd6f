/-! the common denominator of chosen choices: below 2 to the 800 -/
section C82
def ins (us : Nat → Bool) (a : Nat) : Nat → Bool := fun k => us k || k == a
def del (us : Nat → Bool) (a : Nat) : Nat → Bool := fun k => us k && !(k == a)
def sbs (us : Nat → Bool) (f : Nat → Int) (n : Nat) : Int := sm n (fun k => if us k = true then f k else 0)
def pbs (us : Nat → Bool) (B : Nat → Nat) : Nat → Nat
  | 0 => 1
  | k + 1 => pbs us B k * (if us k = true then B k else 1)
theorem ins_s {us : Nat → Bool} {a : Nat} : ins us a a = true := by
  unfold ins
  rw [beq_self_eq_true, Bool.or_true]
theorem ins_n {us : Nat → Bool} {a k : Nat} (h : ¬ k = a) : ins us a k = us k := by
  unfold ins
  rw [beq_eq_false_iff_ne.mpr h, Bool.or_false]
theorem ins_t {us : Nat → Bool} {a k : Nat} (h : us k = true) : ins us a k = true := by
  unfold ins
  rw [h, Bool.true_or]
theorem del_s {us : Nat → Bool} {a : Nat} : del us a a = false := by
  unfold del
  rw [beq_self_eq_true, Bool.not_true, Bool.and_false]
theorem del_n {us : Nat → Bool} {a k : Nat} (h : ¬ k = a) : del us a k = us k := by
  unfold del
  rw [beq_eq_false_iff_ne.mpr h, Bool.not_false, Bool.and_true]
theorem ins_d {us : Nat → Bool} {a : Nat} (h : us a = true) : ins (del us a) a = us := by
  funext k
  by_cases e : k = a
  · rw [e, ins_s, h]
  · rw [ins_n e, del_n e]
theorem sbs_i {us : Nat → Bool} {f : Nat → Int} {a n : Nat} (ha : a < n) : sbs (ins us a) f n = sbs us f n + (if us a = true then 0 else f a) := by
  unfold sbs
  rw [sm_one (f := fun k => if ins us a k = true then f k else 0) ha, sm_one (f := fun k => if us k = true then f k else 0) ha]
  have e : sm n (fun c => if c = a then 0 else (if ins us a c = true then f c else 0)) = sm n (fun c => if c = a then 0 else (if us c = true then f c else 0)) := sm_eq (fun c _ => by
    by_cases q : c = a
    · rw [if_pos q, if_pos q]
    · rw [if_neg q, if_neg q, ins_n q])
  rw [e]
  rw [if_pos ins_s]
  split <;> omega
theorem pbs_e {us vs : Nat → Bool} {B : Nat → Nat} {n : Nat} (h : ∀ k, k < n → us k = vs k) : pbs us B n = pbs vs B n := by
  induction n with
  | zero => rfl
  | succ n ih =>
    show pbs us B n * (if us n = true then B n else 1) = pbs vs B n * (if vs n = true then B n else 1)
    rw [ih (fun k hk => h k (by omega)), h n (by omega)]
theorem pbs_i {us : Nat → Bool} {B : Nat → Nat} {a n : Nat} (ha : a < n) : pbs (ins us a) B n = pbs us B n * (if us a = true then 1 else B a) := by
  induction n with
  | zero => exact absurd ha (Nat.not_lt_zero a)
  | succ n ih =>
    show pbs (ins us a) B n * (if ins us a n = true then B n else 1) = pbs us B n * (if us n = true then B n else 1) * (if us a = true then 1 else B a)
    by_cases e : a = n
    · subst e
      rw [if_pos ins_s, pbs_e (us := ins us a) (vs := us) (fun k hk => ins_n (by omega))]
      split
      · rw [Nat.mul_one]
      · rw [Nat.mul_one]
    · rw [ih (by omega), ins_n (fun q => e q.symm)]
      simp only [Nat.mul_assoc, Nat.mul_comm, Nat.mul_left_comm]
theorem pbs_d {us : Nat → Bool} {B : Nat → Nat} {a n : Nat} (ha : a < n) (h : us a = true) : pbs us B n = pbs (del us a) B n * B a := by
  have e := pbs_i (us := del us a) (B := B) ha
  rw [ins_d h, del_s] at e
  exact e
theorem sbs_d {us : Nat → Bool} {f : Nat → Int} {a n : Nat} (ha : a < n) (h : us a = true) : sbs us f n = sbs (del us a) f n + f a := by
  have e := sbs_i (us := del us a) (f := f) ha
  rw [ins_d h, del_s] at e
  exact e
theorem sbs_p {us : Nat → Bool} {f : Nat → Int} {n : Nat} (h : ∀ k, k < n → 0 ≤ f k) : 0 ≤ sbs us f n := sm_nn (fun k hk => by
  split
  · exact h k hk
  · exact Int.le_refl _)
theorem sbs_l {us : Nat → Bool} {f : Nat → Int} {n : Nat} (h : ∀ k, k < n → 0 ≤ f k) : sbs us f n ≤ sm n f := by
  unfold sbs
  induction n with
  | zero => exact Int.le_refl _
  | succ n ih =>
    have i1 := ih (fun k hk => h k (by omega))
    have h1 := h n (by omega)
    rw [sm_s, sm_s]
    split <;> omega
theorem sbs_c {us : Nat → Bool} {p q r : Nat → Int} {n : Nat} : sbs us (fun k => 23 * p k + q k - 2 * r k) n = 23 * sbs us p n + sbs us q n - 2 * sbs us r n := by
  unfold sbs
  induction n with
  | zero => rfl
  | succ n ih =>
    rw [sm_s, sm_s, sm_s, sm_s, ih]
    dsimp only
    split <;> omega
/-- commands put in one by one -/
def iN (us : Nat → Bool) (a : Nat → Nat) : Nat → Nat → Bool
  | 0 => us
  | i + 1 => ins (iN us a i) (a i)
theorem iN_o {us : Nat → Bool} {a : Nat → Nat} {m k : Nat} (h : us k = true) : iN us a m k = true := by
  induction m with
  | zero => exact h
  | succ m ih => exact ins_t ih
theorem iN_i {us : Nat → Bool} {a : Nat → Nat} {m i : Nat} (h : i < m) : iN us a m (a i) = true := by
  induction m with
  | zero => exact absurd h (Nat.not_lt_zero i)
  | succ m ih =>
    by_cases e : i = m
    · subst e; exact ins_s
    · exact ins_t (ih (by omega))
theorem iN_p {us : Nat → Bool} {a : Nat → Nat} {B : Nat → Nat} {m n : Nat} (ha : ∀ i, i < m → a i < n) : pbs us B n ∣ pbs (iN us a m) B n := by
  induction m with
  | zero => exact Nat.dvd_refl _
  | succ m ih =>
    refine Nat.dvd_trans (ih (fun i hi => ha i (by omega))) ?_
    show pbs (iN us a m) B n ∣ pbs (ins (iN us a m) (a m)) B n
    rw [pbs_i (ha m (by omega))]
    exact Nat.dvd_mul_right _ _
theorem iN_s {us : Nat → Bool} {a : Nat → Nat} {f G : Nat → Int} {m n : Nat} (ha : ∀ i, i < m → a i < n) (hG : ∀ i, i < m → 0 ≤ G i ∧ f (a i) ≤ G i) : sbs (iN us a m) f n ≤ sbs us f n + sm m G := by
  induction m with
  | zero =>
    show sbs us f n ≤ sbs us f n + 0
    omega
  | succ m ih =>
    have i1 := ih (fun i hi => ha i (by omega)) (fun i hi => hG i (by omega))
    have h1 := hG m (by omega)
    show sbs (ins (iN us a m) (a m)) f n ≤ sbs us f n + sm (m + 1) G
    rw [sbs_i (ha m (by omega)), sm_s]
    split <;> omega
theorem iN_m {us : Nat → Bool} {a : Nat → Nat} {f : Nat → Int} {m n : Nat} (ha : ∀ i, i < m → a i < n) (hf : ∀ k, k < n → 0 ≤ f k) : sbs us f n ≤ sbs (iN us a m) f n := by
  induction m with
  | zero => exact Int.le_refl _
  | succ m ih =>
    have i1 := ih (fun i hi => ha i (by omega))
    have h1 := hf (a m) (ha m (by omega))
    show sbs us f n ≤ sbs (ins (iN us a m) (a m)) f n
    rw [sbs_i (ha m (by omega))]
    split <;> omega
theorem pl_d {us : Nat → Bool} {a B : Nat → Nat} {m n : Nat} (ha : ∀ i, i < m → a i < n) (hi : ∀ i j, i < j → j < m → ¬ a i = a j) (hu : ∀ i, i < m → us (a i) = true) : pa (fun i => B (a i)) m ∣ pbs us B n := by
  induction m generalizing us with
  | zero => exact Nat.one_dvd _
  | succ m ih =>
    rw [pbs_d (ha m (by omega)) (hu m (by omega))]
    show pa (fun i => B (a i)) m * B (a m) ∣ _
    exact Nat.mul_dvd_mul (ih (fun i h => ha i (by omega)) (fun i j h1 h2 => hi i j h1 (by omega)) (fun i h => by
      rw [del_n (hi i m h (by omega))]
      exact hu i (by omega))) (Nat.dvd_refl _)
theorem sl_d {us : Nat → Bool} {a : Nat → Nat} {f : Nat → Int} {m n : Nat} (ha : ∀ i, i < m → a i < n) (hi : ∀ i j, i < j → j < m → ¬ a i = a j) (hu : ∀ i, i < m → us (a i) = true) (hf : ∀ k, k < n → 0 ≤ f k) : sm m (fun i => f (a i)) ≤ sbs us f n := by
  induction m generalizing us with
  | zero => exact sbs_p hf
  | succ m ih =>
    rw [sbs_d (ha m (by omega)) (hu m (by omega)), sm_s]
    have z := ih (us := del us (a m)) (fun i h => ha i (by omega)) (fun i j h1 h2 => hi i j h1 (by omega)) (fun i h => by
      rw [del_n (hi i m h (by omega))]
      exact hu i (by omega))
    omega
def fu_c (a b c : Nat) : Bool := !(decide (1 ≤ a ∧ 1 ≤ b ∧ 1 ≤ c ∧ a * b * c ≤ 16)) || decide (Fu a + Fu b + Fu c ≤ 28)
def bj_c (a b c : Nat) : Bool := !(decide (2 ≤ a ∧ 2 ≤ b ∧ 2 ≤ c ∧ a * b * c ≤ 16)) || decide (95 ≤ bJ a 1 + bJ b 1 + bJ c 1)
theorem fu_a : (List.range 7).all (fun a => (List.range 7).all (fun b => (List.range 7).all (fun c => fu_c a b c))) = true := by decide +kernel
theorem bj_a : (List.range 7).all (fun a => (List.range 7).all (fun b => (List.range 7).all (fun c => bj_c a b c))) = true := by decide +kernel
theorem im_b {P Q : Prop} [Decidable P] [Decidable Q] (h : (!(decide P) || decide Q) = true) (hp : P) : Q := by
  rw [Bool.or_eq_true] at h
  rcases h with h | h
  · rw [decide_eq_true hp] at h
    exact absurd h (by decide)
  · exact of_decide_eq_true h
theorem fu_3 (a : Nat) (ha : a < 7) (b : Nat) (hb : b < 7) (c : Nat) (hc : c < 7) (h1 : 1 ≤ a) (h2 : 1 ≤ b) (h3 : 1 ≤ c) (h : a * b * c ≤ 16) : Fu a + Fu b + Fu c ≤ 28 := im_b (List.all_eq_true.mp (List.all_eq_true.mp (List.all_eq_true.mp fu_a a (List.mem_range.mpr ha)) b (List.mem_range.mpr hb)) c (List.mem_range.mpr hc)) ⟨h1, h2, h3, h⟩
theorem bj_3 (a : Nat) (ha : a < 7) (b : Nat) (hb : b < 7) (c : Nat) (hc : c < 7) (h1 : 2 ≤ a) (h2 : 2 ≤ b) (h3 : 2 ≤ c) (h : a * b * c ≤ 16) : 95 ≤ bJ a 1 + bJ b 1 + bJ c 1 := im_b (List.all_eq_true.mp (List.all_eq_true.mp (List.all_eq_true.mp bj_a a (List.mem_range.mpr ha)) b (List.mem_range.mpr hb)) c (List.mem_range.mpr hc)) ⟨h1, h2, h3, h⟩
theorem fu_1 : ∀ a, a < 7 → 0 ≤ Fu a ∧ Fu a ≤ 26 := by decide +kernel
theorem bj_p (u J : Nat) : 0 ≤ bJ u J := by
  unfold bJ
  split
  · exact Int.le_refl _
  · split <;> decide
theorem bj_1 (u : Nat) : 19 ≤ bJ u 1 := by
  unfold bJ
  rw [if_neg (by decide)]
  split <;> decide
def pen (J : Nat) : Int := if J = 0 then 0 else if J = 1 then 19 else if J = 2 then 38 else 95
/-- what is known of all commands -/
def ka_ok (ov un st up ca : Int → Int) (cn : Nat) (J B e : Nat → Nat) (w : Nat → Int) : Prop := ∀ k : Nat, k < cn → kb_ok (lA ov un st ((k : Int) * 6) (up k).toNat) (up k).toNat (J k) (B k) (e k) (w k) (if ca k < 0 then 2 else 0) ∧ 0 ≤ w k ∧ (1 ≤ (up k).toNat ∧ (up k).toNat ≤ 6)
def ra_ok (cn : Nat) (u J B e : Nat → Nat) (w : Nat → Int) (t : Nat) (all : Int) : Prop := ∃ (us : Nat → Bool) (Jm : Nat), all ∣ ((1000 ^ Jm * pbs us B cn : Nat) : Int) ∧ sbs us (fun k => 23 * (e k : Int) + bJ (u k) (J k) - 2 * w k) cn ≤ 28 * t ∧ Jm ≤ 3 ∧ pen Jm ≤ sbs us (fun k => bJ (u k) (J k)) cn
theorem ra_0 {cn : Nat} {u J B e : Nat → Nat} {w : Nat → Int} : ra_ok cn u J B e w 0 1 := by
  have z : ∀ f : Nat → Int, sbs (fun _ => false) f cn = 0 := fun f => sm_0 (fun i hi => if_neg (fun h => Bool.false_ne_true h))
  refine ⟨fun _ => false, 0, ⟨_, (Int.one_mul _).symm⟩, ?_, by decide, ?_⟩
  · rw [z]; decide
  · rw [z]; decide
theorem pa_m {f g : Nat → Nat} {m : Nat} (h : ∀ i, i < m → ∀ x : Nat, True) : pa (fun i => f i * g i) m = pa f m * pa g m := by
  induction m with
  | zero => rfl
  | succ m ih =>
    show pa (fun i => f i * g i) m * (f m * g m) = pa f m * f m * (pa g m * g m)
    rw [ih (fun _ _ _ => trivial)]
    simp only [Nat.mul_assoc, Nat.mul_comm, Nat.mul_left_comm]
theorem pa_pw {J : Nat → Nat} {m : Nat} : pa (fun i => 1000 ^ J i) m = 1000 ^ cnt J m := by
  induction m with
  | zero => rfl
  | succ m ih =>
    show pa (fun i => 1000 ^ J i) m * 1000 ^ J m = 1000 ^ (cnt J m + J m)
    rw [ih, Nat.pow_add]
/-- one choice more -/
theorem ra_s {ov un st up ca tk : Int → Int} {cn t : Nat} {J B e : Nat → Nat} {w : Nat → Int} {all L n : Int} (hk : ka_ok ov un st up ca cn J B e w) (h : ra_ok cn (fun k => (up k).toNat) J B e w t all) (hn : 0 ≤ n ∧ n ≤ 3) (ht : tq_ok tk ca n cn) (hw : cwn up tk n ≤ 16) (hL : L ∣ cMn ov un st up tk n) (ha : 1 ≤ all) (hl : 1 ≤ L) : ra_ok cn (fun k => (up k).toNat) J B e w (t + 1) (lcmI all L) := by
  obtain ⟨us, Jm, r1, r2, r3, r4⟩ := h
  refine ht.elim fun _ ht => ?_
  -- the commands as natural numbers
  have ta : ∀ i : Nat, (i : Int) < n → (((tk i).toNat : Nat) : Int) = tk i ∧ (tk i).toNat < cn := fun i hi => by
    have := ht.1 i (by omega) hi
    omega
  have kk : ∀ i : Nat, (i : Int) < n → kb_ok (lA ov un st (tk i * 6) (up (tk i)).toNat) (up (tk i)).toNat (J (tk i).toNat) (B (tk i).toNat) (e (tk i).toNat) (w (tk i).toNat) (if ca (tk i) < 0 then 2 else 0) ∧ 0 ≤ w (tk i).toNat ∧ (1 ≤ (up (tk i)).toNat ∧ (up (tk i)).toNat ≤ 6) := fun i hi => by
    have z := ta i hi
    have y := hk (tk i).toNat z.2
    rw [z.1] at y
    exact y
  have hm : ∀ i : Nat, i < n.toNat → (tk i).toNat < cn := fun i hi => (ta i (by omega)).2
  have hd : ∀ i j : Nat, i < j → j < n.toNat → ¬ (tk i).toNat = (tk j).toNat := fun i j h1 h2 q => by
    have z1 := (ta i (by omega)).1
    have z2 := (ta j (by omega)).1
    exact ht.2.1 i j (by omega) (by omega) (by omega) (by omega)
  have mem : ∀ i : Nat, i < n.toNat → iN us (fun i => (tk i).toNat) n.toNat (tk i).toNat = true := fun i hi => iN_i (a := fun i => (tk i).toNat) hi
  have uj : ∀ j : Int, 0 ≤ j → 1 ≤ cuj up tk n j ∧ cuj up tk n j ≤ 6 := fun j hj => by
    unfold cuj
    split
    · rename_i hjn
      have z := (kk j.toNat (by omega)).2.2
      have ej : ((j.toNat : Nat) : Int) = j := by omega
      rw [ej] at z
      exact z
    · omega
  have u0 := uj 0 (by decide)
  have u1 := uj 1 (by decide)
  have u2 := uj 2 (by decide)
  unfold cwn at hw
  -- its numbers
  have cJ : L ∣ ((1000 ^ cnt (fun i => J (tk i).toNat) n.toNat * pa (fun i => B (tk i).toNat) n.toNat : Nat) : Int) := by
    refine Int.dvd_trans hL ?_
    rw [← pa_pw, ← pa_m (fun _ _ _ => trivial)]
    have one : ∀ i : Nat, (i : Int) < n → lA ov un st (tk i * 6) (up (tk i)).toNat ∣ ((1000 ^ J (tk i).toNat * B (tk i).toNat : Nat) : Int) := fun i hi => (kk i hi).1.2.2.2.1
    have c : n = 0 ∨ n = 1 ∨ n = 2 ∨ n = 3 := by omega
    have g : ∀ j : Int, j < n → cAj ov un st up tk n j = lA ov un st (tk j * 6) (up (tk j)).toNat := fun j h => if_pos h
    have g1 : ∀ j : Int, n ≤ j → cAj ov un st up tk n j = 1 := fun j h => if_neg (by omega)
    unfold cMn
    rcases c with c | c | c | c
    · rw [g1 0 (by omega), g1 1 (by omega), g1 2 (by omega), c]
      exact Int.dvd_refl _
    · rw [g 0 (by omega), g1 1 (by omega), g1 2 (by omega), c]
      show _ * (1 * (1 * 1)) ∣ ((1 * (1000 ^ J (tk ((0 : Nat) : Int)).toNat * B (tk ((0 : Nat) : Int)).toNat) : Nat) : Int)
      rw [Nat.one_mul, show (1 : Int) * (1 * 1) = 1 from rfl, Int.mul_one]
      exact one 0 (by omega)
    · rw [g 0 (by omega), g 1 (by omega), g1 2 (by omega), c]
      show _ * (_ * (1 * 1)) ∣ ((1 * (1000 ^ J (tk ((0 : Nat) : Int)).toNat * B (tk ((0 : Nat) : Int)).toNat) * (1000 ^ J (tk ((1 : Nat) : Int)).toNat * B (tk ((1 : Nat) : Int)).toNat) : Nat) : Int)
      rw [Nat.one_mul, show (1 : Int) * 1 = 1 from rfl, Int.mul_one, Int.natCast_mul]
      exact Int.mul_dvd_mul (one 0 (by omega)) (one 1 (by omega))
    · rw [g 0 (by omega), g 1 (by omega), g 2 (by omega), c]
      show _ * (_ * (_ * 1)) ∣ ((1 * (1000 ^ J (tk ((0 : Nat) : Int)).toNat * B (tk ((0 : Nat) : Int)).toNat) * (1000 ^ J (tk ((1 : Nat) : Int)).toNat * B (tk ((1 : Nat) : Int)).toNat) * (1000 ^ J (tk ((2 : Nat) : Int)).toNat * B (tk ((2 : Nat) : Int)).toNat) : Nat) : Int)
      rw [Nat.one_mul, Int.mul_one, Int.natCast_mul, Int.natCast_mul, ← Int.mul_assoc]
      exact Int.mul_dvd_mul (Int.mul_dvd_mul (one 0 (by omega)) (one 1 (by omega))) (one 2 (by omega))
  have J1 : ∀ i : Nat, (i : Int) < n → J (tk i).toNat ≤ 1 := fun i hi => (kk i hi).1.1
  have cj3 : cnt (fun i => J (tk i).toNat) n.toNat ≤ 3 ∧ pen (cnt (fun i => J (tk i).toNat) n.toNat) ≤ sm n.toNat (fun i => bJ (up (tk i)).toNat (J (tk i).toNat)) := by
    have g : ∀ j : Int, j < n → cuj up tk n j = (up (tk j)).toNat := fun j h => if_pos h
    have b1 := bj_1
    have b0 := bj_p
    have c : n = 0 ∨ n = 1 ∨ n = 2 ∨ n = 3 := by omega
    rcases c with c | c | c | c
    · rw [c]; exact ⟨Nat.zero_le 3, Int.le_refl 0⟩
    · have j0 := J1 0 (by omega)
      rw [c]
      show 0 + J (tk ((0 : Nat) : Int)).toNat ≤ 3 ∧ pen (0 + J (tk ((0 : Nat) : Int)).toNat) ≤ 0 + bJ (up (tk ((0 : Nat) : Int))).toNat (J (tk ((0 : Nat) : Int)).toNat)
      generalize J (tk ((0 : Nat) : Int)).toNat = p0 at *
      have c0 : p0 = 0 ∨ p0 = 1 := by omega
      have x0 := b1 (up (tk ((0 : Nat) : Int))).toNat
      rcases c0 with c0 | c0 <;> subst c0
      · exact ⟨by decide, by
          have := b0 (up (tk ((0 : Nat) : Int))).toNat 0
          show (0 : Int) ≤ _
          omega⟩
      · exact ⟨by decide, by
          show (19 : Int) ≤ _
          omega⟩
    · have j0 := J1 0 (by omega)
      have j1 := J1 1 (by omega)
      rw [c]
      show 0 + J (tk ((0 : Nat) : Int)).toNat + J (tk ((1 : Nat) : Int)).toNat ≤ 3 ∧ pen (0 + J (tk ((0 : Nat) : Int)).toNat + J (tk ((1 : Nat) : Int)).toNat) ≤ 0 + bJ (up (tk ((0 : Nat) : Int))).toNat (J (tk ((0 : Nat) : Int)).toNat) + bJ (up (tk ((1 : Nat) : Int))).toNat (J (tk ((1 : Nat) : Int)).toNat)
      generalize J (tk ((0 : Nat) : Int)).toNat = p0 at *
      generalize J (tk ((1 : Nat) : Int)).toNat = p1 at *
      have c0 : p0 = 0 ∨ p0 = 1 := by omega
      have c1 : p1 = 0 ∨ p1 = 1 := by omega
      have x0 := b1 (up (tk ((0 : Nat) : Int))).toNat
      have x1 := b1 (up (tk ((1 : Nat) : Int))).toNat
      have y0 := b0 (up (tk ((0 : Nat) : Int))).toNat 0
      have y1 := b0 (up (tk ((1 : Nat) : Int))).toNat 0
      refine ⟨by omega, ?_⟩
      rcases c0 with c0 | c0 <;> subst c0 <;> rcases c1 with c1 | c1 <;> subst c1
      · show (0 : Int) ≤ _
        omega
      · show (19 : Int) ≤ _
        omega
      · show (19 : Int) ≤ _
        omega
      · show (38 : Int) ≤ _
        omega
    · have j0 := J1 0 (by omega)
      have j1 := J1 1 (by omega)
      have j2 := J1 2 (by omega)
      have v0 := (kk 0 (by omega)).1.2.1
      have v1 := (kk 1 (by omega)).1.2.1
      have v2 := (kk 2 (by omega)).1.2.1
      have e0 : cuj up tk n 0 = (up (tk ((0 : Nat) : Int))).toNat := g 0 (by omega)
      have e1 : cuj up tk n 1 = (up (tk ((1 : Nat) : Int))).toNat := g 1 (by omega)
      have e2 : cuj up tk n 2 = (up (tk ((2 : Nat) : Int))).toNat := g 2 (by omega)
      rw [e0, e1, e2] at hw
      rw [e0] at u0
      rw [e1] at u1
      rw [e2] at u2
      rw [c]
      show 0 + J (tk ((0 : Nat) : Int)).toNat + J (tk ((1 : Nat) : Int)).toNat + J (tk ((2 : Nat) : Int)).toNat ≤ 3 ∧ pen (0 + J (tk ((0 : Nat) : Int)).toNat + J (tk ((1 : Nat) : Int)).toNat + J (tk ((2 : Nat) : Int)).toNat) ≤ 0 + bJ (up (tk ((0 : Nat) : Int))).toNat (J (tk ((0 : Nat) : Int)).toNat) + bJ (up (tk ((1 : Nat) : Int))).toNat (J (tk ((1 : Nat) : Int)).toNat) + bJ (up (tk ((2 : Nat) : Int))).toNat (J (tk ((2 : Nat) : Int)).toNat)
      generalize (up (tk ((0 : Nat) : Int))).toNat = q0 at *
      generalize (up (tk ((1 : Nat) : Int))).toNat = q1 at *
      generalize (up (tk ((2 : Nat) : Int))).toNat = q2 at *
      generalize J (tk ((0 : Nat) : Int)).toNat = p0 at *
      generalize J (tk ((1 : Nat) : Int)).toNat = p1 at *
      generalize J (tk ((2 : Nat) : Int)).toNat = p2 at *
      have c0 : p0 = 0 ∨ p0 = 1 := by omega
      have c1 : p1 = 0 ∨ p1 = 1 := by omega
      have c2 : p2 = 0 ∨ p2 = 1 := by omega
      have x0 := b1 q0
      have x1 := b1 q1
      have x2 := b1 q2
      have y0 := b0 q0 0
      have y1 := b0 q1 0
      have y2 := b0 q2 0
      refine ⟨by omega, ?_⟩
      rcases c0 with c0 | c0 <;> subst c0 <;> rcases c1 with c1 | c1 <;> subst c1 <;> rcases c2 with c2 | c2 <;> subst c2
      · show (0 : Int) ≤ _
        omega
      · show (19 : Int) ≤ _
        omega
      · show (19 : Int) ≤ _
        omega
      · show (38 : Int) ≤ _
        omega
      · show (19 : Int) ≤ _
        omega
      · show (38 : Int) ≤ _
        omega
      · show (38 : Int) ≤ _
        omega
      · show (95 : Int) ≤ _
        have z := bj_3 q0 (by omega) q1 (by omega) q2 (by omega) (v0 rfl) (v1 rfl) (v2 rfl) hw
        omega
  -- what it may add
  have s28 : sm n.toNat (fun i => Fu (up (tk i)).toNat + (if ca (tk i) < 0 then (2 : Int) else 0)) ≤ 28 := by
    have g : ∀ j : Int, j < n → cuj up tk n j = (up (tk j)).toNat := fun j h => if_pos h
    have c : n = 0 ∨ n = 1 ∨ n = 2 ∨ n = 3 := by omega
    rcases c with c | c | c | c
    · rw [c]; exact (show (0 : Int) ≤ 28 by decide)
    · rw [c]
      show 0 + (Fu (up (tk ((0 : Nat) : Int))).toNat + (if ca (tk ((0 : Nat) : Int)) < 0 then (2 : Int) else 0)) ≤ 28
      have e0 : cuj up tk n 0 = (up (tk ((0 : Nat) : Int))).toNat := g 0 (by omega)
      rw [e0] at u0
      have f := fu_1 (up (tk ((0 : Nat) : Int))).toNat (by omega)
      split <;> omega
    · have m := ht.2.2 (by omega)
      have m0 : 0 ≤ ca (tk ((0 : Nat) : Int)) := m 0 (by decide) (by omega)
      have m1 : 0 ≤ ca (tk ((1 : Nat) : Int)) := m 1 (by decide) (by omega)
      have e0 : cuj up tk n 0 = (up (tk ((0 : Nat) : Int))).toNat := g 0 (by omega)
      have e1 : cuj up tk n 1 = (up (tk ((1 : Nat) : Int))).toNat := g 1 (by omega)
      have f := fu_3 (cuj up tk n 0) (by omega) (cuj up tk n 1) (by omega) (cuj up tk n 2) (by omega) u0.1 u1.1 u2.1 hw
      have f2 := fu_1 (cuj up tk n 2) (by omega)
      rw [e0, e1] at f
      rw [c]
      show 0 + (Fu (up (tk ((0 : Nat) : Int))).toNat + (if ca (tk ((0 : Nat) : Int)) < 0 then (2 : Int) else 0)) + (Fu (up (tk ((1 : Nat) : Int))).toNat + (if ca (tk ((1 : Nat) : Int)) < 0 then (2 : Int) else 0)) ≤ 28
      rw [if_neg (by omega), if_neg (by omega)]
      omega
    · have m := ht.2.2 (by omega)
      have m0 : 0 ≤ ca (tk ((0 : Nat) : Int)) := m 0 (by decide) (by omega)
      have m1 : 0 ≤ ca (tk ((1 : Nat) : Int)) := m 1 (by decide) (by omega)
      have m2 : 0 ≤ ca (tk ((2 : Nat) : Int)) := m 2 (by decide) (by omega)
      have e0 : cuj up tk n 0 = (up (tk ((0 : Nat) : Int))).toNat := g 0 (by omega)
      have e1 : cuj up tk n 1 = (up (tk ((1 : Nat) : Int))).toNat := g 1 (by omega)
      have e2 : cuj up tk n 2 = (up (tk ((2 : Nat) : Int))).toNat := g 2 (by omega)
      have f := fu_3 (cuj up tk n 0) (by omega) (cuj up tk n 1) (by omega) (cuj up tk n 2) (by omega) u0.1 u1.1 u2.1 hw
      rw [e0, e1, e2] at f
      rw [c]
      show 0 + (Fu (up (tk ((0 : Nat) : Int))).toNat + (if ca (tk ((0 : Nat) : Int)) < 0 then (2 : Int) else 0)) + (Fu (up (tk ((1 : Nat) : Int))).toNat + (if ca (tk ((1 : Nat) : Int)) < 0 then (2 : Int) else 0)) + (Fu (up (tk ((2 : Nat) : Int))).toNat + (if ca (tk ((2 : Nat) : Int)) < 0 then (2 : Int) else 0)) ≤ 28
      rw [if_neg (by omega), if_neg (by omega), if_neg (by omega)]
      omega
  have hup : ∀ i : Nat, (i : Int) < n → (up (((tk i).toNat : Nat) : Int)).toNat = (up (tk i)).toNat := fun i hi => by rw [(ta i hi).1]
  have S := iN_s (us := us) (a := fun i => (tk i).toNat) (f := fun k => 23 * (e k : Int) + bJ ((fun k : Nat => (up k).toNat) k) (J k) - 2 * w k) (G := fun i => Fu (up (tk i)).toNat + (if ca (tk i) < 0 then (2 : Int) else 0)) (m := n.toNat) (n := cn) hm (fun i hi => by
    have z := kk i (by omega)
    have f := fu_1 (up (tk i)).toNat (by omega)
    have z6 := z.1.2.2.2.2.2
    dsimp only
    rw [hup i (by omega)]
    refine ⟨?_, by omega⟩
    split <;> omega)
  have bp : ∀ k : Nat, k < cn → 0 ≤ (fun k => bJ ((fun k : Nat => (up k).toNat) k) (J k)) k := fun k _ => bj_p _ _
  have M := iN_m (us := us) (a := fun i => (tk i).toNat) (f := fun k => bJ ((fun k : Nat => (up k).toNat) k) (J k)) (m := n.toNat) (n := cn) hm bp
  have Q := sl_d (us := iN us (fun i => (tk i).toNat) n.toNat) (a := fun i => (tk i).toNat) (f := fun k => bJ ((fun k : Nat => (up k).toNat) k) (J k)) (m := n.toNat) (n := cn) hm hd mem bp
  have eQ : sm n.toNat (fun i => bJ (up (((tk i).toNat : Nat) : Int)).toNat (J (tk i).toNat)) = sm n.toNat (fun i => bJ (up (tk i)).toNat (J (tk i).toNat)) := sm_eq (fun i hi => by rw [hup i (by omega)])
  have Q2 : sm n.toNat (fun i => bJ (up (tk i)).toNat (J (tk i).toNat)) ≤ sbs (iN us (fun i => (tk i).toNat) n.toNat) (fun k => bJ (up (k : Int)).toNat (J k)) cn := by
    rw [← eQ]; exact Q
  have D1 := iN_p (us := us) (a := fun i => (tk i).toNat) (B := B) (m := n.toNat) (n := cn) hm
  have D2 := pl_d (us := iN us (fun i => (tk i).toNat) n.toNat) (a := fun i => (tk i).toNat) (B := B) (m := n.toNat) (n := cn) hm hd mem
  refine ⟨iN us (fun i => (tk i).toNat) n.toNat, max Jm (cnt (fun i => J (tk i).toNat) n.toNat), ?_, ?_, by omega, ?_⟩
  · have eall : ((all.toNat : Nat) : Int) = all := by omega
    have eL : ((L.toNat : Nat) : Int) = L := by omega
    rw [← eall] at r1
    rw [← eL] at cJ
    have a1 := Int.natCast_dvd_natCast.mp r1
    have a2 := Int.natCast_dvd_natCast.mp cJ
    unfold lcmI
    refine Int.natCast_dvd_natCast.mpr (Nat.lcm_dvd ?_ ?_)
    · exact Nat.dvd_trans a1 (Nat.mul_dvd_mul (Nat.pow_dvd_pow 1000 (Nat.le_max_left _ _)) D1)
    · exact Nat.dvd_trans a2 (Nat.mul_dvd_mul (Nat.pow_dvd_pow 1000 (Nat.le_max_right _ _)) D2)
  · refine Int.le_trans S ?_
    omega
  · rcases Nat.le_total Jm (cnt (fun i => J (tk i).toNat) n.toNat) with q | q
    · rw [Nat.max_eq_right q]
      exact Int.le_trans cj3.2 Q2
    · rw [Nat.max_eq_left q]
      exact Int.le_trans r4 M
theorem pbs_q {us : Nat → Bool} {B e : Nat → Nat} {n : Nat} (h : ∀ k, k < n → B k * B k ≤ 1000 ^ e k) : ∃ H : Nat, (H : Int) = sbs us (fun k => (e k : Int)) n ∧ pbs us B n * pbs us B n ≤ 1000 ^ H := by
  induction n with
  | zero => exact ⟨0, rfl, Nat.le_refl 1⟩
  | succ n ih =>
    obtain ⟨H, h1, h2⟩ := ih (fun k hk => h k (by omega))
    have h3 := h n (by omega)
    refine ⟨H + (if us n = true then e n else 0), ?_, ?_⟩
    · show _ = sm (n + 1) (fun k => if us k = true then (e k : Int) else 0)
      rw [sm_s]
      have h1' : (H : Int) = sm n (fun k => if us k = true then (e k : Int) else 0) := h1
      split <;> omega
    · show pbs us B n * (if us n = true then B n else 1) * (pbs us B n * (if us n = true then B n else 1)) ≤ _
      rw [Nat.pow_add]
      split
      · calc pbs us B n * B n * (pbs us B n * B n) = pbs us B n * pbs us B n * (B n * B n) := by simp only [Nat.mul_assoc, Nat.mul_comm, Nat.mul_left_comm]
          _ ≤ 1000 ^ H * 1000 ^ e n := Nat.mul_le_mul h2 h3
      · rw [Nat.mul_one, Nat.pow_zero, Nat.mul_one]
        exact h2
theorem ra_b {ov un st up ca : Int → Int} {cn t : Nat} {J B e : Nat → Nat} {w : Nat → Int} {all : Int} (hk : ka_ok ov un st up ca cn J B e w) (h : ra_ok cn (fun k => (up k).toNat) J B e w t all) (ht : t ≤ 24) (hw : sm cn w ≤ 1488) (ha : 1 ≤ all) : all < wB 50 := by
  obtain ⟨us, Jm, r1, r2, r3, r4⟩ := h
  obtain ⟨H, h1, h2⟩ := pbs_q (us := us) (B := B) (e := e) (n := cn) (fun k hk2 => (hk k hk2).1.2.2.2.2.1)
  rw [sbs_c] at r2
  have l := sbs_l (us := us) (f := w) (n := cn) (fun k hk2 => (hk k hk2).2.1)
  have b : 2 * Jm + H ≤ 160 := by
    rw [← h1] at r2
    have c : Jm = 0 ∨ Jm = 1 ∨ Jm = 2 ∨ Jm = 3 := by omega
    rcases c with c | c | c | c <;> subst c
    · have p : pen 0 = 0 := rfl
      omega
    · have p : pen 1 = 19 := rfl
      omega
    · have p : pen 2 = 38 := rfl
      omega
    · have p : pen 3 = 95 := rfl
      omega
  have pp : 0 < pbs us B cn := by
    have q : ∀ m : Nat, m ≤ cn → 0 < pbs us B m := fun m => by
      induction m with
      | zero => exact fun _ => Nat.one_pos
      | succ m ih =>
        intro hm
        show 0 < pbs us B m * (if us m = true then B m else 1)
        refine Nat.mul_pos (ih (by omega)) ?_
        split
        · exact (hk m (by omega)).1.2.2.1
        · exact Nat.one_pos
    exact q cn (Nat.le_refl cn)
  have a1 : all ≤ ((1000 ^ Jm * pbs us B cn : Nat) : Int) := Int.le_of_dvd (by
    have := Nat.mul_pos (Nat.pow_pos (n := Jm) (show 0 < 1000 by decide)) pp
    omega) r1
  have a2 : (1000 ^ Jm * pbs us B cn) * (1000 ^ Jm * pbs us B cn) ≤ 1000 ^ 160 := by
    calc (1000 ^ Jm * pbs us B cn) * (1000 ^ Jm * pbs us B cn) = 1000 ^ Jm * 1000 ^ Jm * (pbs us B cn * pbs us B cn) := by simp only [Nat.mul_assoc, Nat.mul_comm, Nat.mul_left_comm]
      _ ≤ 1000 ^ Jm * 1000 ^ Jm * 1000 ^ H := Nat.mul_le_mul_left _ h2
      _ = 1000 ^ (2 * Jm + H) := by rw [← Nat.pow_add, ← Nat.pow_add, Nat.two_mul]
      _ ≤ 1000 ^ 160 := Nat.pow_le_pow_right (by decide) b
  have a3 : (1000 : Nat) ^ 160 < 65536 ^ 50 * 65536 ^ 50 := by decide +kernel
  have a4 : 1000 ^ Jm * pbs us B cn < 65536 ^ 50 := by
    rcases Nat.lt_or_ge (1000 ^ Jm * pbs us B cn) (65536 ^ 50) with q | q
    · exact q
    · have z := Nat.mul_le_mul q q
      omega
  refine Int.lt_of_le_of_lt a1 ?_
  show _ < (65536 : Int) ^ 50
  have z : ((65536 ^ 50 : Nat) : Int) = (65536 : Int) ^ 50 := by rw [Int.natCast_pow]; rfl
  rw [← z]
  omega
end C82
