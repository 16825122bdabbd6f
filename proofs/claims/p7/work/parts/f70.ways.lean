/-! the model: ways of a choice, sums by where they lead -/
section C70
theorem sm_app {n m : Nat} {f : Nat → Int} : sm (n + m) f = sm n f + sm m (fun i => f (n + i)) := by
  induction m with
  | zero =>
    show sm n f = sm n f + 0
    omega
  | succ m ih =>
    show sm (n + m) f + f (n + m) = sm n f + (sm m (fun i => f (n + i)) + f (n + m))
    omega
theorem sm_pr {a b : Nat} (f : Nat → Nat → Int) (hb : 0 < b) : sm (a * b) (fun w => f (w / b) (w % b)) = sm a (fun x => sm b (fun y => f x y)) := by
  induction a with
  | zero => rw [Nat.zero_mul]; rfl
  | succ a ih =>
    rw [Nat.succ_mul, sm_app, sm_s, ih]
    have e : sm b (fun i => f ((a * b + i) / b) ((a * b + i) % b)) = sm b (fun y => f a y) := sm_eq (fun y hy => by
      rw [Nat.mul_comm a b, Nat.mul_add_div hb, Nat.div_eq_of_lt hy, Nat.add_zero, Nat.mul_add_mod, Nat.mod_eq_of_lt hy])
    rw [e]
theorem sm_dv {n : Nat} {f : Nat → Int} {d : Int} (h : ∀ i, i < n → d ∣ f i) : d ∣ sm n f := by
  induction n with
  | zero => exact ⟨0, (Int.mul_zero d).symm⟩
  | succ n ih => exact Int.dvd_add (ih (fun i hi => h i (by omega))) (h n (by omega))
/-- a command's chances: weights over P, those that matter divide A -/
def wej_ok (u : Nat) (un ov : Nat → Int) (tr : Nat → Prop) (A P : Int) : Prop := 1 ≤ P ∧ (∀ c, c < u → ¬ tr c → un c ∣ A * ov c) ∧ (∀ c, c < u → un c ∣ P ∧ 1 ≤ un c ∧ 1 ≤ ov c) ∧ sm u (fun c => P / un c * ov c) = P
theorem cl_1 {u : Nat} {un ov ph : Nat → Int} {tr : Nat → Prop} {A P : Int} (h : wej_ok u un ov tr A P) (hp : ∀ c e, c < u → e < u → tr c → tr e → ph c = ph e) : P ∣ A * sm u (fun c => P / un c * ov c * ph c) := by
  obtain ⟨h0, hA, hd, hs⟩ := h
  have ht : ∃ t : Int, ∀ c, c < u → tr c → ph c = t := by
    by_cases h : ∃ c, c < u ∧ tr c
    · obtain ⟨e, h1, h2⟩ := h
      exact ⟨ph e, fun c h3 h4 => hp c e h3 h1 h4 h2⟩
    · exact ⟨0, fun c h3 h4 => absurd ⟨c, h3, h4⟩ h⟩
  obtain ⟨t, ht⟩ := ht
  have e : sm u (fun c => P / un c * ov c * (ph c - t)) = sm u (fun c => P / un c * ov c * ph c) - t * sm u (fun c => P / un c * ov c) := sm_sub
  have e1 : sm u (fun c => A * (P / un c * ov c * (ph c - t))) = A * sm u (fun c => P / un c * ov c * (ph c - t)) := sm_m
  have e2 : A * sm u (fun c => P / un c * ov c * ph c) = sm u (fun c => A * (P / un c * ov c * (ph c - t))) + P * (A * t) := by
    rw [e1, e, hs, Int.mul_sub, show A * (t * P) = P * (A * t) by rw [Int.mul_comm t P, Int.mul_left_comm]]
    omega
  rw [e2]
  refine Int.dvd_add (sm_dv (fun c hc => ?_)) ⟨A * t, rfl⟩
  by_cases h : tr c
  · rw [ht c hc h, Int.sub_self, Int.mul_zero, Int.mul_zero]
    exact ⟨0, (Int.mul_zero P).symm⟩
  · obtain ⟨⟨p, hp1⟩, h1, _⟩ := hd c hc
    obtain ⟨a, ha⟩ := hA c hc h
    have q : P / un c = p := by
      rw [hp1]
      exact Int.mul_ediv_cancel_left p (by omega)
    refine ⟨a * (ph c - t), ?_⟩
    calc A * (P / un c * ov c * (ph c - t)) = p * (A * ov c) * (ph c - t) := by
          rw [q]
          simp only [Int.mul_assoc, Int.mul_comm, Int.mul_left_comm]
      _ = p * (un c * a) * (ph c - t) := by rw [ha]
      _ = un c * p * (a * (ph c - t)) := by simp only [Int.mul_assoc, Int.mul_comm, Int.mul_left_comm]
      _ = P * (a * (ph c - t)) := by rw [← hp1]
theorem cl_s {u : Nat} {un ov G : Nat → Int} {tr : Nat → Prop} {A P B Q : Int} (h : wej_ok u un ov tr A P) (hQ : 1 ≤ Q) (hG : ∀ x, x < u → Q ∣ B * G x) (hp : ∀ c e, c < u → e < u → tr c → tr e → G c = G e) : P * Q ∣ A * B * sm u (fun x => P / un x * ov x * G x) := by
  obtain ⟨k, hk⟩ := cl_1 (ph := fun x => B * G x / Q) h (fun c e h1 h2 h3 h4 => by
    show B * G c / Q = B * G e / Q
    rw [hp c e h1 h2 h3 h4])
  have e1 : sm u (fun x => B * (P / un x * ov x * G x)) = B * sm u (fun x => P / un x * ov x * G x) := sm_m
  have e2 : sm u (fun x => Q * (P / un x * ov x * (B * G x / Q))) = Q * sm u (fun x => P / un x * ov x * (B * G x / Q)) := sm_m
  have e3 : sm u (fun x => B * (P / un x * ov x * G x)) = sm u (fun x => Q * (P / un x * ov x * (B * G x / Q))) := sm_eq (fun x hx => by
    have z : Q * (B * G x / Q) = B * G x := Int.mul_ediv_cancel' (hG x hx)
    calc B * (P / un x * ov x * G x) = P / un x * ov x * (B * G x) := Int.mul_left_comm _ _ _
      _ = P / un x * ov x * (Q * (B * G x / Q)) := by rw [z]
      _ = Q * (P / un x * ov x * (B * G x / Q)) := Int.mul_left_comm _ _ _)
  refine ⟨k, ?_⟩
  calc A * B * sm u (fun x => P / un x * ov x * G x) = A * (B * sm u (fun x => P / un x * ov x * G x)) := Int.mul_assoc _ _ _
    _ = A * (Q * sm u (fun x => P / un x * ov x * (B * G x / Q))) := by rw [← e1, e3, e2]
    _ = Q * (A * sm u (fun x => P / un x * ov x * (B * G x / Q))) := Int.mul_left_comm _ _ _
    _ = Q * (P * k) := by rw [hk]
    _ = P * Q * k := by rw [Int.mul_left_comm, Int.mul_assoc]
section tri
variable {u0 u1 u2 : Nat} {n0 v0 n1 v1 n2 v2 : Nat → Int} {t0 t1 t2 : Nat → Prop} {A0 A1 A2 P0 P1 P2 : Int}
/-- what a way weighs -/
def wW (u1 u2 : Nat) (n0 v0 n1 v1 n2 v2 : Nat → Int) (P0 P1 P2 : Int) (w : Nat) : Int := P0 / n0 (w / u2 / u1) * v0 (w / u2 / u1) * (P1 / n1 (w / u2 % u1) * v1 (w / u2 % u1) * (P2 / n2 (w % u2) * v2 (w % u2)))
theorem wW_s (h1 : 0 < u1) (h2 : 0 < u2) (ph : Nat → Nat → Nat → Int) : sm (u0 * u1 * u2) (fun w => wW u1 u2 n0 v0 n1 v1 n2 v2 P0 P1 P2 w * ph (w / u2 / u1) (w / u2 % u1) (w % u2)) = sm u0 (fun x => P0 / n0 x * v0 x * sm u1 (fun y => P1 / n1 y * v1 y * sm u2 (fun z => P2 / n2 z * v2 z * ph x y z))) := by
  have e1 := sm_pr (a := u0 * u1) (b := u2) (fun v z => P0 / n0 (v / u1) * v0 (v / u1) * (P1 / n1 (v % u1) * v1 (v % u1) * (P2 / n2 z * v2 z)) * ph (v / u1) (v % u1) z) h2
  have e2 := sm_pr (a := u0) (b := u1) (fun x y => sm u2 (fun z => P0 / n0 x * v0 x * (P1 / n1 y * v1 y * (P2 / n2 z * v2 z)) * ph x y z)) h1
  refine e1.trans (e2.trans (sm_eq (fun x _ => ?_)))
  refine Eq.trans (sm_eq (fun y _ => ?_)) (sm_m (p := P0 / n0 x * v0 x) (f := fun y => P1 / n1 y * v1 y * sm u2 (fun z => P2 / n2 z * v2 z * ph x y z)))
  have e3 : sm u2 (fun z => (P0 / n0 x * v0 x * (P1 / n1 y * v1 y)) * (P2 / n2 z * v2 z * ph x y z)) = (P0 / n0 x * v0 x * (P1 / n1 y * v1 y)) * sm u2 (fun z => P2 / n2 z * v2 z * ph x y z) := sm_m
  refine Eq.trans (sm_eq (fun z _ => ?_)) (e3.trans (Int.mul_assoc _ _ _))
  simp only [Int.mul_assoc]
theorem sm_c {u : Nat} {f : Nat → Int} {c : Int} : sm u (fun x => f x * c) = sm u f * c := by
  rw [Int.mul_comm, ← sm_m]
  exact sm_eq (fun x _ => Int.mul_comm _ _)
theorem wW_1 (hu1 : 0 < u1) (hu2 : 0 < u2) (h0 : wej_ok u0 n0 v0 t0 A0 P0) (h1 : wej_ok u1 n1 v1 t1 A1 P1) (h2 : wej_ok u2 n2 v2 t2 A2 P2) : sm (u0 * u1 * u2) (wW u1 u2 n0 v0 n1 v1 n2 v2 P0 P1 P2) = P0 * (P1 * (P2 * 1)) := by
  have e := wW_s (u0 := u0) (u1 := u1) (u2 := u2) (n0 := n0) (v0 := v0) (n1 := n1) (v1 := v1) (n2 := n2) (v2 := v2) (P0 := P0) (P1 := P1) (P2 := P2) hu1 hu2 (fun _ _ _ => 1)
  have e4 : sm (u0 * u1 * u2) (fun w => wW u1 u2 n0 v0 n1 v1 n2 v2 P0 P1 P2 w * 1) = sm (u0 * u1 * u2) (wW u1 u2 n0 v0 n1 v1 n2 v2 P0 P1 P2) := sm_eq (fun w _ => Int.mul_one _)
  have e2 : sm u2 (fun z => P2 / n2 z * v2 z * 1) = P2 * 1 := by rw [sm_c, h2.2.2.2]
  have e1 : sm u1 (fun y => P1 / n1 y * v1 y * (P2 * 1)) = P1 * (P2 * 1) := by rw [sm_c, h1.2.2.2]
  have e0 : sm u0 (fun y => P0 / n0 y * v0 y * (P1 * (P2 * 1))) = P0 * (P1 * (P2 * 1)) := by rw [sm_c, h0.2.2.2]
  rw [← e4]
  refine e.trans ?_
  refine Eq.trans (sm_eq (fun x _ => ?_)) e0
  rw [e2, e1]
theorem wW_d (hu1 : 0 < u1) (hu2 : 0 < u2) (h0 : wej_ok u0 n0 v0 t0 A0 P0) (h1 : wej_ok u1 n1 v1 t1 A1 P1) (h2 : wej_ok u2 n2 v2 t2 A2 P2) (ph : Nat → Nat → Nat → Int) (hp : ∀ x y z x' y' z', x < u0 → y < u1 → z < u2 → x' < u0 → y' < u1 → z' < u2 → (x = x' ∨ (t0 x ∧ t0 x')) → (y = y' ∨ (t1 y ∧ t1 y')) → (z = z' ∨ (t2 z ∧ t2 z')) → ph x y z = ph x' y' z') : P0 * (P1 * (P2 * 1)) ∣ A0 * (A1 * (A2 * 1)) * sm (u0 * u1 * u2) (fun w => wW u1 u2 n0 v0 n1 v1 n2 v2 P0 P1 P2 w * ph (w / u2 / u1) (w / u2 % u1) (w % u2)) := by
  rw [wW_s hu1 hu2]
  have p2 : 1 ≤ P2 * 1 := by have := h2.1; omega
  have p1 : 1 ≤ P1 * (P2 * 1) := by
    have := Int.mul_pos (show 0 < P1 by have := h1.1; omega) (show 0 < P2 * 1 by omega)
    omega
  refine cl_s h0 p1 (fun x hx => cl_s h1 p2 (fun y hy => cl_s h2 (by decide) (fun z hz => ⟨_, (Int.one_mul _).symm⟩) (fun c e a1 a2 a3 a4 => hp _ _ _ _ _ _ hx hy a1 hx hy a2 (Or.inl rfl) (Or.inl rfl) (Or.inr ⟨a3, a4⟩))) (fun c e a1 a2 a3 a4 => ?_)) (fun c e a1 a2 a3 a4 => ?_)
  · exact sm_eq (fun z hz => by rw [hp x c z x e z hx a1 hz hx a2 hz (Or.inl rfl) (Or.inr ⟨a3, a4⟩) (Or.inl rfl)])
  · exact sm_eq (fun y hy => by
      have e5 : sm u2 (fun z => P2 / n2 z * v2 z * ph c y z) = sm u2 (fun z => P2 / n2 z * v2 z * ph e y z) := sm_eq (fun z hz => by rw [hp c y z e y z a1 hy hz a2 hy hz (Or.inr ⟨a3, a4⟩) (Or.inl rfl) (Or.inl rfl)])
      rw [e5])
end tri
/-- lowest terms -/
theorem gd_n {a b : Nat} : gd (a : Int) (b : Int) = ((Nat.gcd a b : Nat) : Int) := by
  unfold gd
  rw [Int.toNat_natCast, Int.toNat_natCast]
theorem co_dv {x y D : Int} (hx : 0 ≤ x) (hy : 0 ≤ y) (h : gd x y = 1) (hd : y ∣ x * D) : y ∣ D := by
  obtain ⟨a, rfl⟩ := Int.eq_ofNat_of_zero_le hx
  obtain ⟨b, rfl⟩ := Int.eq_ofNat_of_zero_le hy
  rw [gd_n] at h
  have h1 : Nat.gcd a b = 1 := by omega
  have h2 : b ∣ a * D.natAbs := by
    have h3 := Int.natAbs_dvd_natAbs.mpr hd
    rw [Int.natAbs_mul] at h3
    exact h3
  have h4 : b ∣ Nat.gcd (a * D.natAbs) (b * D.natAbs) := Nat.dvd_gcd h2 (Nat.dvd_mul_right b _)
  rw [Nat.gcd_mul_right, h1, Nat.one_mul] at h4
  exact Int.ofNat_dvd_left.mpr h4
/-- a part in lowest terms: x over y is N over M -/
theorem lv_1 {N M x y : Int} (h : lo_v N M x y) (hN : 1 ≤ N) (hM : 1 ≤ M) : ∃ g : Int, 1 ≤ g ∧ N = g * x ∧ M = g * y ∧ 1 ≤ x ∧ 1 ≤ y ∧ gd x y = 1 := by
  obtain ⟨h1, h2⟩ := h.elim fun _ h => h.2 hN
  have g0 := gd_pos (a := N) (b := M) hN
  have g1 := gd_dl (a := N) (b := M) (by omega) (by omega)
  obtain ⟨p, hp⟩ := g1.1
  obtain ⟨q, hq⟩ := g1.2
  have ex : x = p := by
    rw [h1]
    refine (congrArg (fun t => t / gd N M) hp).trans ?_
    exact Int.mul_ediv_cancel_left p (by omega)
  have ey : y = q := by
    rw [h2]
    refine (congrArg (fun t => t / gd N M) hq).trans ?_
    exact Int.mul_ediv_cancel_left q (by omega)
  have px : 1 ≤ x := by
    rw [ex]
    rcases Int.lt_or_le 0 p with r | r
    · omega
    · have := Int.mul_nonpos_of_nonneg_of_nonpos (show 0 ≤ gd N M by omega) r
      omega
  have py : 1 ≤ y := by
    rw [ey]
    rcases Int.lt_or_le 0 q with r | r
    · omega
    · have := Int.mul_nonpos_of_nonneg_of_nonpos (show 0 ≤ gd N M by omega) r
      omega
  refine ⟨gd N M, g0, by rw [ex]; exact hp, by rw [ey]; exact hq, px, py, ?_⟩
  obtain ⟨a, ea⟩ := Int.eq_ofNat_of_zero_le (show 0 ≤ N by omega)
  obtain ⟨b, eb⟩ := Int.eq_ofNat_of_zero_le (show 0 ≤ M by omega)
  rw [h1, h2, ea, eb, gd_n, ← Int.natCast_ediv, ← Int.natCast_ediv, gd_n, Nat.gcd_div (Nat.gcd_dvd_left a b) (Nat.gcd_dvd_right a b), Nat.div_self (Nat.gcd_pos_of_pos_left b (by omega))]
  rfl
theorem fs_1 {p q x y D : Int} (h : lo_v p q x y) (hp : 1 ≤ p) (hq : 1 ≤ q) (hD : q ∣ D) : 1 ≤ y ∧ 1 ≤ x ∧ gd x y = 1 ∧ y ∣ D ∧ D / y * x = D / q * p := by
  obtain ⟨g, h0, h1, h2, h3, h4, h5⟩ := lv_1 h hp hq
  obtain ⟨k, hk⟩ := hD
  have e1 : D = y * (g * k) := by rw [hk, h2, Int.mul_comm g y, Int.mul_assoc]
  refine ⟨h4, h3, h5, ⟨_, e1⟩, ?_⟩
  have e2 : D / y = g * k := by
    rw [e1]
    exact Int.mul_ediv_cancel_left _ (by omega)
  have e3 : D / q = k := by
    rw [hk]
    exact Int.mul_ediv_cancel_left _ (by omega)
  rw [e2, e3, h1]
  simp only [Int.mul_comm, Int.mul_left_comm]
theorem fs_2 {a b p q x y D : Int} (h : lo_v (a * q + b * p) (b * q) x y) (ha : 1 ≤ a) (hb : 1 ≤ b) (hp : 1 ≤ p) (hq : 1 ≤ q) (hbD : b ∣ D) (hqD : q ∣ D) : 1 ≤ y ∧ 1 ≤ x ∧ gd x y = 1 ∧ y ∣ D ∧ D / y * x = D / b * a + D / q * p := by
  have m1 := Int.mul_pos (show 0 < a by omega) (show 0 < q by omega)
  have m2 := Int.mul_pos (show 0 < b by omega) (show 0 < p by omega)
  have m3 := Int.mul_pos (show 0 < b by omega) (show 0 < q by omega)
  obtain ⟨g, h0, h1, h2, h3, h4, h5⟩ := lv_1 h (by omega) (by omega)
  obtain ⟨k, hk⟩ := hbD
  obtain ⟨l, hl⟩ := hqD
  have e : x * D = y * (k * a + l * p) := by
    have e1 : g * (x * D) = g * (y * (k * a + l * p)) := by
      calc g * (x * D) = (g * x) * D := (Int.mul_assoc _ _ _).symm
        _ = (a * q + b * p) * D := by rw [← h1]
        _ = a * q * D + b * p * D := Int.add_mul _ _ _
        _ = a * q * (b * k) + b * p * (q * l) := by rw [← hk, ← hl]
        _ = (b * q) * (k * a) + (b * q) * (l * p) := by simp only [Int.mul_assoc, Int.mul_comm, Int.mul_left_comm]
        _ = (b * q) * (k * a + l * p) := (Int.mul_add _ _ _).symm
        _ = (g * y) * (k * a + l * p) := by rw [← h2]
        _ = g * (y * (k * a + l * p)) := Int.mul_assoc _ _ _
    exact Int.eq_of_mul_eq_mul_left (by omega) e1
  obtain ⟨m, hm⟩ := co_dv (x := x) (by omega) (by omega) h5 ⟨_, e⟩
  refine ⟨h4, h3, h5, ⟨m, hm⟩, ?_⟩
  have e2 : D / y = m := by
    rw [hm]
    exact Int.mul_ediv_cancel_left _ (by omega)
  have e3 : D / b = k := by
    rw [hk]
    exact Int.mul_ediv_cancel_left _ (by omega)
  have e4 : D / q = l := by
    rw [hl]
    exact Int.mul_ediv_cancel_left _ (by omega)
  rw [e2, e3, e4]
  have e5 : y * (m * x) = y * (k * a + l * p) := by
    rw [← e]
    refine Eq.trans ?_ (congrArg (fun t => x * t) hm.symm)
    simp only [Int.mul_comm, Int.mul_left_comm]
  exact Int.eq_of_mul_eq_mul_left (by omega) e5
/-- the ways of a choice so far, by where they lead -/
def ocm_ok (go ab be : Int → Int) (f0 oc D : Int) (W dst : Nat → Int) (w : Nat) : Prop := ∃ _ : Unit, (f0 ≤ oc ∧ oc ≤ f0 + w) ∧ (∀ o : Int, f0 ≤ o → o < oc → (1 ≤ bw be (o * 20) ∧ 1 ≤ bw ab (o * 20) ∧ gd (bw ab (o * 20)) (bw be (o * 20)) = 1 ∧ bw be (o * 20) ∣ D) ∧ D / bw be (o * 20) * bw ab (o * 20) = sm w (fun i => if dst i = go o then W i else 0)) ∧ (∀ o p : Int, f0 ≤ o → o < p → p < oc → ¬ go o = go p) ∧ ∀ i : Nat, i < w → ∃ o : Int, f0 ≤ o ∧ o < oc ∧ go o = dst i
def dn (dst : Nat → Int) (w : Nat) (s : Int) (i : Nat) : Int := if i = w then s else dst i
theorem dn_w {dst : Nat → Int} {w : Nat} {s : Int} : dn dst w s w = s := if_pos rfl
theorem dn_n {dst : Nat → Int} {w i : Nat} {s : Int} (h : i < w) : dn dst w s i = dst i := if_neg (by omega)
theorem ocm_0 {go ab be : Int → Int} {f0 D : Int} {W dst : Nat → Int} : ocm_ok go ab be f0 f0 D W dst 0 := ⟨(), by omega, fun o h1 h2 => absurd h1 (by omega), fun o p h1 h2 h3 => absurd h1 (by omega), fun i hi => absurd hi (Nat.not_lt_zero i)⟩
theorem oc_b {go ab be : Int → Int} {f0 oc D : Int} {W dst : Nat → Int} {w : Nat} (h : ocm_ok go ab be f0 oc D W dst w) : f0 ≤ oc ∧ oc ≤ f0 + w := h.elim fun _ h => h.1
/-- numbers of an outcome are no greater than D -/
theorem oc_l {go ab be : Int → Int} {f0 oc D o X : Int} {W dst : Nat → Int} {w : Nat} (h : ocm_ok go ab be f0 oc D W dst w) (hW : ∀ i, i < w → 0 ≤ W i) (hS : sm w W ≤ D) (hD : 1 ≤ D) (hX : D < X) (h1 : f0 ≤ o) (h2 : o < oc) : (1 ≤ bw be (o * 20) ∧ bw be (o * 20) < X) ∧ (1 ≤ bw ab (o * 20) ∧ bw ab (o * 20) < X) := by
  obtain ⟨⟨a1, a2, a3, a4⟩, a5⟩ := h.elim fun _ h => h.2.1 o h1 h2
  have b1 := Int.le_of_dvd (by omega) a4
  have b2 : sm w (fun i => if dst i = go o then W i else 0) ≤ sm w W := by
    clear a5 hS h
    induction w with
    | zero => exact Int.le_refl _
    | succ w ih =>
      have c1 := ih (fun i hi => hW i (by omega))
      have c2 := hW w (by omega)
      rw [sm_s, sm_s]
      split <;> omega
  obtain ⟨k, hk⟩ := a4
  have e : D / bw be (o * 20) = k := by
    refine (congrArg (fun t => t / bw be (o * 20)) hk).trans ?_
    exact Int.mul_ediv_cancel_left _ (by omega)
  rw [e] at a5
  have k1 : 1 ≤ k := by
    rcases Int.lt_or_le 0 k with r | r
    · omega
    · have := Int.mul_nonpos_of_nonneg_of_nonpos (show 0 ≤ bw be (o * 20) by omega) r
      omega
  have b3 : 1 * bw ab (o * 20) ≤ k * bw ab (o * 20) := Int.mul_le_mul_of_nonneg_right k1 (by omega)
  omega
theorem oc_new {go ab be A B : Int → Int} {f0 oc D s x y oc' : Int} {W dst : Nat → Int} {w : Nat} (h : ocm_ok go ab be f0 oc D W dst w) (hs : ∀ o : Int, f0 ≤ o → o < oc → ¬ go o = s) (hA : ∀ o : Int, ¬ o = oc → bw A (o * 20) = bw ab (o * 20)) (hB : ∀ o : Int, ¬ o = oc → bw B (o * 20) = bw be (o * 20)) (hx : bw A (oc * 20) = x) (hy : bw B (oc * 20) = y) (hf : 1 ≤ y ∧ 1 ≤ x ∧ gd x y = 1 ∧ y ∣ D ∧ D / y * x = W w) (ho : oc' = oc + 1) : ocm_ok (hw_up go oc s) A B f0 oc' D W (dn dst w s) (w + 1) := by
  subst ho
  refine h.elim fun _ h => ⟨(), by omega, fun o h1 h2 => ?_, fun o p h1 h2 h3 => ?_, fun i hi => ?_⟩
  · by_cases e : o = oc
    · subst e
      rw [hx, hy, hw_up_s]
      refine ⟨⟨hf.1, hf.2.1, hf.2.2.1, hf.2.2.2.1⟩, ?_⟩
      rw [hf.2.2.2.2, sm_s, dn_w, if_pos rfl, sm_0 (fun i hi => ?_), Int.zero_add]
      rw [dn_n hi, if_neg]
      intro q
      obtain ⟨o, b1, b2, b3⟩ := h.2.2.2 i hi
      exact hs o b1 b2 (b3.trans q)
    · have h3 := h.2.1 o h1 (by omega)
      rw [hA o e, hB o e, hw_up_n e]
      refine ⟨h3.1, h3.2.trans ?_⟩
      rw [sm_s, dn_w, if_neg (fun q => hs o h1 (by omega) q.symm), Int.add_zero]
      exact sm_eq (fun i hi => by rw [dn_n hi])
  · by_cases e : p = oc
    · subst e
      rw [hw_up_n (by omega), hw_up_s]
      exact hs o h1 (by omega)
    · rw [hw_up_n (by omega), hw_up_n e]
      exact h.2.2.1 o p h1 h2 (by omega)
  · by_cases e : i = w
    · subst e
      exact ⟨oc, by omega, by omega, by rw [hw_up_s, dn_w]⟩
    · obtain ⟨o, b1, b2, b3⟩ := h.2.2.2 i (by omega)
      exact ⟨o, b1, by omega, by rw [hw_up_n (by omega), dn_n (by omega)]; exact b3⟩
theorem oc_old {go ab be A B : Int → Int} {f0 oc D s x y q : Int} {W dst : Nat → Int} {w : Nat} (h : ocm_ok go ab be f0 oc D W dst w) (hq1 : f0 ≤ q) (hq2 : q < oc) (hs : go q = s) (hA : ∀ o : Int, ¬ o = q → bw A (o * 20) = bw ab (o * 20)) (hB : ∀ o : Int, ¬ o = q → bw B (o * 20) = bw be (o * 20)) (hx : bw A (q * 20) = x) (hy : bw B (q * 20) = y) (hf : 1 ≤ y ∧ 1 ≤ x ∧ gd x y = 1 ∧ y ∣ D ∧ D / y * x = D / bw be (q * 20) * bw ab (q * 20) + W w) : ocm_ok go A B f0 oc D W (dn dst w s) (w + 1) := by
  refine h.elim fun _ h => ⟨(), by omega, fun o h1 h2 => ?_, h.2.2.1, fun i hi => ?_⟩
  · have h3 := h.2.1 o h1 h2
    by_cases e : o = q
    · subst e
      rw [hx, hy]
      refine ⟨⟨hf.1, hf.2.1, hf.2.2.1, hf.2.2.2.1⟩, ?_⟩
      rw [hf.2.2.2.2, h3.2, sm_s, dn_w, hs, if_pos rfl]
      have e5 : sm w (fun i => if dn dst w s i = s then W i else 0) = sm w (fun i => if dst i = s then W i else 0) := sm_eq (fun i hi => by rw [dn_n hi])
      rw [e5]
    · rw [hA o e, hB o e]
      refine ⟨h3.1, h3.2.trans ?_⟩
      have n : ¬ s = go o := fun z => by
        rcases Int.lt_or_le o q with r | r
        · exact h.2.2.1 o q h1 r hq2 (z.symm.trans hs.symm)
        · exact h.2.2.1 q o hq1 (by omega) h2 (hs.trans z)
      rw [sm_s, dn_w, if_neg n, Int.add_zero]
      exact sm_eq (fun i hi => by rw [dn_n hi])
  · by_cases e : i = w
    · subst e
      exact ⟨q, hq1, hq2, by rw [dn_w]; exact hs⟩
    · obtain ⟨o, b1, b2, b3⟩ := h.2.2.2 i (by omega)
      exact ⟨o, b1, b2, by rw [dn_n (by omega)]; exact b3⟩
theorem lcr_dv {A : Int → Int} {a M : Int} {n : Nat} (h : ∀ i : Nat, i < n → 1 ≤ bw A ((a + i) * 20) ∧ bw A ((a + i) * 20) ∣ M) : 1 ≤ lcr A a n ∧ lcr A a n ∣ M := by
  induction n with
  | zero => exact ⟨Int.le_refl 1, ⟨M, (Int.one_mul M).symm⟩⟩
  | succ n ih =>
    obtain ⟨i1, i2⟩ := ih (fun i hi => h i (by omega))
    obtain ⟨h1, h2⟩ := h n (by omega)
    rw [lcr_s]
    generalize lcr A a n = l at *
    generalize bw A ((a + (n : Int)) * 20) = b at *
    clear ih h
    obtain ⟨p, rfl⟩ := Int.eq_ofNat_of_zero_le (show 0 ≤ l by omega)
    obtain ⟨q, rfl⟩ := Int.eq_ofNat_of_zero_le (show 0 ≤ b by omega)
    rw [gd_n, ← Int.natCast_ediv, ← Int.natCast_mul]
    have e : p * (q / Nat.gcd p q) = Nat.lcm p q := by
      unfold Nat.lcm
      rw [Nat.mul_div_assoc p (Nat.gcd_dvd_right p q)]
    rw [e]
    have h3 : 0 < Nat.lcm p q := Nat.lcm_pos (by omega) (by omega)
    refine ⟨by omega, ?_⟩
    have d1 := Int.ofNat_dvd_left.mp i2
    have d2 := Int.ofNat_dvd_left.mp h2
    exact Int.ofNat_dvd_left.mpr (Nat.lcm_dvd d1 d2)
/-- a choice that is complete: where its ways lead, with what chances -/
theorem oc_ch {fo go ab be : Int → Int} {D ns c : Int} {W dst : Nat → Int} {w : Nat} (h : ocm_ok go ab be (fo c) (fo (c + 1)) D W dst w) (hW : ∀ i, i < w → 0 < W i) (hS : sm w W = D) (hD : 1 ≤ D) (hX : D < wB 6) (hd : ∀ i, i < w → 0 ≤ dst i ∧ dst i < ns) (hc : 0 ≤ c ∧ c ≤ 199) (h0 : 0 ≤ fo c) (h1 : fo (c + 1) ≤ 3200) : ch_ok fo go ab be ns c := by
  have hb := oc_b h
  have hl : ∀ o : Int, fo c ≤ o → o < fo (c + 1) → (1 ≤ bw be (o * 20) ∧ bw be (o * 20) < wB 6) ∧ (1 ≤ bw ab (o * 20) ∧ bw ab (o * 20) < wB 6) := fun o q1 q2 => oc_l h (fun i hi => Int.le_of_lt (hW i hi)) (by omega) hD hX q1 q2
  refine h.elim fun _ h => ?_
  have dv : ∀ n : Nat, fo c + n ≤ fo (c + 1) → 1 ≤ lcr be (fo c) n ∧ lcr be (fo c) n ∣ D := fun n hn => lcr_dv (fun i hi => by
    have q := (h.2.1 (fo c + i) (by omega) (by omega)).1
    exact ⟨q.1, q.2.2.2⟩)
  have lo : ∀ n : Nat, fo c + n ≤ fo (c + 1) → lcr be (fo c) n ≤ D := fun n hn => Int.le_of_dvd (by omega) (dv n hn).2
  have hL := dv (fo (c + 1) - fo c).toNat (by omega)
  obtain ⟨m, hm⟩ := hL.2
  have m1 : 1 ≤ m := by
    rcases Int.lt_or_le 0 m with r | r
    · omega
    · have := Int.mul_nonpos_of_nonneg_of_nonpos (show 0 ≤ lcr be (fo c) (fo (c + 1) - fo c).toNat by omega) r
      omega
  have bL : ∀ x : Nat, x < nq fo c → bw be ((fo c + x) * 20) ∣ Lq fo be c := fun x hx => by
    have key : ∀ n : Nat, fo c + n ≤ fo (c + 1) → ∀ y : Nat, y < n → bw be ((fo c + y) * 20) ∣ lcr be (fo c) n := fun n => by
      induction n with
      | zero => exact fun _ y hy => absurd hy (Nat.not_lt_zero y)
      | succ n ih =>
        intro hn y hy
        have i1 := (dv n (by omega)).1
        have i2 := (hl (fo c + n) (by omega) (by omega)).1
        rw [lcr_s]
        by_cases e : y = n
        · subst e
          have g := gd_dl (a := lcr be (fo c) y) (b := bw be ((fo c + y) * 20)) (by omega) (by omega)
          have g0 := gd_pos (a := lcr be (fo c) y) (b := bw be ((fo c + y) * 20)) i1
          obtain ⟨p, hp⟩ := g.1
          obtain ⟨q, hq⟩ := g.2
          have eq : bw be ((fo c + y) * 20) / gd (lcr be (fo c) y) (bw be ((fo c + y) * 20)) = q := by
            refine (congrArg (fun t => t / gd (lcr be (fo c) y) (bw be ((fo c + y) * 20))) hq).trans ?_
            exact Int.mul_ediv_cancel_left _ (by omega)
          rw [eq]
          refine ⟨p, ?_⟩
          calc lcr be (fo c) y * q = gd (lcr be (fo c) y) (bw be ((fo c + y) * 20)) * p * q := by rw [← hp]
            _ = gd (lcr be (fo c) y) (bw be ((fo c + y) * 20)) * q * p := by rw [Int.mul_assoc, Int.mul_comm p q, ← Int.mul_assoc]
            _ = bw be ((fo c + y) * 20) * p := by rw [← hq]
        · exact Int.dvd_trans (ih (by omega) y (by omega)) (Int.dvd_mul_right _ _)
    exact key _ (by omega) x hx
  have eD : ∀ x : Nat, x < nq fo c → D / bw be ((fo c + x) * 20) * bw ab ((fo c + x) * 20) = m * hq fo ab be c x := fun x hx => by
    obtain ⟨k, hk⟩ := bL x hx
    have z := (hl (fo c + x) (by omega) (by unfold nq at hx; omega)).1
    have e1 : Lq fo be c / bw be ((fo c + x) * 20) = k := by
      refine (congrArg (fun t => t / bw be ((fo c + x) * 20)) hk).trans ?_
      exact Int.mul_ediv_cancel_left _ (by omega)
    have e2 : D = bw be ((fo c + x) * 20) * (k * m) := by
      rw [← Int.mul_assoc, ← hk]; exact hm
    have e3 : D / bw be ((fo c + x) * 20) = k * m := by
      refine (congrArg (fun t => t / bw be ((fo c + x) * 20)) e2).trans ?_
      exact Int.mul_ediv_cancel_left _ (by omega)
    unfold hq
    rw [e3, e1, Int.mul_comm k m, Int.mul_assoc]
  obtain ⟨g, hg⟩ := Classical.axiomOfChoice (r := fun (i y : Nat) => i < w → y < nq fo c ∧ go (fo c + y) = dst i) (fun i => by
    by_cases hi : i < w
    · obtain ⟨o, b1, b2, b3⟩ := h.2.2.2 i hi
      refine ⟨(o - fo c).toNat, fun _ => ⟨by unfold nq; omega, ?_⟩⟩
      rw [← b3]
      exact congrArg go (by omega)
    · exact ⟨0, fun q => absurd q hi⟩)
  have tot : sm (nq fo c) (fun x => m * hq fo ab be c x) = sm w W := by
    rw [← sm_all (n := nq fo c) (g := g) (h := W) (fun i hi => (hg i hi).1)]
    refine sm_eq (fun x hx => ?_)
    have hx2 : fo c + x < fo (c + 1) := by unfold nq at hx; omega
    rw [← eD x hx, (h.2.1 (fo c + x) (by omega) hx2).2]
    refine sm_eq (fun i hi => ?_)
    have q := hg i hi
    by_cases e : g i = x
    · rw [if_pos e, if_pos]
      rw [← e]; exact q.2.symm
    · rw [if_neg e, if_neg]
      intro z
      have q1 := q.1
      unfold nq at q1
      rcases Nat.lt_or_ge (g i) x with r | r
      · exact h.2.2.1 (fo c + g i) (fo c + x) (by omega) (by omega) hx2 (q.2.trans z)
      · exact h.2.2.1 (fo c + x) (fo c + g i) (by omega) (by omega) (by omega) (z.symm.trans q.2.symm)
  refine ⟨(), hc, ⟨h0, hb.1, h1⟩, ⟨(), fun n hn => ⟨Int.lt_of_le_of_lt (lo n hn) hX, (dv n hn).1, fun q => ?_⟩⟩, fun x hx => ?_, ?_⟩
  · exact (hl (fo c + n) (by omega) q).1
  · have hx2 : fo c + x < fo (c + 1) := by unfold nq at hx; omega
    refine ⟨?_, ?_⟩
    · have q := h.2.1 (fo c + x) (by omega) hx2
      have e := eD x hx
      rw [q.2] at e
      have pos : 0 < bw be ((fo c + x) * 20) ∧ 0 < bw ab ((fo c + x) * 20) := by omega
      have dp : 0 < D / bw be ((fo c + x) * 20) * bw ab ((fo c + x) * 20) := Int.mul_pos (by
        obtain ⟨k, hk⟩ := q.1.2.2.2
        have e3 : D / bw be ((fo c + x) * 20) = k := by
          refine (congrArg (fun t => t / bw be ((fo c + x) * 20)) hk).trans ?_
          exact Int.mul_ediv_cancel_left _ (by omega)
        rw [e3]
        rcases Int.lt_or_le 0 k with r | r
        · exact r
        · have := Int.mul_nonpos_of_nonneg_of_nonpos (show 0 ≤ bw be ((fo c + x) * 20) by omega) r
          omega) pos.2
      rw [q.2] at dp
      obtain ⟨i, b1, b2⟩ := sm_sp (fun i hi => by
        split
        · exact Int.le_of_lt (hW i hi)
        · exact Int.le_refl _) dp
      by_cases e4 : dst i = go (fo c + x)
      · rw [← e4]; exact hd i b1
      · rw [if_neg e4] at b2
        exact absurd b2 (by decide)
    · have z := hl (fo c + x) (by omega) hx2
      obtain ⟨k, hk⟩ := bL x hx
      have e1 : Lq fo be c / bw be ((fo c + x) * 20) = k := by
        refine (congrArg (fun t => t / bw be ((fo c + x) * 20)) hk).trans ?_
        exact Int.mul_ediv_cancel_left _ (by omega)
      unfold hq
      rw [e1]
      refine Int.mul_pos ?_ (by omega)
      rcases Int.lt_or_le 0 k with r | r
      · exact r
      · have y := Int.mul_nonpos_of_nonneg_of_nonpos (show 0 ≤ bw be ((fo c + x) * 20) by omega) r
        have y2 : 1 ≤ Lq fo be c := hL.1
        omega
  · have e : m * sm (nq fo c) (hq fo ab be c) = m * Lq fo be c := by
      rw [← sm_m, tot, hS, Int.mul_comm]
      exact hm
    exact Int.eq_of_mul_eq_mul_left (by omega) e
/-- what an outcome's denominator divides -/
theorem oc_dv {go ab be : Int → Int} {f0 oc D M o : Int} {W dst : Nat → Int} {w : Nat} (h : ocm_ok go ab be f0 oc D W dst w) (hD : 1 ≤ D) (h1 : f0 ≤ o) (h2 : o < oc) (hd : D ∣ M * sm w (fun i => if dst i = go o then W i else 0)) : bw be (o * 20) ∣ M := by
  obtain ⟨⟨a1, a2, a3, a4⟩, a5⟩ := h.elim fun _ h => h.2.1 o h1 h2
  obtain ⟨k, hk⟩ := a4
  obtain ⟨l, hl⟩ := hd
  have e : D / bw be (o * 20) = k := by
    refine (congrArg (fun t => t / bw be (o * 20)) hk).trans ?_
    exact Int.mul_ediv_cancel_left _ (by omega)
  rw [e] at a5
  rw [← a5] at hl
  refine co_dv (x := bw ab (o * 20)) (by omega) (by omega) a3 ⟨l, ?_⟩
  have k0 : ¬ k = 0 := fun z => by
    rw [z, Int.mul_zero] at hk
    omega
  refine Int.eq_of_mul_eq_mul_left k0 ?_
  calc k * (bw ab (o * 20) * M) = M * (k * bw ab (o * 20)) := by rw [Int.mul_comm M, Int.mul_assoc]
    _ = D * l := hl
    _ = bw be (o * 20) * k * l := by rw [← hk]
    _ = k * (bw be (o * 20) * l) := by rw [Int.mul_comm (bw be (o * 20)) k, Int.mul_assoc]
end C70
