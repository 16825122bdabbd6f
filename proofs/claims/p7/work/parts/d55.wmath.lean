/-! the model's numbers: sums, differences, products, quotients of digits -/
section C55
variable {f g v X Y : Int → Int} {n m k a b c x e c' na nb : Int}
/-- digits, and 0 from n on -/
def wx (f : Int → Int) (n : Int) : Int → Int := fun k => if k < n then f k else 0
theorem wx_l (h : k < n) : wx f n k = f k := if_pos h
theorem wx_r (h : n ≤ k) : wx f n k = 0 := if_neg (by omega)
theorem wv_wx {m t : Nat} (h : m ≤ t) : wv (wx f m) t = wv f m := by
  rw [wv_z (m := m) (fun i h1 _ => wx_r (by omega)) h]
  exact wv_eq (fun i hi => wx_l (by omega))
theorem wd_up {t : Nat} (h : wd v t) (he : 0 ≤ e ∧ e ≤ 65535) : wd (hw_up v t e) (t + 1) := by
  intro i hi
  by_cases q : i = t
  · rw [q, hw_up_s]; exact he
  · rw [hw_up_n (by omega)]; exact h i (by omega)
theorem wd_ui {t : Nat} {i : Int} (h : wd v t) (he : 0 ≤ e ∧ e ≤ 65535) : wd (hw_up v i e) t := by
  intro j hj
  by_cases q : (j : Int) = i
  · rw [q, hw_up_s]; exact he
  · rw [hw_up_n q]; exact h j hj
theorem wv_us {t : Nat} : wv (hw_up v t e) (t + 1) = wv v t + e * 65536 ^ t := by
  rw [wv_s, hw_up_s, wv_eq (f := hw_up v t e) (g := v) (fun j hj => hw_up_n (by omega))]
theorem wh_mk {t : Nat} (hd : wd v t) (hx : wv v t = x) (h : ∀ s : Nat, t = s + 1 → 65536 ^ s ≤ x) : wh_is t v x := by
  refine ⟨t, rfl, hd, fun j hj => ?_, hx⟩
  subst hj
  have h1 := h j rfl
  have h3 := (wv_b (wd_le hd (Nat.le_succ j))).2
  have h2 := hd j (Nat.lt_succ_self j)
  rw [wv_s] at hx
  rcases Int.lt_or_le (v j) 1 with h4 | h4
  · have h5 : v j = 0 := by omega
    rw [h5, Int.zero_mul] at hx
    omega
  · exact h4
theorem wh_ge {t : Nat} (h : wh_is n f a) (hn : n = (t + 1 : Nat)) : 65536 ^ t ≤ a := by
  obtain ⟨k, h1, h2, h3, h4⟩ := h
  obtain rfl : k = t + 1 := by omega
  have h5 := h3 t rfl
  have h6 := (wv_b (wd_le h2 (Nat.le_succ t))).1
  have h9 : 1 * (65536 : Int) ^ t ≤ f t * 65536 ^ t := Int.mul_le_mul_of_nonneg_right h5 (Int.le_of_lt (wp_pos t))
  rw [wv_s] at h4
  omega
theorem wh_v {t : Nat} (h : wh_is n f a) (ht : n ≤ t) : wv (wx f n) t = a := by
  obtain ⟨k, rfl, _, _, h4⟩ := h
  rw [wv_wx (by omega)]
  exact h4
theorem wh_nle (h : wh_is n f a) (h1 : wh_is m g b) (h2 : a ≤ b) : n ≤ m := by
  rcases Int.lt_or_le m n with q | q
  · have := wq_len h1 h q
    omega
  · exact q
theorem wh_nn (h : wh_is n f a) : 0 ≤ n ∧ 0 ≤ a := by
  have h2 := h
  obtain ⟨k, h1, _⟩ := h2
  exact ⟨by omega, wh_pos (k := 0) h⟩
theorem wh_rm {r : Int} (h : wh_is n f a) (h1 : a < 65536 ^ r.toNat) (h2 : 0 ≤ r) : n ≤ r := by
  have := wh_len h h1
  omega
theorem wh_n0 (h : wh_is n f a) (hn : n = 0) : a = 0 := by
  obtain ⟨k, h1, _, _, h4⟩ := h
  obtain rfl : k = 0 := by omega
  exact h4.symm
theorem wh_n1 (h : wh_is n f a) (hn : ¬ n = 0) : 1 ≤ a := by
  have h2 := h
  obtain ⟨k, h1, _⟩ := h2
  obtain ⟨t, rfl⟩ : ∃ t, k = t + 1 := ⟨k - 1, by omega⟩
  have h3 := wh_ge h h1
  have := wp_pos t
  omega
theorem wp_lt {t r : Nat} (h : (65536 : Int) ^ t < 65536 ^ r) : t < r := by
  rcases Nat.lt_or_ge t r with q | q
  · exact q
  · have := wp_le q
    omega
/-- a sum so far -/
def wa_ok (f : Int → Int) (na : Int) (g : Int → Int) (nb : Int) (v : Int → Int) (k c : Int) : Prop := ∃ t : Nat, k = t ∧ wd v t ∧ wv v t + c * 65536 ^ t = wv (wx f na) t + wv (wx g nb) t ∧ ∀ q : Int, k ≤ q → v q = f q
theorem wa_0 : wa_ok f na g nb f 0 0 := ⟨0, rfl, fun i h => absurd h (Nat.not_lt_zero i), rfl, fun _ _ => rfl⟩
theorem wa_s (h : wa_ok f na g nb v k c) (h1 : k < na → k < nb → e + 65536 * c' = c + (v k + g k)) (h2 : k < na → nb ≤ k → e + 65536 * c' = c + v k) (h3 : na ≤ k → k < nb → e + 65536 * c' = c + g k) (h4 : na ≤ k → nb ≤ k → e + 65536 * c' = c) (he : 0 ≤ e ∧ e ≤ 65535) : wa_ok f na g nb (hw_up v k e) (k + 1) c' := by
  obtain ⟨t, rfl, hd, hv, hf⟩ := h
  refine ⟨t + 1, by omega, wd_up hd he, ?_, fun q hq => by rw [hw_up_n (by omega)]; exact hf q (by omega)⟩
  have hk : e + 65536 * c' = c + (wx f na t + wx g nb t) := by
    have hft := hf t (Int.le_refl _)
    rcases Int.lt_or_le (t : Int) na with p | p <;> rcases Int.lt_or_le (t : Int) nb with q | q
    · rw [wx_l p, wx_l q, ← hft]; exact h1 p q
    · rw [wx_l p, wx_r q, ← hft]; have := h2 p q; omega
    · rw [wx_r p, wx_l q]; have := h3 p q; omega
    · rw [wx_r p, wx_r q]; have := h4 p q; omega
  rw [wv_us, wv_s, wv_s, wp_s]
  generalize (65536 : Int) ^ t = P at *
  generalize wx f na t = y at *
  generalize wx g nb t = z at *
  grind
theorem wa_e0 (hi : wh_is na f a) (hj : wh_is nb g b) (h : wa_ok f na g nb v k c) (hk : m = k) (h1 : na ≤ m) (h2 : nb ≤ m) (h3 : m ≤ na ∨ m ≤ nb) (hc : c = 0) : wh_is m v (a + b) := by
  subst hk
  obtain ⟨t, rfl, hd, hv, hf⟩ := h
  rw [wh_v hi h1, wh_v hj h2, hc, Int.zero_mul, Int.add_zero] at hv
  refine wh_mk hd hv (fun s hs => ?_)
  have pa := (wh_nn hi).2
  have pb := (wh_nn hj).2
  rcases h3 with h3 | h3
  · have := wh_ge (t := s) hi (by omega); omega
  · have := wh_ge (t := s) hj (by omega); omega
theorem wa_p (hi : wh_is na f a) (hj : wh_is nb g b) {t : Nat} (h : wa_ok f na g nb v t c) (h1 : na ≤ t) (h2 : nb ≤ t) (hc : 1 ≤ c) : wd v t ∧ wv v t + c * 65536 ^ t = a + b ∧ 65536 ^ t ≤ a + b := by
  obtain ⟨s, hs, hd, hv, hf⟩ := h
  obtain rfl : t = s := by omega
  rw [wh_v hi h1, wh_v hj h2] at hv
  have h3 := (wv_b hd).1
  have h4 : 1 * (65536 : Int) ^ t ≤ c * 65536 ^ t := Int.mul_le_mul_of_nonneg_right hc (Int.le_of_lt (wp_pos t))
  exact ⟨hd, hv, by omega⟩
theorem wa_e1 (hi : wh_is na f a) (hj : wh_is nb g b) (h : wa_ok f na g nb v k c) (hk : m = k) (h1 : na ≤ m) (h2 : nb ≤ m) (hc : 1 ≤ c) (hc2 : c ≤ 65535) : wh_is (m + 1) (hw_up v m c) (a + b) := by
  subst hk
  have h5 := h
  obtain ⟨t, rfl, _⟩ := h5
  obtain ⟨hd, hv, hp⟩ := wa_p hi hj h h1 h2 hc
  have e := wh_mk (t := t + 1) (wd_up hd ⟨by omega, hc2⟩) (wv_us.trans hv) (fun s hs => (show s = t by omega) ▸ hp)
  have e3 : ((t + 1 : Nat) : Int) = (t : Int) + 1 := by omega
  rw [e3] at e
  exact e
theorem wa_r {r : Int} (hi : wh_is na f a) (hj : wh_is nb g b) (h : wa_ok f na g nb v k c) (hk : m = k) (h1 : na ≤ m) (h2 : nb ≤ m) (hc : 1 ≤ c) (hr : a + b < 65536 ^ r.toNat) (hr0 : 0 ≤ r) : m + 1 ≤ r := by
  subst hk
  have h5 := h
  obtain ⟨t, rfl, _⟩ := h5
  obtain ⟨_, _, hp⟩ := wa_p hi hj h h1 h2 hc
  have := wp_lt (Int.lt_of_le_of_lt hp hr)
  omega
/-- a difference so far: x times what is taken away -/
def wl_ok (f g : Int → Int) (nb x : Int) (v : Int → Int) (k c : Int) : Prop := ∃ t : Nat, k = t ∧ wd v t ∧ wv v t + c * 65536 ^ t = wv f t - x * wv (wx g nb) t ∧ ∀ q : Int, k ≤ q → v q = f q
theorem wl_0 : wl_ok f g nb x f 0 0 := ⟨0, rfl, fun i h => absurd h (Nat.not_lt_zero i), by show (0 : Int) + 0 * 1 = 0 - x * 0; omega, fun _ _ => rfl⟩
theorem wl_s (h : wl_ok f g nb x v k c) (h1 : k < nb → e + 65536 * c' = c + (v k - x * g k)) (h2 : nb ≤ k → e + 65536 * c' = c + v k) (he : 0 ≤ e ∧ e ≤ 65535) : wl_ok f g nb x (hw_up v k e) (k + 1) c' := by
  obtain ⟨t, rfl, hd, hv, hf⟩ := h
  refine ⟨t + 1, by omega, wd_up hd he, ?_, fun q hq => by rw [hw_up_n (by omega)]; exact hf q (by omega)⟩
  have hk : e + 65536 * c' = c + (f t - x * wx g nb t) := by
    have hft := hf t (Int.le_refl _)
    rcases Int.lt_or_le (t : Int) nb with q | q
    · rw [wx_l q, ← hft]; exact h1 q
    · rw [wx_r q, ← hft]; have := h2 q; omega
  rw [wv_us, wv_s, wv_s, wp_s]
  generalize (65536 : Int) ^ t = P at *
  generalize wx g nb t = z at *
  generalize f t = y at *
  grind
theorem wl_t {q : Int} (hi : wh_is n f a) (hj : wh_is nb g b) (h : wl_ok f g nb x v k c) (hk : n = k) (hb : b ≤ a) (hab : x * b ≤ a) (hx : 0 ≤ x) (ht : wt_ok v q n) (h0 : 0 ≤ q) (h1 : q ≤ n) (h2 : q ≤ 0 ∨ ¬ v (q - 1) = 0) : wh_is q v (a - x * b) := by
  subst hk
  have hn := wh_nle hj hi hb
  have pb := Int.mul_nonneg hx (wh_nn hj).2
  obtain ⟨t, rfl, hd, hv, hf⟩ := h
  have ha := wh_lt hi
  have h3 := wv_b hd
  have h4 : wv f t = a := by
    obtain ⟨s, hs, _, _, h5⟩ := hi
    obtain rfl : t = s := by omega
    exact h5
  rw [wh_v hj hn, h4] at hv
  have hp := wp_pos t
  have hc : c = 0 := by
    rcases Int.lt_or_le c 1 with q1 | q1
    · rcases Int.lt_or_le c 0 with q2 | q2
      · have h6 : c * 65536 ^ t ≤ (-1) * 65536 ^ t := Int.mul_le_mul_of_nonneg_right (by omega) (Int.le_of_lt hp)
        omega
      · omega
    · have h6 : 1 * 65536 ^ t ≤ c * 65536 ^ t := Int.mul_le_mul_of_nonneg_right q1 (Int.le_of_lt hp)
      omega
  rw [hc, Int.zero_mul, Int.add_zero] at hv
  rw [← hv]
  exact wt_is ht rfl h0 h1 h2 hd
/-- digits that are 0 -/
def wz_ok (v : Int → Int) (k : Int) : Prop := ∃ _ : Unit, ∀ q : Int, 0 ≤ q → q < k → v q = 0
theorem wz_0 : wz_ok v 0 := ⟨(), fun q h1 h2 => absurd h1 (by omega)⟩
theorem wz_s (h : wz_ok v k) : wz_ok (hw_up v k 0) (k + 1) := by
  refine h.elim fun _ h => ⟨(), fun q h1 h2 => ?_⟩
  by_cases e : q = k
  · rw [e, hw_up_s]
  · rw [hw_up_n e]; exact h q h1 (by omega)
/-- a product so far -/
def wm_ok (X Y : Int → Int) (ny : Int) (v : Int → Int) (N a : Int) : Prop := ∃ t s M : Nat, a = t ∧ ny = s ∧ N = M ∧ wd v M ∧ wv v M = wv X t * wv Y s ∧ ∀ q : Int, a + ny ≤ q → q < N → v q = 0
def wn_ok (X Y : Int → Int) (ny : Int) (v : Int → Int) (N a b c : Int) : Prop := ∃ t s M u : Nat, a = t ∧ ny = s ∧ N = M ∧ b = u ∧ wd v M ∧ wv v M + c * 65536 ^ (t + u) = wv X t * wv Y s + X t * wv Y u * 65536 ^ t ∧ ∀ q : Int, a + ny ≤ q → q < N → v q = 0
theorem wz_m {ny N : Int} (h : wz_ok v N) (h1 : 0 ≤ N) (h2 : 0 ≤ ny) : wm_ok X Y ny v N 0 := by
  refine h.elim fun _ h => ?_
  obtain ⟨M, rfl⟩ := Int.eq_ofNat_of_zero_le h1
  obtain ⟨s, rfl⟩ := Int.eq_ofNat_of_zero_le h2
  refine ⟨0, s, M, rfl, rfl, rfl, fun i hi => ?_, ?_, fun q h3 h4 => h q (by omega) h4⟩
  · rw [h i (by omega) (by omega)]; omega
  · rw [wv_z (m := 0) (fun i _ hi => h i (by omega) (by omega)) (Nat.zero_le M)]
    show (0 : Int) = 0 * _
    rw [Int.zero_mul]
theorem wm_n {ny N : Int} (h : wm_ok X Y ny v N a) : wn_ok X Y ny v N a 0 0 := by
  obtain ⟨t, s, M, h1, h2, h3, h4, h5, h6⟩ := h
  refine ⟨t, s, M, 0, h1, h2, h3, rfl, h4, ?_, h6⟩
  rw [h5]
  show _ + 0 * _ = _ + X t * 0 * _
  rw [Int.zero_mul, Int.mul_zero, Int.zero_mul]
theorem wn_s {ny N : Int} (h : wn_ok X Y ny v N a b c) (hz : e + 65536 * c' = c + (v (a + b) + X a * Y b)) (he : 0 ≤ e ∧ e ≤ 65535) (hb : b < ny) (ha : a + ny ≤ N) : wn_ok X Y ny (hw_up v (a + b) e) N a (b + 1) c' := by
  obtain ⟨t, s, M, u, rfl, rfl, rfl, rfl, h4, h5, h6⟩ := h
  refine ⟨t, s, M, u + 1, rfl, rfl, rfl, by omega, wd_ui h4 he, ?_, fun q h7 h8 => by rw [hw_up_n (by omega)]; exact h6 q h7 h8⟩
  have e1 : (t : Int) + (u : Int) = ((t + u : Nat) : Int) := by omega
  rw [e1] at hz ⊢
  rw [wv_up (by omega), wv_s, ← Nat.add_assoc, wp_s]
  rw [Int.pow_add] at h5 ⊢
  generalize (65536 : Int) ^ t = P at *
  generalize (65536 : Int) ^ u = Q at *
  generalize v ((t + u : Nat) : Int) = y at *
  grind
theorem wn_e {ny N : Int} (h : wn_ok X Y ny v N a b c) (hb : b = ny) (ha : a + ny < N) (hc : 0 ≤ c ∧ c ≤ 65535) : wm_ok X Y ny (hw_up v (a + ny) c) N (a + 1) := by
  obtain ⟨t, s, M, u, rfl, rfl, rfl, hu, h4, h5, h6⟩ := h
  obtain rfl : u = s := by omega
  refine ⟨t + 1, u, M, by omega, rfl, rfl, wd_ui h4 hc, ?_, fun q h7 h8 => by rw [hw_up_n (by omega)]; exact h6 q (by omega) h8⟩
  have h9 := h6 (t + u) (by omega) ha
  have e1 : (t : Int) + (u : Int) = ((t + u : Nat) : Int) := by omega
  rw [e1] at h9 ⊢
  rw [wv_up (by omega), wv_s, h9]
  rw [Int.pow_add] at h5 ⊢
  generalize (65536 : Int) ^ t = P at *
  generalize (65536 : Int) ^ u = Q at *
  grind
theorem wm_t {q N nx ny : Int} (hx : wh_is nx X a) (hy : wh_is ny Y b) (h : wm_ok X Y ny v N k) (hk : k = nx) (ht : wt_ok v q N) (h0 : 0 ≤ q) (h1 : q ≤ N) (h2 : q ≤ 0 ∨ ¬ v (q - 1) = 0) : wh_is q v (a * b) := by
  subst hk
  obtain ⟨t, s, M, rfl, rfl, rfl, h4, h5, h6⟩ := h
  obtain ⟨k1, e1, _, _, e2⟩ := hx
  obtain ⟨k2, e3, _, _, e4⟩ := hy
  obtain rfl : t = k1 := by omega
  obtain rfl : s = k2 := by omega
  rw [e2, e4] at h5
  rw [← h5]
  exact wt_is ht rfl h0 h1 h2 h4
theorem wx_b {x y : Int} (h1 : 0 ≤ x ∧ x ≤ 65535) (h2 : 0 ≤ y ∧ y ≤ 65535) : 0 ≤ x * y ∧ x * y ≤ 4294836225 := by
  refine ⟨Int.mul_nonneg h1.1 h2.1, ?_⟩
  have h3 : x * y ≤ 65535 * y := Int.mul_le_mul_of_nonneg_right h1.2 h2.1
  omega
/-- the first digits of a number -/
def wg_ok (f : Int → Int) (k p a : Int) : Prop := ∃ t : Nat, k + 1 = t ∧ wv f t + p * 65536 ^ t = a
theorem wg_0 (h : wh_is n f a) (hk : k = n - 1) : wg_ok f k 0 a := by
  obtain ⟨t, h1, _, _, h4⟩ := h
  exact ⟨t, by omega, by rw [Int.zero_mul, Int.add_zero]; exact h4⟩
theorem wg_st {p q : Int} (h : wg_ok f k p a) (hk : 0 ≤ k) (hq : q = p * 65536 + f k) (hm : m = k - 1) : wg_ok f m q a := by
  subst hm
  obtain ⟨t, h1, h2⟩ := h
  obtain ⟨s, rfl⟩ : ∃ s, t = s + 1 := ⟨t - 1, by omega⟩
  refine ⟨s, by omega, ?_⟩
  obtain rfl : k = s := by omega
  rw [wv_s, wp_s] at h2
  generalize (65536 : Int) ^ s = P at *
  grind
theorem wg_e1 {p : Int} (h : wg_ok f k p a) (hk : k = -1) : p = a := by
  obtain ⟨t, h1, h2⟩ := h
  obtain rfl : t = 0 := by omega
  rw [← h2]
  show p = 0 + p * 1
  omega
theorem wg_e2 {p q z : Int} (hi : wh_is n f a) (hj : wh_is m g b) (h : wg_ok f k p a) (h1 : wg_ok g k q b) (hk : k < n) (hm : k < m) (hp : 0 ≤ p) (hq : 0 ≤ q) (hz : z = p / (q + 1)) : z * b ≤ a := by
  obtain ⟨t, e1, e2⟩ := h
  obtain ⟨s, e3, e4⟩ := h1
  obtain rfl : s = t := by omega
  obtain ⟨k1, q1, d1, _, _⟩ := hi
  obtain ⟨k2, q2, d2, _, _⟩ := hj
  have b1 := (wv_b (wd_le d1 (by omega : s ≤ k1))).1
  have b2 := (wv_b (wd_le d2 (by omega : s ≤ k2))).2
  have hP := wp_pos s
  have hz0 : 0 ≤ z := by rw [hz]; exact Int.ediv_nonneg hp (by omega)
  have h5 : z * (q + 1) ≤ p := by rw [hz]; exact Int.ediv_mul_le p (by omega)
  have h6 : z * b ≤ z * ((q + 1) * 65536 ^ s) := Int.mul_le_mul_of_nonneg_left (by rw [Int.add_mul, Int.one_mul]; omega) hz0
  have h7 : z * (q + 1) * 65536 ^ s ≤ p * 65536 ^ s := Int.mul_le_mul_of_nonneg_right h5 (Int.le_of_lt hP)
  rw [Int.mul_assoc] at h7
  omega
theorem wg_b {z : Int} (h : z * b ≤ a) (h1 : a < 65536 * b) (hb : 1 ≤ b) : z ≤ 65535 := by
  rcases Int.lt_or_le z 65536 with q | q
  · omega
  · have : 65536 * b ≤ z * b := Int.mul_le_mul_of_nonneg_right q (by omega)
    omega
theorem wg_d {z : Int} (hz : z = a / b) (hb : 1 ≤ b) : z * b ≤ a := by rw [hz]; exact Int.ediv_mul_le a (by omega)
/-- what a number's digits were, moved up by one -/
def wj_ok (F v : Int → Int) (n j : Int) : Prop := ∃ _ : Unit, ∀ q : Int, 0 ≤ q → (q ≤ j → v q = F q) ∧ (j < q → q ≤ n → v q = F (q - 1))
theorem wj_0 : wj_ok f f n n := ⟨(), fun q h => ⟨fun _ => rfl, fun h1 h2 => absurd h1 (by omega)⟩⟩
theorem wj_s {j : Int} (h : wj_ok f v n j) (hj : 0 < j) : wj_ok f (hw_up v j (v (j - 1))) n (j - 1) := by
  refine h.elim fun _ h => ⟨(), fun q h0 => ⟨fun h1 => ?_, fun h1 h2 => ?_⟩⟩
  · rw [hw_up_n (by omega)]; exact (h q h0).1 (by omega)
  · by_cases e : q = j
    · rw [e, hw_up_s]; exact (h (j - 1) (by omega)).1 (by omega)
    · rw [hw_up_n e]; exact (h q h0).2 (by omega) h2
theorem wv_sh {t : Nat} (h : ∀ i : Nat, i < t → v (i + 1) = f i) : wv v (t + 1) = v 0 + 65536 * wv f t := by
  induction t with
  | zero =>
    show (0 : Int) + v 0 * 1 = v 0 + 65536 * 0
    omega
  | succ t ih =>
    have h1 := h t (Nat.lt_succ_self t)
    have e : ((t + 1 : Nat) : Int) = (t : Int) + 1 := by omega
    rw [wv_s, ih (fun i hi => h i (Nat.lt_succ_of_lt hi)), wv_s, e, h1, wp_s]
    generalize (65536 : Int) ^ t = P at *
    grind
theorem wj_e {j q : Int} (hF : wh_is n f a) (h : wj_ok f v n j) (hj : j = 0) (hx : 0 ≤ x ∧ x ≤ 65535) (ht : wt_ok (hw_up v 0 x) q (n + 1)) (h0 : 0 ≤ q) (h1 : q ≤ n + 1) (h2 : q ≤ 0 ∨ ¬ hw_up v 0 x (q - 1) = 0) : wh_is q (hw_up v 0 x) (a * 65536 + x) := by
  subst hj
  refine h.elim fun _ h => ?_
  obtain ⟨t, rfl, hd, _, h4⟩ := hF
  have h5 : wv (hw_up v 0 x) (t + 1) = a * 65536 + x := by
    rw [wv_sh (f := f) (fun i hi => ?_), hw_up_s, h4]
    · omega
    · rw [hw_up_n (by omega), (h (i + 1) (by omega)).2 (by omega) (by omega)]
      exact congrArg f (by omega)
  rw [← h5]
  refine wt_is ht (by omega) h0 h1 h2 (fun i hi => ?_)
  by_cases e : (i : Int) = 0
  · rw [e, hw_up_s]; exact hx
  · obtain ⟨s, rfl⟩ : ∃ s, i = s + 1 := ⟨i - 1, by omega⟩
    rw [hw_up_n e, (h _ (by omega)).2 (by omega) (by omega), show ((s + 1 : Nat) : Int) - 1 = s by omega]
    exact hd s (by omega)
def wk_ok (v : Int → Int) (n j a : Int) : Prop := ∃ F : Int → Int, wh_is n F a ∧ wj_ok F v n j
theorem wk_0 (h : wh_is n f a) : wk_ok f n n a := ⟨f, h, wj_0⟩
theorem wk_s {j : Int} (h : wk_ok v n j a) (hj : 0 < j) (hm : m = j - 1) : wk_ok (hw_up v j (v (j - 1))) n m a := by
  obtain ⟨F, h1, h2⟩ := h
  subst hm
  exact ⟨F, h1, wj_s h2 hj⟩
theorem wk_e {j q : Int} (h : wk_ok v n j a) (hj : j = 0) (hx : 0 ≤ x ∧ x ≤ 65535) (ht : wt_ok (hw_up v 0 x) q (n + 1)) (h0 : 0 ≤ q) (h1 : q ≤ n + 1) (h2 : q ≤ 0 ∨ ¬ hw_up v 0 x (q - 1) = 0) : wh_is q (hw_up v 0 x) (a * 65536 + x) := by
  obtain ⟨F, h3, h4⟩ := h
  exact wj_e h3 h4 hj hx ht h0 h1 h2
theorem wk_e2 {u : Int → Int} {y : Int → Int → Int} {j q s : Int} (h : wk_ok (y s) (u s) j a) (hj : j = 0) (hx : 0 ≤ x ∧ x ≤ 65535) (ht : wt_ok (hw_up y s (hw_up (y s) 0 x) s) q (hw_up u s (u s + 1) s)) (h0 : 0 ≤ q) (h1 : q ≤ hw_up u s (u s + 1) s) (h2 : q ≤ 0 ∨ ¬ hw_up y s (hw_up (y s) 0 x) s (q - 1) = 0) : wh_is (hw_up (hw_up u s (u s + 1)) s q s) (hw_up y s (hw_up (y s) 0 x) s) (a * 65536 + x) := by
  simp only [hw_up_s] at *
  exact wk_e h hj hx ht h0 h1 h2
/-- a quotient so far, between digits and within one -/
def wq_ok (X v : Int → Int) (n k R a b : Int) : Prop := ∃ t N : Nat, k + 1 = t ∧ n = N ∧ t ≤ N ∧ wv X t + (wv v N - wv v t) * b + R * 65536 ^ t = a ∧ ∀ j : Nat, t ≤ j → j < N → 0 ≤ v j ∧ v j ≤ 65535
def wr_ok (X v : Int → Int) (n k q R a b : Int) : Prop := ∃ t N : Nat, k = t ∧ n = N ∧ t < N ∧ wv X t + (wv v N - wv v (t + 1)) * b + (q * b + R) * 65536 ^ t = a ∧ q * b + R < 65536 * b ∧ ∀ j : Nat, t < j → j < N → 0 ≤ v j ∧ v j ≤ 65535
theorem wq_0 (h : wh_is n X a) (hk : k = n - 1) : wq_ok X v n k 0 a b := by
  obtain ⟨t, h1, _, _, h4⟩ := h
  refine ⟨t, t, by omega, h1, Nat.le_refl t, ?_, fun j h2 h3 => absurd h2 (by omega)⟩
  rw [h4, Int.sub_self, Int.zero_mul, Int.zero_mul, Int.add_zero, Int.add_zero]
theorem wq_r {R : Int} (h : wq_ok X v n k R a b) (hk : 0 ≤ k) (hR : R < b) (hx : 0 ≤ X k ∧ X k ≤ 65535) : wr_ok X v n k 0 (R * 65536 + X k) a b := by
  obtain ⟨t, N, h1, h2, h3, h4, h5⟩ := h
  obtain ⟨s, rfl⟩ : ∃ s, t = s + 1 := ⟨t - 1, by omega⟩
  obtain rfl : k = s := by omega
  refine ⟨s, N, rfl, h2, by omega, ?_, by rw [Int.zero_mul]; omega, fun j h6 h7 => h5 j (by omega) h7⟩
  rw [wv_s, wp_s] at h4
  generalize (65536 : Int) ^ s = P at *
  generalize wv v (s + 1) = y at *
  generalize X s = z at *
  grind
theorem wr_s {q R : Int} (h : wr_ok X v n k q R a b) : wr_ok X v n k (q + x) (R - x * b) a b := by
  obtain ⟨t, N, h1, h2, h3, h4, h5, h6⟩ := h
  have e : (q + x) * b + (R - x * b) = q * b + R := by rw [Int.add_mul]; omega
  exact ⟨t, N, h1, h2, h3, by rw [e]; exact h4, by rw [e]; exact h5, h6⟩
theorem wr_q {q R : Int} (h : wr_ok X v n k q R a b) (hR : 0 ≤ R) (hb : 1 ≤ b) : q ≤ 65535 := by
  obtain ⟨t, N, h1, h2, h3, h4, h5, h6⟩ := h
  rcases Int.lt_or_le q 65536 with p | p
  · omega
  · have : 65536 * b ≤ q * b := Int.mul_le_mul_of_nonneg_right p (by omega)
    omega
theorem wr_lt {q R : Int} (h : wr_ok X v n k q R a b) (hq : 0 ≤ q) (hb : 1 ≤ b) : R < 65536 * b := by
  obtain ⟨t, N, h1, h2, h3, h4, h5, h6⟩ := h
  have := Int.mul_nonneg hq (by omega : 0 ≤ b)
  omega
theorem wr_e {q R : Int} (h : wr_ok X v n k q R a b) (hq : 0 ≤ q ∧ q ≤ 65535) (hm : m = k - 1) : wq_ok X (hw_up v k q) n m R a b := by
  subst hm
  obtain ⟨t, N, rfl, h2, h3, h4, h5, h6⟩ := h
  refine ⟨t, N, by omega, h2, by omega, ?_, fun j h7 h8 => ?_⟩
  · rw [wv_up h3, wv_eq (f := hw_up v t q) (g := v) (n := t) (fun j hj => hw_up_n (by omega))]
    rw [wv_s] at h4
    generalize (65536 : Int) ^ t = P at *
    generalize v t = y at *
    grind
  · by_cases e : j = t
    · rw [e, hw_up_s]; exact hq
    · rw [hw_up_n (by omega)]; exact h6 j (by omega) h8
theorem wq_x {R : Int} (h : wq_ok X v n k R a b) (hk : k = -1) : ∃ N : Nat, n = N ∧ wd v N ∧ wv v N * b + R = a := by
  obtain ⟨t, N, h1, h2, h3, h4, h5⟩ := h
  obtain rfl : t = 0 := by omega
  refine ⟨N, h2, fun i hi => h5 i (Nat.zero_le i) hi, ?_⟩
  have h6 : (0 : Int) + (wv v N - 0) * b + R * 1 = a := h4
  rw [Int.sub_zero] at h6
  omega
theorem wq_d {R q : Int} (h : wq_ok X v n k R a b) (hk : k = -1) (h0 : 0 ≤ R) (h1 : R < b) (ht : wt_ok v q m) (hm : m = n) (h2 : 0 ≤ q) (h3 : q ≤ n) (h4 : q ≤ 0 ∨ ¬ v (q - 1) = 0) : wh_is q v (a / b) := by
  subst hm
  obtain ⟨N, rfl, hd, e⟩ := wq_x h hk
  have e2 : a / b = wv v N := by
    rw [← e, Int.add_comm, Int.add_mul_ediv_right _ _ (by omega), Int.ediv_eq_zero_of_lt h0 h1, Int.zero_add]
  rw [e2]
  exact wt_is ht rfl h2 h3 h4 hd
theorem wq_m {R m : Int} (h : wq_ok X v n k R a b) (hk : k = -1) (h0 : 0 ≤ R) (h1 : R < b) (hs : wh_is m f R) : wh_is m f (a % b) := by
  obtain ⟨N, rfl, hd, e⟩ := wq_x h hk
  have e2 : a % b = R := by
    rw [← e, Int.add_comm, Int.add_mul_emod_self_right, Int.emod_eq_of_lt h0 h1]
  rw [e2]
  exact hs
/-- all but two numbers are as they were -/
def wf_ok (p u : Int → Int) (q y : Int → Int → Int) (i s : Int) : Prop := ∃ _ : Unit, ∀ k : Int, ¬ k = i → ¬ k = s → u k = p k ∧ y k = q k
theorem wf_0 {p : Int → Int} {q : Int → Int → Int} {i s : Int} : wf_ok p p q q i s := ⟨(), fun _ _ _ => ⟨rfl, rfl⟩⟩
theorem wf_n1 {p u : Int → Int} {q y : Int → Int → Int} {i s z : Int} (h : wf_ok p u q y i s) : wf_ok p (hw_up u i z) q y i s := h.elim fun _ h => ⟨(), fun k h1 h2 => ⟨(hw_up_n h1).trans (h k h1 h2).1, (h k h1 h2).2⟩⟩
theorem wf_n2 {p u : Int → Int} {q y : Int → Int → Int} {i s z : Int} (h : wf_ok p u q y i s) : wf_ok p (hw_up u s z) q y i s := h.elim fun _ h => ⟨(), fun k h1 h2 => ⟨(hw_up_n h2).trans (h k h1 h2).1, (h k h1 h2).2⟩⟩
theorem wf_d1 {p u : Int → Int} {q y : Int → Int → Int} {i s : Int} {z : Int → Int} (h : wf_ok p u q y i s) : wf_ok p u q (hw_up y i z) i s := h.elim fun _ h => ⟨(), fun k h1 h2 => ⟨(h k h1 h2).1, (hw_up_n h1).trans (h k h1 h2).2⟩⟩
theorem wf_d2 {p u : Int → Int} {q y : Int → Int → Int} {i s : Int} {z : Int → Int} (h : wf_ok p u q y i s) : wf_ok p u q (hw_up y s z) i s := h.elim fun _ h => ⟨(), fun k h1 h2 => ⟨(h k h1 h2).1, (hw_up_n h2).trans (h k h1 h2).2⟩⟩
/-- what is small among longs -/
theorem wg_c1 {z t p q y : Int} (hkd : 0 ≤ p → 0 < q → z = p / q ∧ 0 ≤ z ∧ z ≤ p) (hy : y = z + 4294967296 * t) (hr : -2147483648 ≤ y ∧ y ≤ 2147483647) (hz : 1 ≤ z) (hp : p = a) (hq : q = b) (hb : 1 ≤ b) (hab : b ≤ a) (hlt : a < 65536 * b) : 1 ≤ y ∧ y ≤ 65535 ∧ y * b ≤ a := by
  subst hp
  subst hq
  have h1 := (hkd (by omega) (by omega)).1
  have h2 := wg_d h1 hb
  have h3 := wg_b h2 hlt hb
  obtain rfl : y = z := by omega
  exact ⟨hz, h3, h2⟩
theorem wg_c2 {z t p q y s : Int} (hi : wh_is n f a) (hj : wh_is m g b) (hkd : 0 ≤ p → 0 < q → z = p / q ∧ 0 ≤ z ∧ z ≤ p) (hy : y = z + 4294967296 * t) (hr : -2147483648 ≤ y ∧ y ≤ 2147483647) (hz : 1 ≤ z) (hf : wg_ok f k p a) (hg : wg_ok g x s b) (hkx : x = k) (hq : q = s + 1) (hk : k < n) (hm : k < m) (hp : 0 ≤ p) (hs : 0 ≤ s) (hb : 1 ≤ b) (hlt : a < 65536 * b) : 1 ≤ y ∧ y ≤ 65535 ∧ y * b ≤ a := by
  subst hkx
  subst hq
  have h1 := (hkd hp (by omega)).1
  have h2 := wg_e2 hi hj hf hg hk hm hp hs h1
  have h3 := wg_b h2 hlt hb
  obtain rfl : y = z := by omega
  exact ⟨hz, h3, h2⟩
theorem wg_n (hi : wh_is n f a) (hj : wh_is m g b) (h : a < 65536 * b) : n ≤ m + 1 := by
  have h2 := hj
  obtain ⟨t, rfl, _⟩ := h2
  have h3 := wh_lt hj
  have h4 : a < 65536 ^ (t + 1) := by rw [wp_s]; omega
  have := wh_len hi h4
  omega
def wgp_ok (f : Int → Int) (m p a : Int) : Prop := ∃ _ : Unit, (m = 1 → p = a) ∧ (2 ≤ m → wg_ok f (m - 3) p a)
theorem wgp_i {p : Int} (h : wg_ok f k p a) (h1 : m = 1 → k = -1) (h2 : 2 ≤ m → k = m - 3) : wgp_ok f m p a := ⟨(), fun e => wg_e1 h (h1 e), fun e => (h2 e) ▸ h⟩
theorem wgp_1 {p : Int} (h : wgp_ok f m p a) (h1 : m = 1) : p = a := h.elim fun _ h => h.1 h1
theorem wgp_2 {p : Int} (h : wgp_ok f m p a) (h1 : 2 ≤ m) (hk : k = m - 3) : wg_ok f k p a := hk ▸ h.elim fun _ h => h.2 h1
/-- a long's digits -/
def ws_ok (v : Int → Int) (k y x : Int) : Prop := ∃ t : Nat, k = t ∧ wd v t ∧ wv v t + y * 65536 ^ t = x ∧ (y = 0 → ∀ s : Nat, t = s + 1 → 1 ≤ v s)
theorem ws_0 : ws_ok v 0 x x := ⟨0, rfl, fun i h => absurd h (Nat.not_lt_zero i), by show (0 : Int) + x * 1 = x; omega, fun _ s h => absurd h (by omega)⟩
theorem ws_s {y z : Int} (h : ws_ok v k y x) (hy : 1 ≤ y) (he : e = y % 65536) (hz : z = y / 65536) : ws_ok (hw_up v k e) (k + 1) z x := by
  obtain ⟨t, rfl, hd, hv, _⟩ := h
  refine ⟨t + 1, by omega, wd_up hd (by omega), ?_, fun h0 s hs => ?_⟩
  · have e1 : y = e + 65536 * z := by omega
    rw [wv_us, wp_s]
    generalize (65536 : Int) ^ t = P at *
    grind
  · obtain rfl : t = s := by omega
    rw [hw_up_s]
    omega
theorem ws_e {y : Int} (h : ws_ok v k y x) (hy : y = 0) : wh_is k v x := by
  obtain ⟨t, rfl, hd, hv, h5⟩ := h
  refine ⟨t, rfl, hd, fun j hj => h5 hy j hj, ?_⟩
  rw [← hv, hy, Int.zero_mul, Int.add_zero]
theorem ws_k {y : Int} (h : ws_ok v k y x) (hy : 1 ≤ y) (hx : x ≤ 9223372036854775807) : k ≤ 3 := by
  obtain ⟨t, rfl, hd, hv, h5⟩ := h
  have h6 := (wv_b hd).1
  have h7 : 1 * (65536 : Int) ^ t ≤ y * 65536 ^ t := Int.mul_le_mul_of_nonneg_right hy (Int.le_of_lt (wp_pos t))
  have h8 : (65536 : Int) ^ t < 65536 ^ 4 := by
    have e : (65536 : Int) ^ 4 = 18446744073709551616 := by decide
    rw [e]
    omega
  have := wp_lt h8
  omega
end C55
