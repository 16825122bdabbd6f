/-! the model: its table, step by step -/
section C5i
variable {a : Nat → Nat → Int} {m e i j k : Int} {va vb : Int → Int}
def vm (fo go ab be fc po tg ix uk : Int → Int) (k m : Int) : Nat → Nat → Int := mx (fun i => Lq fo be (vc fc po uk k i)) (fun i j => vw fo go ab be (kp tg ix m) (vc fc po uk k i) (nq fo (vc fc po uk k i)) j)
/-- the table loses: what is needed of it -/
def vt_ok (a : Nat → Nat → Int) (m : Int) : Prop := ∃ M : Nat, m = M ∧ M ≤ 24 ∧ tb_ok a M (M + 2) 0 ∧ (∀ i, i < M → sm (M + 2) (a i) = 0) ∧ ∀ i, i < M → a i i ≤ wB 6
theorem wB_pw : (wB 6) ^ 25 = wB 150 := by
  show ((65536 : Int) ^ 6) ^ 25 = 65536 ^ 150
  rw [← Int.pow_mul]
theorem vt_t {M E : Nat} (h : vt_ok a M) (he : E ≤ M) : M ≤ 24 ∧ tb_ok a M (M + 2) E ∧ (∀ i, i < M → sm (M + 2) (a i) = 0) := by
  obtain ⟨M2, h1, h2, h3, h4, h5⟩ := h
  obtain rfl : M = M2 := by omega
  exact ⟨h2, tb_all h3 he (by omega) h4, h4⟩
theorem vt_d {M E : Nat} (h : vt_ok a M) (he : E ≤ M) (hM : 0 < M) : 1 ≤ dl a E ∧ dl a E < wB 151 := by
  have h0 := vt_t h he
  obtain ⟨M2, h1, h2, h3, h4, h5⟩ := h
  obtain rfl : M = M2 := by omega
  have h6 := (td_b (i := 0) h3 he (by omega) h4 h5 (by have := wB_pos (m := 6); omega) hM h2).2
  have h7 : wB 150 + wB 150 ≤ wB 151 := wB_2 (m := 150)
  have h8 := wB_pos (m := 150)
  rw [wB_pw] at h6
  have h9 := h0.2.1.1 E (Nat.le_refl E)
  omega
theorem vt_b {M E I : Nat} (h : vt_ok a M) (he : E ≤ M) (hi : I < M) : (0 ≤ td a E I ∧ td a E I < wB 151) ∧ ∀ j : Nat, j < M + 2 → ¬ j = I → 0 ≤ tw a E I j ∧ tw a E I j < wB 151 := by
  have h0 := vt_t h he
  obtain ⟨M2, h1, h2, h3, h4, h5⟩ := h
  obtain rfl : M = M2 := by omega
  have h6 := (td_b h3 he (by omega) h4 h5 (by have := wB_pos (m := 6); omega) hi h2).1
  have h7 : wB 150 + wB 150 ≤ wB 151 := wB_2 (m := 150)
  have h8 := wB_pos (m := 150)
  rw [wB_pw] at h6
  have h9 := td_nn h0.2.1 he (by omega) h4 hi
  refine ⟨by omega, fun j hj hn => ?_⟩
  have h10 := tw_nn h0.2.1 hi hj hn
  have h11 := tw_le h0.2.1 he (by omega) h4 hi hj hn
  omega
def tl_ok (a : Nat → Nat → Int) (m e : Int) (va : Int → Int) : Prop := ∃ M E : Nat, m = M ∧ e = E ∧ ∀ q : Nat, q < M → va (650 + q) = td a E q ∧ va (626 + q) = tw a E q M ∧ ∀ p : Nat, p < M → ¬ p = q → va (50 + (24 * (q : Int) + p)) = tw a E q p
def tm_ok (a : Nat → Nat → Int) (m e i : Int) (va : Int → Int) : Prop := ∃ M E I : Nat, m = M ∧ e = E ∧ i = I ∧ ∀ q : Nat, q < M → va (650 + q) = td a (if q < I then E + 1 else E) q ∧ va (626 + q) = tw a (if q < I then E + 1 else E) q M ∧ ∀ p : Nat, p < M → ¬ p = q → va (50 + (24 * (q : Int) + p)) = tw a (if q < I then E + 1 else E) q p
def tn_ok (a : Nat → Nat → Int) (m e i j : Int) (va : Int → Int) : Prop := ∃ M E I J : Nat, m = M ∧ e = E ∧ i = I ∧ j = J ∧ (∀ q : Nat, q < M → ¬ q = I → va (650 + q) = td a (if q < I then E + 1 else E) q ∧ va (626 + q) = tw a (if q < I then E + 1 else E) q M ∧ ∀ p : Nat, p < M → ¬ p = q → va (50 + (24 * (q : Int) + p)) = tw a (if q < I then E + 1 else E) q p) ∧ va (650 + i) = td a (E + 1) I ∧ va (626 + i) = tw a (E + 1) I M ∧ ∀ p : Nat, p < M → ¬ p = I → va (50 + (24 * i + p)) = tw a (if p < J ∧ ¬ p = E then E + 1 else E) I p
theorem tl_r {fo go ab be fc po tg ix uk : Int → Int} (h : rd_ok fo go ab be fc po tg ix uk k m va i) (hi : i = m) (hm : 0 ≤ m) : tl_ok (vm fo go ab be fc po tg ix uk k m) m 0 va := by
  subst hi
  obtain ⟨M, rfl⟩ := Int.eq_ofNat_of_zero_le hm
  refine h.elim fun _ h => ⟨M, 0, rfl, rfl, fun q hq => ?_⟩
  obtain ⟨⟨h1, h2⟩, h3⟩ := h q (by omega)
  refine ⟨?_, ?_, fun p hp hn => ?_⟩
  · rw [h3, td_a (Nat.zero_le q), Dl_00]
    unfold vm mx
    rw [if_pos rfl]
  · rw [h2, tw_a (Nat.zero_le M) (Nat.zero_le q), Dl_00]
    unfold vm mx
    rw [if_neg (by omega), Int.toNat_natCast]
    dsimp only
    omega
  · rw [h1 p (by omega), tw_a (Nat.zero_le p) (Nat.zero_le q), Dl_00]
    unfold vm mx
    rw [if_neg hn]
    dsimp only
    omega
theorem tl_m (h : tl_ok a m e va) : tm_ok a m e 0 va := by
  obtain ⟨M, E, h1, h2, h3⟩ := h
  refine ⟨M, E, 0, h1, h2, rfl, fun q hq => ?_⟩
  rw [if_neg (Nat.not_lt_zero q)]
  exact h3 q hq
theorem tm_l {p : Int} (h : tm_ok a m e i va) (hi : i = m) (hp : p = e + 1) : tl_ok a m p va := by
  obtain ⟨M, E, I, h1, h2, h3, h4⟩ := h
  refine ⟨M, E + 1, h1, by omega, fun q hq => ?_⟩
  have h5 := h4 q hq
  rw [if_pos (by omega)] at h5
  exact h5
theorem tm_p {p : Int} (h : tm_ok a m e i va) (ht : vt_ok a m) (hi : i = e) (he : e < m) (hp : p = i + 1) : tm_ok a m e p va := by
  subst hp
  obtain ⟨M, E, I, rfl, rfl, rfl, h4⟩ := h
  obtain rfl : I = E := by omega
  have h6 := vt_t ht (E := I) (by omega)
  refine ⟨M, I, I + 1, rfl, rfl, by omega, fun q hq => ?_⟩
  have h5 := h4 q hq
  by_cases r : q = I
  · subst r
    rw [if_neg (Nat.lt_irrefl q)] at h5
    rw [if_pos (Nat.lt_succ_self q)]
    refine ⟨h5.1.trans td_e.symm, h5.2.1.trans (tw_e h6.2.1 (by omega) (by omega) h6.2.2 (by omega)).symm, fun p hp hn => (h5.2.2 p hp hn).trans (tw_e h6.2.1 (by omega) (by omega) h6.2.2 hn).symm⟩
  · by_cases s : q < I
    · rw [if_pos s] at h5
      rw [if_pos (by omega)]
      exact h5
    · rw [if_neg s] at h5
      rw [if_neg (by omega)]
      exact h5
theorem tm_k (h : tm_ok a m e i va) (hm : m ≤ 24) (hk : ∀ p : Int, 50 ≤ p ∧ p < 674 → vb p = va p) : tm_ok a m e i vb := by
  obtain ⟨M, E, I, h1, h2, h3, h4⟩ := h
  refine ⟨M, E, I, h1, h2, h3, fun q hq => ?_⟩
  have h5 := h4 q hq
  exact ⟨by rw [hk _ (by omega)]; exact h5.1, by rw [hk _ (by omega)]; exact h5.2.1, fun p hp hn => by rw [hk _ (by omega)]; exact h5.2.2 p hp hn⟩
theorem tl_k (h : tl_ok a m e va) (hm : m ≤ 24) (hk : ∀ p : Int, 50 ≤ p ∧ p < 674 → vb p = va p) : tl_ok a m e vb := by
  obtain ⟨M, E, h1, h2, h4⟩ := h
  refine ⟨M, E, h1, h2, fun q hq => ?_⟩
  have h5 := h4 q hq
  exact ⟨by rw [hk _ (by omega)]; exact h5.1, by rw [hk _ (by omega)]; exact h5.2.1, fun p hp hn => by rw [hk _ (by omega)]; exact h5.2.2 p hp hn⟩
theorem tl_u {p x : Int} (h : tl_ok a m e va) (hm : m ≤ 24) (hp : p < 50 ∨ 674 ≤ p) : tl_ok a m e (hw_up va p x) := tl_k h hm (fun q hq => hw_up_n (by omega))
/-- what a step wants -/
def sx_ok (va : Int → Int) (x y b e f r : Int) : Prop := ∃ _ : Unit, rs_ok f (va x) (va (650 + e)) (va y) (va b) (va 789) r ∧ va x < wB 151 ∧ va (650 + e) < wB 151 ∧ va y < wB 151 ∧ va b < wB 151 ∧ 1 ≤ va 789 ∧ va 789 < wB 151
theorem sx_mk {M E : Nat} {x y b f p q s t r : Int} (ht : vt_ok a M) (he : E < M) (h7 : va 789 = dl a E) (hx : va x = p) (hd : va (650 + (E : Int)) = q) (hy : va y = s) (hb : va b = t) (hr : rs_ok f p q s t (dl a E) r) (b1 : p < wB 151) (b2 : q < wB 151) (b3 : s < wB 151) (b4 : t < wB 151) : sx_ok va x y b E f r := by
  have h0 := vt_d ht (E := E) (by omega) (by omega)
  refine ⟨(), ?_, by rw [hx]; exact b1, by rw [hd]; exact b2, by rw [hy]; exact b3, by rw [hb]; exact b4, by rw [h7]; exact h0.1, by rw [h7]; exact h0.2⟩
  rw [hx, hd, hy, hb, h7]
  exact hr
theorem rs_w {M E I J : Nat} (ht : vt_ok a M) (he : E < M) (hi : I < M) (hj : J < M + 2) (h1 : ¬ I = E) (h2 : ¬ J = E) (h3 : ¬ J = I) : rs_ok 0 (tw a E I J) (td a E E) (tw a E E J) (tw a E I E) (dl a E) (tw a (E + 1) I J) := by
  have h6 := vt_t ht (E := E) (by omega)
  exact ⟨(), fun _ => tw_s h6.2.1 he (by omega) h6.2.2 h1 h2, fun h => absurd h (by omega), ((vt_b ht (by omega) hi).2 J hj h3).2⟩
theorem rs_d {M E I : Nat} (ht : vt_ok a M) (he : E < M) (hi : I < M) (h1 : ¬ I = E) : rs_ok 1 (td a E I) (td a E E) (tw a E E I) (tw a E I E) (dl a E) (td a (E + 1) I) := by
  have h6 := vt_t ht (E := E) (by omega)
  have h7 := td_s h6.2.1 he (by omega) h6.2.2 h1
  have h8 := (vt_b ht (E := E + 1) (by omega) hi).1
  have h9 := Int.mul_nonneg (by have := vt_d ht (E := E) (by omega) (by omega); omega : 0 ≤ dl a E) h8.1
  exact ⟨(), fun h => absurd h (by omega), fun _ => ⟨h7, by omega⟩, h8.2⟩
/-- row e of a table between two steps -/
theorem tm_row {M E I : Nat} (h : tm_ok a M E I va) (ht : vt_ok a M) (he : E < M) : va (650 + (E : Int)) = td a E E ∧ va (626 + (E : Int)) = tw a E E M ∧ ∀ p : Nat, p < M → ¬ p = E → va (50 + (24 * (E : Int) + p)) = tw a E E p := by
  obtain ⟨M2, E2, I2, h1, h2, h3, h4⟩ := h
  obtain rfl : M = M2 := by omega
  obtain rfl : E = E2 := by omega
  have h6 := vt_t ht (E := E) (by omega)
  have h5 := h4 E he
  by_cases s : E < I2
  · rw [if_pos s] at h5
    exact ⟨h5.1.trans td_e, h5.2.1.trans (tw_e h6.2.1 he (by omega) h6.2.2 (by omega)), fun p hp hn => (h5.2.2 p hp hn).trans (tw_e h6.2.1 he (by omega) h6.2.2 hn)⟩
  · rw [if_neg s] at h5
    exact h5
theorem tm_T (h : tm_ok a m e i va) (ht : vt_ok a m) (h7 : va 789 = dl a e.toNat) (he : e < m) (hi : i < m) (hn : ¬ i = e) : sx_ok va (626 + i) (626 + e) (50 + (24 * i + e)) e 0 (tw a (e.toNat + 1) i.toNat m.toNat) := by
  have h0 := h
  obtain ⟨M, E, I, rfl, rfl, rfl, h4⟩ := h
  rw [Int.toNat_natCast] at h7 ⊢
  rw [Int.toNat_natCast, Int.toNat_natCast]
  have r := tm_row h0 ht (by omega)
  have h5 := h4 I (by omega)
  rw [if_neg (Nat.lt_irrefl I)] at h5
  have b1 := vt_b ht (E := E) (I := I) (by omega) (by omega)
  have b2 := vt_b ht (E := E) (I := E) (by omega) (by omega)
  exact sx_mk ht (by omega) h7 h5.2.1 r.1 r.2.1 (h5.2.2 E (by omega) (by omega)) (rs_w ht (by omega) (by omega) (by omega) (by omega) (by omega) (by omega)) (b1.2 M (by omega) (by omega)).2 b2.1.2 (b2.2 M (by omega) (by omega)).2 (b1.2 E (by omega) (by omega)).2
theorem tm_D (h : tm_ok a m e i va) (hf : sf va vb (626 + i)) (ht : vt_ok a m) (h7 : va 789 = dl a e.toNat) (he : e < m) (hi : i < m) (hn : ¬ i = e) : sx_ok vb (650 + i) (50 + (24 * e + i)) (50 + (24 * i + e)) e 1 (td a (e.toNat + 1) i.toNat) := by
  have h0 := h
  obtain ⟨M, E, I, rfl, rfl, rfl, h4⟩ := h
  have hm := (vt_t ht (E := 0) (by omega)).1
  rw [Int.toNat_natCast] at h7 ⊢
  rw [Int.toNat_natCast]
  have r := tm_row h0 ht (by omega)
  have h5 := h4 I (by omega)
  rw [if_neg (Nat.lt_irrefl I)] at h5
  have b1 := vt_b ht (E := E) (I := I) (by omega) (by omega)
  have b2 := vt_b ht (E := E) (I := E) (by omega) (by omega)
  exact sx_mk ht (by omega) ((sf_e hf (by omega) (by omega)).trans h7) ((sf_e hf (by omega) (by omega)).trans h5.1) ((sf_e hf (by omega) (by omega)).trans r.1) ((sf_e hf (by omega) (by omega)).trans (r.2.2 I (by omega) (by omega))) ((sf_e hf (by omega) (by omega)).trans (h5.2.2 E (by omega) (by omega))) (rs_d ht (by omega) (by omega) (by omega)) b1.1.2 b2.1.2 (b2.2 I (by omega) (by omega)).2 (b1.2 E (by omega) (by omega)).2
theorem tn_0 {v1 : Int → Int} (h : tm_ok a m e i va) (hm : m ≤ 24) (hi : i < m) (hf : sf va v1 (626 + i)) (h1 : v1 (626 + i) = tw a (e.toNat + 1) i.toNat m.toNat) (hg : sf v1 vb (650 + i)) (h2 : vb (650 + i) = td a (e.toNat + 1) i.toNat) : tn_ok a m e i 0 vb := by
  obtain ⟨M, E, I, rfl, rfl, rfl, h4⟩ := h
  rw [Int.toNat_natCast] at h1 h2
  rw [Int.toNat_natCast] at h1 h2
  rw [Int.toNat_natCast] at h1
  have hk : ∀ p : Int, 50 ≤ p ∧ p < 674 → ¬ p = 626 + I → ¬ p = 650 + I → vb p = va p := fun p h1 h2 h3 => (sf_e hg h3 (by omega)).trans (sf_e hf h2 (by omega))
  refine ⟨M, E, I, 0, rfl, rfl, rfl, rfl, fun q hq hn => ?_, h2, (sf_e hg (by omega) (by omega)).trans h1, fun p hp hn => ?_⟩
  · have h5 := h4 q hq
    exact ⟨(hk _ (by omega) (by omega) (by omega)).trans h5.1, (hk _ (by omega) (by omega) (by omega)).trans h5.2.1, fun p hp hn => (hk _ (by omega) (by omega) (by omega)).trans (h5.2.2 p hp hn)⟩
  · have h5 := h4 I (by omega)
    rw [if_neg (Nat.lt_irrefl I)] at h5
    rw [if_neg (by omega)]
    exact (hk _ (by omega) (by omega) (by omega)).trans (h5.2.2 p hp hn)
theorem tn_row {M E I J : Nat} (h : tn_ok a M E I J va) (ht : vt_ok a M) (he : E < M) (hn : ¬ I = E) : va (650 + (E : Int)) = td a E E ∧ ∀ p : Nat, p < M → ¬ p = E → va (50 + (24 * (E : Int) + p)) = tw a E E p := by
  obtain ⟨M2, E2, I2, J2, h1, h2, h3, h3b, h4, _⟩ := h
  obtain rfl : M = M2 := by omega
  obtain rfl : E = E2 := by omega
  have h6 := vt_t ht (E := E) (by omega)
  have h5 := h4 E he (by omega)
  by_cases s : E < I2
  · rw [if_pos s] at h5
    exact ⟨h5.1.trans td_e, fun p hp hn => (h5.2.2 p hp hn).trans (tw_e h6.2.1 he (by omega) h6.2.2 hn)⟩
  · rw [if_neg s] at h5
    exact ⟨h5.1, h5.2.2⟩
theorem tn_W (h : tn_ok a m e i j va) (ht : vt_ok a m) (h7 : va 789 = dl a e.toNat) (he : e < m) (hi : i < m) (hn : ¬ i = e) (hj : j < m) (h2 : ¬ j = e) (h3 : ¬ j = i) : sx_ok va (50 + (24 * i + j)) (50 + (24 * e + j)) (50 + (24 * i + e)) e 0 (tw a (e.toNat + 1) i.toNat j.toNat) := by
  have h0 := h
  obtain ⟨M, E, I, J, rfl, rfl, rfl, rfl, h4, h5, h6, h8⟩ := h
  rw [Int.toNat_natCast] at h7 ⊢
  rw [Int.toNat_natCast, Int.toNat_natCast]
  have r := tn_row h0 ht (by omega) (by omega)
  have b1 := vt_b ht (E := E) (I := I) (by omega) (by omega)
  have b2 := vt_b ht (E := E) (I := E) (by omega) (by omega)
  have c1 := h8 J (by omega) (by omega)
  have c2 := h8 E (by omega) (by omega)
  rw [if_neg (by omega)] at c1 c2
  exact sx_mk ht (by omega) h7 c1 r.1 (r.2 J (by omega) (by omega)) c2 (rs_w ht (by omega) (by omega) (by omega) (by omega) (by omega) (by omega)) (b1.2 J (by omega) (by omega)).2 b2.1.2 (b2.2 J (by omega) (by omega)).2 (b1.2 E (by omega) (by omega)).2
theorem tn_s {p : Int} (h : tn_ok a m e i j va) (hm : m ≤ 24) (hi : i < m) (hj : j < m) (h3 : ¬ j = i) (h4 : ¬ j = e) (hf : sf va vb (50 + (24 * i + j))) (h1 : vb (50 + (24 * i + j)) = tw a (e.toNat + 1) i.toNat j.toNat) (hp : p = j + 1) : tn_ok a m e i p vb := by
  subst hp
  obtain ⟨M, E, I, J, rfl, rfl, rfl, rfl, q1, q2, q3, q4⟩ := h
  rw [Int.toNat_natCast, Int.toNat_natCast, Int.toNat_natCast] at h1
  have hk : ∀ p : Int, 50 ≤ p ∧ p < 674 → ¬ p = 50 + (24 * (I : Int) + J) → vb p = va p := fun p h1 h2 => sf_e hf h2 (by omega)
  refine ⟨M, E, I, J + 1, rfl, rfl, rfl, by omega, fun q hq hn => ?_, (hk _ (by omega) (by omega)).trans q2, (hk _ (by omega) (by omega)).trans q3, fun p hp hn => ?_⟩
  · have h5 := q1 q hq hn
    exact ⟨(hk _ (by omega) (by omega)).trans h5.1, (hk _ (by omega) (by omega)).trans h5.2.1, fun p hp hn => (hk _ (by omega) (by omega)).trans (h5.2.2 p hp hn)⟩
  · by_cases r : p = J
    · subst r
      rw [if_pos ⟨Nat.lt_succ_self p, by omega⟩]
      exact h1
    · have h5 := q4 p hp hn
      rw [hk _ (by omega) (by omega), h5]
      by_cases s : p < J ∧ ¬ p = E
      · rw [if_pos s, if_pos ⟨by omega, s.2⟩]
      · rw [if_neg s, if_neg (by omega)]
theorem tn_n {p : Int} (h : tn_ok a m e i j va) (hj : j = e ∨ j = i) (hp : p = j + 1) : tn_ok a m e i p va := by
  subst hp
  obtain ⟨M, E, I, J, rfl, rfl, rfl, rfl, q1, q2, q3, q4⟩ := h
  refine ⟨M, E, I, J + 1, rfl, rfl, rfl, by omega, q1, q2, q3, fun p hp hn => ?_⟩
  have h5 := q4 p hp hn
  rw [h5]
  by_cases s : p < J ∧ ¬ p = E
  · rw [if_pos s, if_pos ⟨by omega, s.2⟩]
  · rw [if_neg s, if_neg (by omega)]
theorem tn_e {p : Int} (h : tn_ok a m e i j va) (hm : m ≤ 24) (hi : i < m) (he : e < m) (hn : ¬ i = e) (hj : m ≤ j) (hp : p = i + 1) : tm_ok a m e p (hw_up va (50 + (24 * i + e)) 0) := by
  subst hp
  obtain ⟨M, E, I, J, rfl, rfl, rfl, rfl, q1, q2, q3, q4⟩ := h
  refine ⟨M, E, I + 1, rfl, rfl, by omega, fun q hq => ?_⟩
  by_cases r : q = I
  · subst r
    rw [if_pos (Nat.lt_succ_self q)]
    refine ⟨(hw_up_n (by omega)).trans q2, (hw_up_n (by omega)).trans q3, fun p hp hn => ?_⟩
    by_cases s : p = E
    · subst s
      rw [hw_up_s, tw_0 (Nat.lt_succ_self p)]
    · have h5 := q4 p hp hn
      rw [if_pos ⟨by omega, s⟩] at h5
      exact (hw_up_n (by omega)).trans h5
  · have h5 := q1 q hq r
    have e1 : (if q < I + 1 then E + 1 else E) = if q < I then E + 1 else E := by
      by_cases s : q < I
      · rw [if_pos s, if_pos (by omega)]
      · rw [if_neg s, if_neg (by omega)]
    rw [e1]
    exact ⟨(hw_up_n (by omega)).trans h5.1, (hw_up_n (by omega)).trans h5.2.1, fun p hp hn => (hw_up_n (by omega)).trans (h5.2.2 p hp hn)⟩
/-- the pivot becomes the next leading determinant -/
theorem tl_pv (h : tl_ok a m e va) (he : 0 < e) (hm : e ≤ m) {p : Int} (hp : e = p + 1) : va (650 + p) = dl a e.toNat := by
  obtain ⟨M, E, rfl, rfl, h3⟩ := h
  obtain ⟨q, rfl⟩ := Int.eq_ofNat_of_zero_le (by omega : 0 ≤ p)
  rw [(h3 q (by omega)).1, td_u (by omega), Int.toNat_natCast]
/-- what stays while values are found -/
def vf (va vb : Int → Int) (k : Int) : Prop := ∃ _ : Unit, ∀ q : Int, ¬ (k * 24 ≤ q ∧ q < k * 24 + 24) → ¬ q = 48 + k → ¬ (50 ≤ q ∧ q < 674) → ¬ (775 ≤ q ∧ q ≤ 782) → ¬ (787 ≤ q ∧ q ≤ 789) → vb q = va q
theorem vf_0 : vf va va k := ⟨(), fun _ _ _ _ _ _ => rfl⟩
theorem vf_u {p x : Int} (h : vf va vb k) (hp : (k * 24 ≤ p ∧ p < k * 24 + 24) ∨ p = 48 + k ∨ (50 ≤ p ∧ p < 674) ∨ (775 ≤ p ∧ p ≤ 782) ∨ (787 ≤ p ∧ p ≤ 789)) : vf va (hw_up vb p x) k := h.elim fun _ h => ⟨(), fun q h1 h2 h3 h4 h5 => (hw_up_n (by omega)).trans (h q h1 h2 h3 h4 h5)⟩
theorem vf_f {p q : Int} {v1 : Int → Int} (hf : fr p q vb v1) (h : vf va vb k) (hp : 775 ≤ p) (hq : q ≤ 782) : vf va v1 k := h.elim fun _ h => ⟨(), fun r h1 h2 h3 h4 h5 => (fr_e hf (by omega)).trans (h r h1 h2 h3 h4 h5)⟩
theorem vf_s {x : Int} {v1 : Int → Int} (hf : sf vb v1 x) (h : vf va vb k) (hx : 50 ≤ x ∧ x < 674) : vf va v1 k := h.elim fun _ h => ⟨(), fun r h1 h2 h3 h4 h5 => (sf_e hf (by omega) (by omega)).trans (h r h1 h2 h3 h4 h5)⟩
theorem vf_e {q : Int} (h : vf va vb k) (h1 : ¬ (k * 24 ≤ q ∧ q < k * 24 + 24)) (h2 : ¬ q = 48 + k) (h3 : ¬ (50 ≤ q ∧ q < 674)) (h4 : ¬ (775 ≤ q ∧ q ≤ 782)) (h5 : ¬ (787 ≤ q ∧ q ≤ 789)) : vb q = va q := h.elim fun _ h => h q h1 h2 h3 h4 h5
end C5i
