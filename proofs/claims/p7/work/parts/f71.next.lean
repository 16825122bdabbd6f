/-! the model: what comes next along a way; rows of values -/
section C71
/-- u rounds of an update, from f, give g -/
def au_ok (cd nw st : Int → Int) (b vn : Int) (f : Int → Int) (u : Int) (g : Int → Int) : Prop := ∃ (k : Nat) (h : Nat → Int → Int), u = k ∧ h 0 = f ∧ h k = g ∧ ∀ j : Nat, j < k → 0 ≤ iob st b vn.toNat j ∧ ∃ x : Int, TL2 cd nw (st (b + iob st b vn.toNat j)) x ∧ h (j + 1) = hw_up (h j) (iob st b vn.toNat j) x
/-- an update, from f, gives g -/
def aq_ok (cd nw st : Int → Int) (b vn : Int) (f g : Int → Int) : Prop := ∃ u : Int, au_ok cd nw st b vn f u g ∧ u ≤ vn ∧ (u = vn ∨ io_n st b vn u)
theorem au_0 {cd nw st f : Int → Int} {b vn : Int} : au_ok cd nw st b vn f 0 f := ⟨0, fun _ => f, rfl, rfl, rfl, fun j h => absurd h (Nat.not_lt_zero j)⟩
theorem au_s {cd nw st f g : Int → Int} {b vn u r x p : Int} (h : au_ok cd nw st b vn f u g) (hi : io_y st b vn u r) (ht : TL2 cd nw (st (b + r)) x) (hp : p = u + 1) : au_ok cd nw st b vn f p (hw_up g r x) := by
  obtain ⟨k, h, h1, h2, h3, h4⟩ := h
  obtain ⟨q, h5, h6, h7⟩ := hi
  obtain rfl : q = k := by omega
  refine ⟨q + 1, fun j => if j ≤ q then h j else hw_up g r x, by omega, ?_, ?_, fun j hj => ?_⟩
  · dsimp only
    rw [if_pos (Nat.zero_le q)]; exact h2
  · dsimp only
    rw [if_neg (by omega)]
  · dsimp only
    rw [if_pos (show j ≤ q by omega)]
    by_cases e : j = q
    · subst e
      rw [if_neg (by omega)]
      refine ⟨h7 j (Nat.le_refl j), x, ?_, ?_⟩
      · rw [← h6]; exact ht
      · rw [h3, ← h6]
    · rw [if_pos (show j + 1 ≤ q by omega)]
      exact h4 j (by omega)
theorem aq_u {cd nw st f g g' : Int → Int} {b vn : Int} (h : aq_ok cd nw st b vn f g) (h' : aq_ok cd nw st b vn f g') : g = g' := by
  obtain ⟨u, ⟨k, h, a1, a2, a3, a4⟩, a5, a6⟩ := h
  obtain ⟨u', ⟨k', h', b1, b2, b3, b4⟩, b5, b6⟩ := h'
  have key : ∀ {p q : Nat} {x y : Int}, x = p → y = q → (∀ j : Nat, j < p → 0 ≤ iob st b vn.toNat j) → (∀ j : Nat, j < q → 0 ≤ iob st b vn.toNat j) → y ≤ vn → (x = vn ∨ io_n st b vn x) → ¬ p < q := fun e1 e2 c1 c2 c3 c4 c5 => by
    rcases c4 with c | ⟨i, j, d1, d2, d3⟩
    · omega
    · have := c2 j (by omega)
      omega
  have n1 := key a1 b1 (fun j hj => (a4 j hj).1) (fun j hj => (b4 j hj).1) b5 a6
  have n2 := key b1 a1 (fun j hj => (b4 j hj).1) (fun j hj => (a4 j hj).1) a5 b6
  obtain rfl : k = k' := by omega
  have eq : ∀ j : Nat, j ≤ k → h j = h' j := fun j => by
    induction j with
    | zero => intro _; rw [a2, b2]
    | succ j ih =>
      intro hj
      obtain ⟨_, x, c1, c2⟩ := a4 j (by omega)
      obtain ⟨_, y, d1, d2⟩ := b4 j (by omega)
      rw [c2, d2, ih (by omega), TL2_u c1 d1]
  rw [← a3, ← b3, eq k (Nat.le_refl k)]
theorem bs_m {st : Int → Int} {b l : Int} {n : Nat} (h : ∀ v : Nat, v < n → st (b + v) ≤ l) : bs st b l n = -1 := by
  induction n with
  | zero => rfl
  | succ n ih =>
    show (if l < st (b + n) ∧ (bs st b l n < 0 ∨ st (b + n) < st (b + bs st b l n)) then (n : Int) else bs st b l n) = -1
    rw [if_neg (fun q => by have := h n (by omega); omega)]
    exact ih (fun v hv => h v (by omega))
theorem ut_1 {st : Int → Int} {p v : Int} (h : ut st p = 1) (h0 : 0 ≤ v) (h1 : v < 8) : st (p * 8 + v) < 0 := by
  unfold ut at h
  split at h
  · rename_i q
    have c : v = 0 ∨ v = 1 ∨ v = 2 ∨ v = 3 ∨ v = 4 ∨ v = 5 ∨ v = 6 ∨ v = 7 := by omega
    rcases c with c | c | c | c | c | c | c | c <;> subst c
    · rw [Int.add_zero]; exact q.1
    · exact q.2.1
    · exact q.2.2.1
    · exact q.2.2.2.1
    · exact q.2.2.2.2.1
    · exact q.2.2.2.2.2.1
    · exact q.2.2.2.2.2.2.1
    · exact q.2.2.2.2.2.2.2
  · exact absurd h (by decide)
/-- an update that sets nothing -/
theorem aq_t {cd nw st f g : Int → Int} {p vn : Int} (h : aq_ok cd nw st (p * 8) vn f g) (ht : ut st p = 1) (hv : vn ≤ 8) : g = f := by
  obtain ⟨u, ⟨k, h, a1, a2, a3, a4⟩, a5, a6⟩ := h
  have e : iob st (p * 8) vn.toNat 0 = -1 := by
    show bs st (p * 8) (-1) vn.toNat = -1
    exact bs_m (fun v hv2 => by
      have := ut_1 ht (v := v) (by omega) (by omega)
      omega)
  have k0 : k = 0 := by
    rcases Nat.eq_zero_or_pos k with r | r
    · exact r
    · have := (a4 0 r).1
      omega
  subst k0
  rw [← a3, a2]
def nc_ok (cd nw st tk ch : Int → Int) (vn j : Int) (g : Int → Int) : Prop := ∃ (k : Nat) (h : Nat → Int → Int), j = k ∧ h 0 = nw ∧ h k = g ∧ ∀ i : Nat, i < k → aq_ok cd nw st ((tk i * 6 + ch i) * 8) vn (h i) (h (i + 1))
theorem nc_0 {cd nw st tk ch : Int → Int} {vn : Int} : nc_ok cd nw st tk ch vn 0 nw := ⟨0, fun _ => nw, rfl, rfl, rfl, fun j h => absurd h (Nat.not_lt_zero j)⟩
theorem nc_s {cd nw st tk ch g g' : Int → Int} {vn j p : Int} (h : nc_ok cd nw st tk ch vn j g) (hq : aq_ok cd nw st ((tk j * 6 + ch j) * 8) vn g g') (hp : p = j + 1) : nc_ok cd nw st tk ch vn p g' := by
  obtain ⟨k, h, h1, h2, h3, h4⟩ := h
  subst h1
  refine ⟨k + 1, fun i => if i ≤ k then h i else g', by omega, ?_, ?_, fun i hi => ?_⟩
  · dsimp only
    rw [if_pos (Nat.zero_le k)]; exact h2
  · dsimp only
    rw [if_neg (by omega)]
  · dsimp only
    rw [if_pos (show i ≤ k by omega)]
    by_cases e : i = k
    · subst e
      rw [if_neg (by omega), h3]; exact hq
    · rw [if_pos (show i + 1 ≤ k by omega)]
      exact h4 i (by omega)
/-- ways that differ by updates that set nothing come out alike -/
theorem nc_u {cd nw st tk ch ch' g g' : Int → Int} {vn j : Int} (h : nc_ok cd nw st tk ch vn j g) (h' : nc_ok cd nw st tk ch' vn j g') (hv : vn ≤ 8) (he : ∀ i : Int, 0 ≤ i → i < j → ch i = ch' i ∨ (ut st (tk i * 6 + ch i) = 1 ∧ ut st (tk i * 6 + ch' i) = 1)) : g = g' := by
  obtain ⟨k, h, h1, h2, h3, h4⟩ := h
  obtain ⟨k', h', b1, b2, b3, b4⟩ := h'
  subst h1
  obtain rfl : k = k' := by omega
  have eq : ∀ i : Nat, i ≤ k → h i = h' i := fun i => by
    induction i with
    | zero => intro _; rw [h2, b2]
    | succ i ih =>
      intro hi
      have c1 := h4 i (by omega)
      have c2 := b4 i (by omega)
      rw [← ih (by omega)] at c2
      rcases he i (by omega) (by omega) with e | ⟨e1, e2⟩
      · rw [← e] at c2
        exact aq_u c1 c2
      · rw [aq_t c1 e1 hv, aq_t c2 e2 hv]
  rw [← h3, ← b3, eq k (Nat.le_refl k)]
/-- next, after j updates; within one, after u rounds -/
def nj_ok (cd nw st tk ch : Int → Int) (vn j : Int) (nx : Int → Int) : Prop := ∃ g : Int → Int, nc_ok cd nw st tk ch vn j g ∧ ag_ok nx g vn
def ni_ok (cd nw st tk ch : Int → Int) (vn j u : Int) (nx : Int → Int) : Prop := ∃ g f : Int → Int, nc_ok cd nw st tk ch vn j g ∧ au_ok cd nw st ((tk j * 6 + ch j) * 8) vn g u f ∧ ag_ok nx f vn
theorem nj_0 {cd nw st tk ch nx : Int → Int} {vn v : Int} (h : ag_ok nx nw v) (hv : vn ≤ v) : nj_ok cd nw st tk ch vn 0 nx := ⟨nw, nc_0, ag_d h hv⟩
theorem ni_0 {cd nw st tk ch nx : Int → Int} {vn j : Int} (h : nj_ok cd nw st tk ch vn j nx) : ni_ok cd nw st tk ch vn j 0 nx := by
  obtain ⟨g, h1, h2⟩ := h
  exact ⟨g, g, h1, au_0, h2⟩
theorem ni_s {cd nw st tk ch nx : Int → Int} {vn j u r x p b : Int} (h : ni_ok cd nw st tk ch vn j u nx) (hi : io_y st ((tk j * 6 + ch j) * 8) vn u r) (ht : b = 0 → TL2 cd nw (st ((tk j * 6 + ch j) * 8 + r)) x) (hb : b = 0) (hp : p = u + 1) : ni_ok cd nw st tk ch vn j p (hw_up nx r x) := by
  obtain ⟨g, f, h1, h2, h3⟩ := h
  exact ⟨g, hw_up f r x, h1, au_s h2 hi (ht hb) hp, ag_u h3 rfl (Or.inl (Int.le_refl vn))⟩
theorem nj_s {cd nw st tk ch nx : Int → Int} {vn j u p : Int} (h : ni_ok cd nw st tk ch vn j u nx) (hu : u = vn ∨ io_n st ((tk j * 6 + ch j) * 8) vn u) (h1 : u ≤ vn) (hp : p = j + 1) : nj_ok cd nw st tk ch vn p nx := by
  obtain ⟨g, f, h2, h3, h4⟩ := h
  exact ⟨f, nc_s h2 ⟨u, h3, h1, hu⟩ hp, h4⟩
/-- numbers multiplied along a way -/
def pd (f tk ch : Int → Int) : Nat → Int
  | 0 => 1
  | k + 1 => pd f tk ch k * f (tk k * 6 + ch k)
def pd_ok (f tk ch : Int → Int) (j p : Int) : Prop := ∃ k : Nat, j = k ∧ p = pd f tk ch k ∧ 1 ≤ p ∧ p ≤ 1000 ^ k
theorem pd_0 {f tk ch : Int → Int} : pd_ok f tk ch 0 1 := ⟨0, rfl, rfl, by decide, by decide⟩
theorem pd_b {f tk ch : Int → Int} {j p : Int} (h : pd_ok f tk ch j p) (hj : j ≤ 3) : 1 ≤ p ∧ p ≤ 1000000000 := by
  obtain ⟨k, h1, h2, h3, h4⟩ := h
  have c : k = 0 ∨ k = 1 ∨ k = 2 ∨ k = 3 := by omega
  rcases c with c | c | c | c <;> subst c <;> exact ⟨h3, Int.le_trans h4 (by decide)⟩
theorem pd_s {f tk ch : Int → Int} {j p z q r : Int} (h : pd_ok f tk ch j p) (hz : z = p * f (tk j * 6 + ch j) + 18446744073709551616 * q) (hr : -9223372036854775808 ≤ z ∧ z ≤ 9223372036854775807) (hf : 1 ≤ f (tk j * 6 + ch j) ∧ f (tk j * 6 + ch j) ≤ 1000) (hj : j ≤ 2) (hp : r = j + 1) : pd_ok f tk ch r z := by
  have hb := pd_b h (by omega)
  obtain ⟨k, h1, h2, h3, h4⟩ := h
  subst h1
  have b1 : 1 * 1 ≤ p * f (tk k * 6 + ch k) := Int.mul_le_mul h3 hf.1 (by decide) (by omega)
  have b2 : p * f (tk k * 6 + ch k) ≤ 1000 ^ k * 1000 := Int.mul_le_mul h4 hf.2 (by omega) (by omega)
  have b3 : p * f (tk k * 6 + ch k) ≤ 1000000000 * 1000 := Int.mul_le_mul hb.2 hf.2 (by omega) (by omega)
  have e : z = p * f (tk k * 6 + ch k) := by omega
  refine ⟨k + 1, by omega, ?_, by omega, ?_⟩
  · rw [e, h2]; rfl
  · rw [e, Int.pow_succ]; exact b2
/-- the commands taken, the updates chosen -/
def tz_ok (tk ch up : Int → Int) (n cn : Int) : Prop := ∃ _ : Unit, ∀ i : Int, 0 ≤ i → i < n → (0 ≤ tk i ∧ tk i < cn) ∧ 0 ≤ ch i ∧ ch i < up (tk i)
theorem tz_e {tk ch up : Int → Int} {n cn i : Int} (h : tz_ok tk ch up n cn) (h1 : 0 ≤ i) (h2 : i < n) : (0 ≤ tk i ∧ tk i < cn) ∧ 0 ≤ ch i ∧ ch i < up (tk i) := h.elim fun _ h => h i h1 h2
theorem ps_c {cd gu up ov un st cm ca : Int → Int} {cs n x k : Int} (h : ps_ok cd gu up ov un st cm ca cs n x) (h1 : 0 ≤ k) (h2 : k < n) : cq_ok cd gu up ov un st cm ca cs k := h.elim fun _ h => h.1 k h1 h2
theorem tz_b {cd gu up ov un st cm ca tk ch : Int → Int} {cs cn x n i : Int} (h : tz_ok tk ch up n cn) (hp : ps_ok cd gu up ov un st cm ca cs cn x) (h1 : 0 ≤ i) (h2 : i < n) : (0 ≤ tk i ∧ tk i < cn) ∧ (0 ≤ ch i ∧ ch i ≤ 5) ∧ (1 ≤ ov (tk i * 6 + ch i) ∧ ov (tk i * 6 + ch i) ≤ 1000) ∧ (1 ≤ un (tk i * 6 + ch i) ∧ un (tk i * 6 + ch i) ≤ 1000) := by
  have h3 := tz_e h h1 h2
  have h4 := ps_c hp h3.1.1 h3.1.2
  have h5 := c1_e h4.2.2.1 h3.2.1 h3.2.2
  have h6 := h4.2.1
  omega
theorem tz_w {cd gu up ov un st cm ca tk ch : Int → Int} {cs cn x n i v : Int} (h : tz_ok tk ch up n cn) (hp : ps_ok cd gu up ov un st cm ca cs cn x) (h1 : 0 ≤ i) (h2 : i < n) (h3 : 0 ≤ v) (h4 : v < 8) (h5 : 0 ≤ st ((tk i * 6 + ch i) * 8 + v)) : wp_ok cd (st ((tk i * 6 + ch i) * 8 + v)) cs := by
  have h6 := tz_e h h1 h2
  have h7 := ps_c hp h6.1.1 h6.1.2
  rcases h7.2.2.2.2.2.2 (ch i) v h6.2.1 h6.2.2 h3 h4 with e | e
  · omega
  · exact e
/-- rows of values: each its own -/
def dr_ok (va : Int → Int) (vn ns : Int) : Prop := ∃ _ : Unit, ∀ s t : Int, 0 ≤ s → s < t → t < ns → ∃ v : Int, 0 ≤ v ∧ v < vn ∧ ¬ va (8 * s + v) = va (8 * t + v)
theorem dr_e {va : Int → Int} {vn ns s t : Int} (h : dr_ok va vn ns) (h1 : 0 ≤ s) (h2 : s < ns) (h3 : 0 ≤ t) (h4 : t < ns) (he : ∀ v : Int, 0 ≤ v → v < vn → va (8 * s + v) = va (8 * t + v)) : s = t := by
  refine h.elim fun _ h => ?_
  rcases Int.lt_or_le s t with r | r
  · obtain ⟨v, a1, a2, a3⟩ := h s t h1 r h4
    exact absurd (he v a1 a2) a3
  · rcases Int.lt_or_le t s with q | q
    · obtain ⟨v, a1, a2, a3⟩ := h t s h3 q h2
      exact absurd (he v a1 a2).symm a3
    · omega
/-- none of the rows before s is what comes next -/
def rs_n (va nx : Int → Int) (vn s : Int) : Prop := ∃ _ : Unit, ∀ t : Int, 0 ≤ t → t < s → rn_ok va nx (8 * t) vn
theorem rn_0 {va nx : Int → Int} {vn : Int} : rs_n va nx vn 0 := ⟨(), fun t h1 h2 => absurd h1 (by omega)⟩
theorem rn_s {va nx : Int → Int} {vn s p : Int} (h : rs_n va nx vn s) (h1 : rn_ok va nx (8 * s) vn) (hp : p = s + 1) : rs_n va nx vn p := h.elim fun _ h => ⟨(), fun t h2 h3 => by
  by_cases e : t = s
  · rw [e]; exact h1
  · exact h t h2 (by omega)⟩
/-- a row put behind: the first v places -/
def rp_k (va vb nx : Int → Int) (s v : Int) : Prop := ∃ _ : Unit, (∀ q : Int, q < 8 * s → vb q = va q) ∧ ∀ i : Int, 0 ≤ i → i < v → vb (8 * s + i) = nx i
theorem rkj_0 {va nx : Int → Int} {s : Int} : rp_k va va nx s 0 := ⟨(), fun _ _ => rfl, fun i h1 h2 => absurd h1 (by omega)⟩
theorem rkj_s {va vb nx : Int → Int} {s v p : Int} (h : rp_k va vb nx s v) (h0 : 0 ≤ v) (hp : p = v + 1) : rp_k va (hw_up vb (8 * s + v) (nx v)) nx s p := h.elim fun _ h => ⟨(), fun q hq => by
  rw [hw_up_n (by omega)]; exact h.1 q hq, fun i h1 h2 => by
  by_cases e : i = v
  · rw [e, hw_up_s]
  · rw [hw_up_n (by omega)]; exact h.2 i h1 (by omega)⟩
/-- the rows that stood stay -/
def vk_ok (va vb : Int → Int) (ns : Int) : Prop := ∃ _ : Unit, ∀ q : Int, q < 8 * ns → vb q = va q
theorem vk_0 {va : Int → Int} {ns : Int} : vk_ok va va ns := ⟨(), fun _ _ => rfl⟩
theorem vk_t {va vb vc : Int → Int} {n m : Int} (h : vk_ok va vb n) (h' : vk_ok vb vc m) (hm : n ≤ m) : vk_ok va vc n := h.elim fun _ h => h'.elim fun _ h' => ⟨(), fun q hq => (h' q (by omega)).trans (h q hq)⟩
theorem vk_r {va vb nx : Int → Int} {s v n : Int} (h : rp_k va vb nx s v) (hs : s = n) : vk_ok va vb n := h.elim fun _ h => ⟨(), fun q hq => h.1 q (by omega)⟩
theorem ro_r {va vb nx : Int → Int} {s v n : Int} (h : rp_k va vb nx s v) (hv : n ≤ v) : ro_ok vb nx (8 * s) n := h.elim fun _ h => ⟨(), fun i h1 h2 => h.2 i h1 (by omega)⟩
theorem dr_s {va vb nx : Int → Int} {vn ns v p : Int} (h : dr_ok va vn ns) (hn : rs_n va nx vn ns) (hr : rp_k va vb nx ns v) (hv : vn ≤ v) (h8 : vn ≤ 8) (hp : p = ns + 1) : dr_ok vb vn p := h.elim fun _ h => hn.elim fun _ hn => hr.elim fun _ hr => ⟨(), fun s t h1 h2 h3 => by
  by_cases e : t = ns
  · subst e
    obtain ⟨i, a1, a2, a3⟩ := hn s h1 h2
    refine ⟨i, a1, a2, ?_⟩
    rw [hr.1 _ (by omega), hr.2 i a1 (by omega)]
    exact a3
  · obtain ⟨i, a1, a2, a3⟩ := h s t h1 h2 (by omega)
    refine ⟨i, a1, a2, ?_⟩
    rw [hr.1 _ (by omega), hr.1 _ (by omega)]
    exact a3⟩
theorem rn_e {va nx : Int → Int} {vn s p : Int} (h : rs_n va nx vn s) (hp : p = s) : rs_n va nx vn p := hp ▸ h
theorem rkj_e {va vb nx : Int → Int} {s v p : Int} (h : rp_k va vb nx s v) (hp : p = s) : rp_k va vb nx p v := hp ▸ h
/-- none of the outcomes from f0 to o leads to s -/
def gn_ok (go : Int → Int) (f0 o s : Int) : Prop := ∃ _ : Unit, ∀ q : Int, f0 ≤ q → q < o → ¬ go q = s
theorem gn_0 {go : Int → Int} {f0 s : Int} : gn_ok go f0 f0 s := ⟨(), fun q h1 h2 => absurd h1 (by omega)⟩
theorem gn_s {go : Int → Int} {f0 o s p : Int} (h : gn_ok go f0 o s) (h1 : ¬ go o = s) (hp : p = o + 1) : gn_ok go f0 p s := h.elim fun _ h => ⟨(), fun q h2 h3 => by
  by_cases e : q = o
  · rw [e]; exact h1
  · exact h q h2 (by omega)⟩
/-- outcomes that stood stay -/
def oa_ok (go ab be go' ab' be' : Int → Int) (f0 : Int) : Prop := ∃ _ : Unit, ∀ o : Int, o < f0 → go' o = go o ∧ bw ab' (o * 20) = bw ab (o * 20) ∧ bw be' (o * 20) = bw be (o * 20)
theorem oa_0 {go ab be : Int → Int} {f0 : Int} : oa_ok go ab be go ab be f0 := ⟨(), fun _ _ => ⟨rfl, rfl, rfl⟩⟩
theorem oa_t {go ab be go' ab' be' go2 ab2 be2 : Int → Int} {f0 p : Int} (h : oa_ok go ab be go' ab' be' f0) (h' : oa_ok go' ab' be' go2 ab2 be2 p) (hp : f0 ≤ p) : oa_ok go ab be go2 ab2 be2 f0 := h.elim fun _ h => h'.elim fun _ h' => ⟨(), fun o ho => by
  have a := h o ho
  have b := h' o (by omega)
  exact ⟨b.1.trans a.1, b.2.1.trans a.2.1, b.2.2.trans a.2.2⟩⟩
/-- what a choice counts on, before its way w is taken -/
def wuj_ok (W : Nat → Int) (D : Int) (w : Nat) : Prop := ∃ _ : Unit, (∀ i, i < w + 1 → 0 < W i) ∧ sm (w + 1) W ≤ D ∧ 1 ≤ D ∧ D < wB 6
theorem wuj_l {go ab be : Int → Int} {f0 oc D o : Int} {W dst : Nat → Int} {w : Nat} (h : wuj_ok W D w) (ho : ocm_ok go ab be f0 oc D W dst w) (h1 : f0 ≤ o) (h2 : o < oc) : (1 ≤ bw be (o * 20) ∧ bw be (o * 20) < wB 6) ∧ (1 ≤ bw ab (o * 20) ∧ bw ab (o * 20) < wB 6) := h.elim fun _ h => by
  have z := h.1 w (by omega)
  have z2 := h.2.1
  rw [sm_s] at z2
  exact oc_l ho (fun i hi => Int.le_of_lt (h.1 i (by omega))) (by omega) h.2.2.1 h.2.2.2 h1 h2
theorem wB_9 {x : Int} (h : x ≤ 1000000000) : x < wB 4 := by
  have e : wB 4 = 18446744073709551616 := by
    show (65536 : Int) ^ 4 = 18446744073709551616
    decide
  omega
theorem lv_le {N M x y X : Int} (h : lo_v N M x y) (hN : 1 ≤ N) (hM : 1 ≤ M) (h1 : N < X) (h2 : M < X) : x < X ∧ y < X := by
  obtain ⟨g, g0, g1, g2, g3, g4, g5⟩ := lv_1 h hN hM
  have b1 : 1 * x ≤ g * x := Int.mul_le_mul_of_nonneg_right g0 (by omega)
  have b2 : 1 * y ≤ g * y := Int.mul_le_mul_of_nonneg_right g0 (by omega)
  omega
theorem on_n {go ab be A1 B1 A B : Int → Int} {f0 oc D s p q P Q x y o oc' a1 b1 : Int} {W dst : Nat → Int} {w : Nat} (h : ocm_ok go ab be f0 oc D W dst w) (hs : gn_ok go f0 o s) (ho : o = oc) (hA1 : so_ok ab A1 (o * 20) a1) (hB1 : so_ok be B1 (o * 20) b1) (hA : so_ok A1 A (o * 20) x) (hB : so_ok B1 B (o * 20) y) (hl : lo_v P Q x y) (hP : P = p) (hQ : Q = q) (hp : 1 ≤ p ∧ p ≤ 1000000000) (hq : 1 ≤ q ∧ q ≤ 1000000000) (hqD : q ∣ D) (hw : D / q * p = W w) (hoc : oc' = oc + 1) : ocm_ok (hw_up go oc s) A B f0 oc' D W (dn dst w s) (w + 1) := by
  subst ho
  subst hP
  subst hQ
  have z := lv_le hl hp.1 hq.1 (wB_9 hp.2) (wB_9 hq.2)
  have z4 := wB_le (show 4 ≤ 20 by omega)
  have f := fs_1 hl hp.1 hq.1 hqD
  refine oc_new h (fun r h1 h2 => hs.elim fun _ hs => hs r h1 h2) (fun r hr => ?_) (fun r hr => ?_) (so_s hA (by omega)) (so_s hB (by omega)) ⟨f.1, f.2.1, f.2.2.1, f.2.2.2.1, f.2.2.2.2.trans hw⟩ hoc
  · rw [so_n hA (by omega), so_n hA1 (by omega)]
  · rw [so_n hB (by omega), so_n hB1 (by omega)]
theorem on_o {go ab be A B : Int → Int} {f0 oc D s p q P Q x y o : Int} {W dst : Nat → Int} {w : Nat} (h : ocm_ok go ab be f0 oc D W dst w) (ht : wuj_ok W D w) (ho1 : f0 ≤ o) (ho2 : o < oc) (hs : go o = s) (hA : so_ok ab A (o * 20) x) (hB : so_ok be B (o * 20) y) (hl : lo_v P Q x y) (hP : P = bw ab (o * 20) * q + bw be (o * 20) * p) (hQ : Q = bw be (o * 20) * q) (hp : 1 ≤ p ∧ p ≤ 1000000000) (hq : 1 ≤ q ∧ q ≤ 1000000000) (hqD : q ∣ D) (hw : D / q * p = W w) : ocm_ok go A B f0 oc D W (dn dst w s) (w + 1) := by
  subst hP
  subst hQ
  have l := wuj_l ht h ho1 ho2
  have m1 := wB_mul (show 0 ≤ bw ab (o * 20) by omega) (show 0 ≤ q by omega) l.2.2 (wB_9 hq.2)
  have m2 := wB_mul (show 0 ≤ bw be (o * 20) by omega) (show 0 ≤ p by omega) l.1.2 (wB_9 hp.2)
  have m3 := wB_mul (show 0 ≤ bw be (o * 20) by omega) (show 0 ≤ q by omega) l.1.2 (wB_9 hq.2)
  have n1 := Int.mul_pos (show 0 < bw ab (o * 20) by omega) (show 0 < q by omega)
  have n2 := Int.mul_pos (show 0 < bw be (o * 20) by omega) (show 0 < p by omega)
  have n3 := Int.mul_pos (show 0 < bw be (o * 20) by omega) (show 0 < q by omega)
  have w2 : wB (6 + 4) + wB (6 + 4) ≤ wB 11 := wB_2 (m := 10)
  have w3 := wB_le (show 11 ≤ 20 by omega)
  have z := lv_le (X := wB 20) hl (by omega) (by omega) (by omega) (by omega)
  have d1 := (h.elim fun _ h => h.2.1 o ho1 ho2).1
  have f := fs_2 hl d1.2.1 d1.1 hp.1 hq.1 d1.2.2.2 hqD
  refine oc_old h ho1 ho2 hs (fun r hr => so_n hA (by omega)) (fun r hr => so_n hB (by omega)) (so_s hA z.1) (so_s hB z.2) ⟨f.1, f.2.1, f.2.2.1, f.2.2.2.1, ?_⟩
  rw [f.2.2.2.2, hw]
theorem oa_s {go ab be A1 B1 A B : Int → Int} {f0 o oc a1 b1 x y s : Int} (hA1 : so_ok ab A1 (o * 20) a1) (hB1 : so_ok be B1 (o * 20) b1) (hA : so_ok A1 A (o * 20) x) (hB : so_ok B1 B (o * 20) y) (h0 : f0 ≤ o) (h1 : f0 ≤ oc) : oa_ok go ab be (hw_up go oc s) A B f0 := ⟨(), fun r hr => ⟨hw_up_n (by omega), by rw [so_n hA (by omega), so_n hA1 (by omega)], by rw [so_n hB (by omega), so_n hB1 (by omega)]⟩⟩
theorem oa_o {go ab be A B : Int → Int} {f0 o x y : Int} (hA : so_ok ab A (o * 20) x) (hB : so_ok be B (o * 20) y) (h0 : f0 ≤ o) : oa_ok go ab be go A B f0 := ⟨(), fun r hr => ⟨rfl, so_n hA (by omega), so_n hB (by omega)⟩⟩
end C71
