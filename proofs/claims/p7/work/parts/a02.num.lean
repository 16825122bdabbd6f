/-! numbers and words, as they are read -/
def dgs (t : Int → Int) (n f m : Int) : Prop := ∃ _ : Unit, ∀ i, f ≤ i → i < f + m → isD (cO t n i)
theorem dgs_at {t : Int → Int} {n f m i : Int} (h : dgs t n f m) (h0 : f ≤ i) (h1 : i < f + m) : isD (cO t n i) := h.elim fun _ h => h i h0 h1
theorem dgs_w {t : Int → Int} {n f w : Int} (h0 : 0 ≤ f) (hw : w = nw t n f) : dgs t n f w := by
  refine ⟨(), fun i h1 h2 => (dg_bd (n := n) (t := t) h0).2.2 i h1 ?_⟩
  unfold nw at hw
  omega
theorem dgs_f {t : Int → Int} {n f w r y : Int} (h0 : 0 ≤ f) (hw : w = nw t n f) (hr : r = nf t n f) (hp : 0 < r) (hw0 : 0 ≤ w) (hy : y = f + w + 1) : dgs t n y r := by
  refine ⟨(), fun i h1 h2 => ?_⟩
  unfold nf at hr
  rw [← hw] at hr
  split at hr
  · exact (dg_bd (n := n) (t := t) (q := f + w + 1) (by omega)).2.2 i (by omega) (by omega)
  · omega
theorem p10_t : ∀ k : Fin 7, p10 (k.val : Int) = [1, 10, 100, 1000, 10000, 100000, 1000000].getD k.val 0 := by decide +kernel
theorem p10_v {k : Int} (h0 : 0 ≤ k) (h1 : k ≤ 6) : 1 ≤ p10 k ∧ p10 k ≤ 1000000 ∧ (k = 0 → p10 k = 1) ∧ (k = 1 → p10 k = 10) ∧ (k = 2 → p10 k = 100) ∧ (k = 3 → p10 k = 1000) ∧ (k ≤ 3 → p10 k ≤ 1000) := by
  have e : ((k.toNat : Nat) : Int) = k := Int.toNat_of_nonneg h0
  have q := p10_t ⟨k.toNat, by omega⟩
  dsimp only at q
  rw [e] at q
  have c : k = 0 ∨ k = 1 ∨ k = 2 ∨ k = 3 ∨ k = 4 ∨ k = 5 ∨ k = 6 := by omega
  rcases c with rfl | rfl | rfl | rfl | rfl | rfl | rfl <;> (rw [q]; decide)
theorem dv_le {t : Int → Int} {n f m i : Int} (h : dgs t n f m) (hm : m ≤ 6) (h0 : 0 ≤ i) (h1 : i ≤ m) : 0 ≤ dv t n f i ∧ dv t n f i ≤ 999999 ∧ dv t n f i < p10 i := by
  have a := dv_b (t := t) (n := n) (p := f) h0 (fun q q1 q2 => dgs_at h q1 (by omega))
  have b := p10_v h0 (show i ≤ 6 by omega)
  omega
theorem dv_cb {t : Int → Int} {n f m i c y : Int} (h : dgs t n f m) (h0 : 0 ≤ i) (h1 : i < m) (hc : c = cO t n y) (hy : y = f + i) : 48 ≤ c ∧ c ≤ 57 := by
  have a := dgs_at h (show f ≤ f + i by omega) (by omega)
  unfold isD at a
  subst hy
  omega
/-- thousandths -/
def ft_ok (t : Int → Int) (n f w r k th : Int) : Prop := ∃ _ : Unit, th = dv t n (f + w + 1) r * p10 (k - r) ∧ 0 ≤ th ∧ th < p10 k ∧ r ≤ k ∧ k ≤ 3
theorem ft_b {t : Int → Int} {n f w r k th : Int} (h : ft_ok t n f w r k th) (hr : 0 ≤ r) : 0 ≤ th ∧ th ≤ 999 ∧ r ≤ k ∧ k ≤ 3 := by
  obtain ⟨_, _, h2, h3, h4, h5⟩ := h
  have b := p10_v (k := k) (by omega) (by omega)
  omega
theorem ft_0 {t : Int → Int} {n f w r y th : Int} (h : th = dv t n y r) (hy : y = f + w + 1) (hd : dgs t n y r) (h0 : 0 ≤ r) (h1 : r ≤ 3) : ft_ok t n f w r r th := by
  subst hy
  have a := dv_le hd (by omega) h0 (Int.le_refl r)
  have b := p10_v (k := r - r) (by omega) (by omega)
  refine ⟨(), ?_, by omega, by omega, by omega, by omega⟩
  rw [b.2.2.1 (by omega), Int.mul_one]
  exact h
theorem ft_s {t : Int → Int} {n f w r k k' th th' : Int} (h : ft_ok t n f w r k th) (h0 : 0 ≤ r) (h1 : k < 3) (hk : k' = k + 1) (ht : th' = th * 10) : ft_ok t n f w r k' th' := by
  obtain ⟨_, a, b, c, d, e⟩ := h
  have e1 : p10 (k - r + 1) = p10 (k - r) * 10 := by
    unfold p10
    rw [show (k - r + 1).toNat = (k - r).toNat + 1 by omega, Int.pow_succ]
  have e2 : p10 (k + 1) = p10 k * 10 := by
    unfold p10
    rw [show (k + 1).toNat = k.toNat + 1 by omega, Int.pow_succ]
  subst hk ht
  refine ⟨(), ?_, by omega, by omega, by omega, by omega⟩
  rw [show k + 1 - r = k - r + 1 by omega, e1, ← Int.mul_assoc, a]
theorem nv_r {t : Int → Int} {n f w r k th v x : Int} (h : ft_ok t n f w r k th) (hw : w = nw t n f) (hr : r = nf t n f) (h0 : 0 < r) (hk : 3 ≤ k) (hx : x = dv t n f w) (hv : v = x * 1000 + th) : v = nvl t n f := by
  obtain ⟨_, a, b, c, d, e⟩ := h
  have k3 : k = 3 := by omega
  subst k3
  unfold nvl
  rw [← hr, if_pos h0, ← hw, ← hx, ← a]
  exact hv
theorem nv_i {t : Int → Int} {n f w r v : Int} (hw : w = nw t n f) (hr : r = nf t n f) (h0 : r ≤ 0) (hv : v = dv t n f w) : v = nvl t n f := by
  unfold nvl
  rw [← hr, if_neg (by omega), ← hw]
  exact hv
theorem nf_1 {t : Int → Int} {n f w : Int} (hw : w = nw t n f) (h : 3 < w) : 0 = nf t n f := by
  unfold nf
  rw [← hw, if_neg (by omega)]
theorem nf_2 {t : Int → Int} {n f w c y : Int} (hw : w = nw t n f) (hc : c = cO t n y) (hy : y = f + w) (h : ¬ c = 46) : 0 = nf t n f := by
  subst hy
  unfold nf
  rw [← hw, if_neg (by omega)]
theorem nf_3 {t : Int → Int} {n f w c y z r : Int} (hw : w = nw t n f) (hc : c = cO t n y) (hz : r = dg t n z - z) (hy : y = f + w) (h1 : w ≤ 3) (h : c = 46) (h2 : z = f + w + 1) : r = nf t n f := by
  subst hy h2
  unfold nf
  rw [← hw, if_pos (by omega)]
  exact hz
theorem ns_1 {t : Int → Int} {n f w r s : Int} (hw : w = nw t n f) (hr : r = nf t n f) (h : 0 < r) (hs : s = w + 1 + r) : s = nsz t n f := by
  unfold nsz
  rw [← hr, if_pos h, ← hw]
  exact hs
theorem ns_2 {t : Int → Int} {n f w r s : Int} (hw : w = nw t n f) (hr : r = nf t n f) (h : r ≤ 0) (hs : s = w) : s = nsz t n f := by
  unfold nsz
  rw [← hr, if_neg (by omega), ← hw]
  exact hs
theorem nk_1 {t : Int → Int} {n f w r s : Int} (hw : w = nw t n f) (hr : r = nf t n f) (h : 6 < w ∨ 3 < r) : nkd t n f = 1 := by
  unfold nkd
  rw [← hr, ← hw, if_pos (by omega)]
theorem nk_2 {t : Int → Int} {n f s c y : Int} (hs : s = nsz t n f) (hc : c = cO t n y) (hy : y = f + s) (h : isL c) : nkd t n f = 1 := by
  subst hy hc
  unfold nkd
  rw [← hs, if_pos (Or.inr (Or.inr h))]
theorem nk_3 {t : Int → Int} {n f w r s c y : Int} (hw : w = nw t n f) (hr : r = nf t n f) (hs : s = nsz t n f) (hc : c = cO t n y) (hn : ¬ isL c) (hy : y = f + s) (h1 : w ≤ 6) (h2 : r ≤ 3) : (0 < r → nkd t n f = 4) ∧ (r ≤ 0 → nkd t n f = 3) := by
  subst hy hc
  unfold nkd
  rw [← hr, ← hw, ← hs, if_neg (by rintro (h | h | h); omega; omega; exact hn h)]
  exact ⟨fun h => if_pos h, fun h => if_neg (by omega)⟩
/-! words -/
def wy (t : Int → Int) (n f s m : Int) : Prop := ∃ _ : Unit, ∀ k, 0 ≤ k → k < m → cO t n (f + k) = hw_sc pg_sb 1 (s + k)
theorem wy_at {t : Int → Int} {n f s m k : Int} (h : wy t n f s m) (h0 : 0 ≤ k) (h1 : k < m) : cO t n (f + k) = hw_sc pg_sb 1 (s + k) := h.elim fun _ h => h k h0 h1
theorem wy_0 {t : Int → Int} {n f s : Int} : wy t n f s 0 := ⟨(), fun k h1 h2 => absurd h1 (by omega)⟩
theorem wy_s {t : Int → Int} {n f s i i' x y a b : Int} (h : wy t n f s i) (hx : x = cO t n a) (hy : y = hw_sc pg_sb 1 b) (ha : a = f + i) (hb : b = s + i) (e : x = y) (hi : i' = i + 1) : wy t n f s i' := by
  subst ha hb hi
  refine ⟨(), fun k h1 h2 => ?_⟩
  by_cases q : k = i
  · subst q; omega
  · exact wy_at h h1 (by omega)
theorem wy_no {t : Int → Int} {n f s i m x y a b : Int} (h : wy t n f s m) (hx : x = cO t n a) (hy : y = hw_sc pg_sb 1 b) (ha : a = f + i) (hb : b = s + i) (e : ¬ x = y) (h0 : 0 ≤ i) (h1 : i < m) : False := by
  subst ha hb
  have := wy_at h h0 h1
  omega
theorem wy_le {t : Int → Int} {n f s i m : Int} (h : wy t n f s i) (hm : m ≤ i) : wy t n f s m := ⟨(), fun k h1 h2 => wy_at h h1 (by omega)⟩
/-- how many words end before the i-th octet; where the w-th begins -/
def wfo (i : Int) : Int := ((((pg_sb 1).take i.toNat).countP (fun c => c == 32) : Nat) : Int)
def wst (w : Int) : Int := [0, 4, 10, 14, 19, 26, 36, 41, 48, 53, 59, 63, 67, 71].getD w.toNat 0
theorem wzz_t : ∀ i : Fin 71, (hw_sc pg_sb 1 (i.val : Int) = 32 → wfo ((i.val : Int) + 1) = wfo (i.val : Int) + 1 ∧ wst (wfo (i.val : Int) + 1) = (i.val : Int) + 1 ∧ hw_sl pg_sb (4 + wfo (i.val : Int)) = (i.val : Int) - wst (wfo (i.val : Int)) ∧ wfo (i.val : Int) < 13) ∧ (¬ hw_sc pg_sb 1 (i.val : Int) = 32 → wfo ((i.val : Int) + 1) = wfo (i.val : Int)) := by decide +kernel
theorem wzz_u : ∀ i : Fin 72, 0 ≤ wfo (i.val : Int) ∧ wfo (i.val : Int) ≤ 13 ∧ 0 ≤ wst (wfo (i.val : Int)) ∧ wst (wfo (i.val : Int)) ≤ (i.val : Int) := by decide +kernel
theorem wzz_w : ∀ w : Fin 13, ∀ k : Fin 9, ((k.val : Int) < hw_sl pg_sb (4 + (w.val : Int)) → hw_sc pg_sb 1 (wst (w.val : Int) + (k.val : Int)) = hw_sc pg_sb (4 + (w.val : Int)) (k.val : Int)) ∧ hw_sl pg_sb (4 + (w.val : Int)) ≤ 9 := by decide +kernel
def wzz_ok (t : Int → Int) (n f m i w s : Int) : Prop := ∃ _ : Unit, w = 5 + wfo i ∧ s = wst (wfo i) ∧ wk t n f m = wki t n f m (wfo i)
theorem wzz_at {i : Int} (h0 : 0 ≤ i) (h1 : i < 71) : (hw_sc pg_sb 1 i = 32 → wfo (i + 1) = wfo i + 1 ∧ wst (wfo i + 1) = i + 1 ∧ hw_sl pg_sb (4 + wfo i) = i - wst (wfo i) ∧ wfo i < 13) ∧ (¬ hw_sc pg_sb 1 i = 32 → wfo (i + 1) = wfo i) := by
  have e : ((i.toNat : Nat) : Int) = i := Int.toNat_of_nonneg h0
  have b := wzz_t ⟨i.toNat, by omega⟩
  dsimp only at b
  rw [e] at b
  exact b
theorem wzz_b {t : Int → Int} {n f m i w s : Int} (h : wzz_ok t n f m i w s) (h0 : 0 ≤ i) (h1 : i ≤ 71) : 0 ≤ wfo i ∧ 0 ≤ s ∧ s ≤ i ∧ 5 ≤ w ∧ w ≤ 18 := by
  obtain ⟨_, a, b, c⟩ := h
  have e : ((i.toNat : Nat) : Int) = i := Int.toNat_of_nonneg h0
  have q := wzz_u ⟨i.toNat, by omega⟩
  dsimp only at q
  rw [e] at q
  omega
theorem wzz_wm {t : Int → Int} {n f m w : Int} (h0 : 0 ≤ w) (h1 : w < 13) (hl : hw_sl pg_sb (4 + w) = m) : wy t n f (wst w) m ↔ wm t n f m w := by
  have e : ((w.toNat : Nat) : Int) = w := Int.toNat_of_nonneg h0
  have key : ∀ k, 0 ≤ k → k < m → hw_sc pg_sb 1 (wst w + k) = hw_sc pg_sb (4 + w) k := by
    intro k k0 k1
    have e2 : ((k.toNat : Nat) : Int) = k := Int.toNat_of_nonneg k0
    have q9 := (wzz_w ⟨w.toNat, by omega⟩ ⟨0, by omega⟩).2
    dsimp only at q9
    rw [e] at q9
    have q := (wzz_w ⟨w.toNat, by omega⟩ ⟨k.toNat, by omega⟩).1
    dsimp only at q
    rw [e, e2] at q
    exact q (by omega)
  constructor
  · intro h
    exact ⟨hl, fun k k0 k1 => (wy_at h k0 k1).trans (key k k0 k1)⟩
  · intro h
    exact ⟨(), fun k k0 k1 => (h.2 k k0 k1).trans (key k k0 k1).symm⟩
theorem wzz_0 {t : Int → Int} {n f m : Int} : wzz_ok t n f m 0 5 0 := ⟨(), by decide +kernel, by decide +kernel, by rw [show wfo 0 = 0 by decide +kernel]; rfl⟩
theorem wzz_nx {t : Int → Int} {n f m i i' w s x : Int} (h : wzz_ok t n f m i w s) (hx : x = hw_sc pg_sb 1 i) (h0 : 0 ≤ i) (h1 : i < 71) (e : ¬ x = 32) (hi : i' = i + 1) : wzz_ok t n f m i' w s := by
  obtain ⟨_, a, b, c⟩ := h
  have q := (wzz_at h0 h1).2 (by omega)
  subst hi
  exact ⟨(), by rw [q]; exact a, by rw [q]; exact b, by rw [q]; exact c⟩
theorem wzz_sp {t : Int → Int} {n f m i i' w w' s s' x y : Int} (h : wzz_ok t n f m i w s) (hx : x = hw_sc pg_sb 1 i) (h0 : 0 ≤ i) (h1 : i < 71) (e : x = 32) (hy : y = i - s) (hn : ¬ y = m ∨ ¬ wy t n f s m) (hi : i' = i + 1) (hw : w' = w + 1) (hs : s' = i + 1) : wzz_ok t n f m i' w' s' := by
  have hb := wzz_b h h0 (by omega)
  obtain ⟨_, a, b, c⟩ := h
  obtain ⟨q1, q2, q3, q4⟩ := (wzz_at h0 h1).1 (by omega)
  subst hi
  refine ⟨(), by omega, by rw [q1, q2]; exact hs, ?_⟩
  rw [q1]
  refine wk_miss c q4 ?_ rfl
  rcases hn with hn | hn
  · intro z
    have := z.1
    omega
  · intro z
    rw [b] at hn
    exact hn ((wzz_wm hb.1 q4 z.1).mpr z)
theorem wzz_hit {t : Int → Int} {n f m i w s x y : Int} (h : wzz_ok t n f m i w s) (hx : x = hw_sc pg_sb 1 i) (hq : wy t n f s m) (h0 : 0 ≤ i) (h1 : i < 71) (e : x = 32) (hy : y = i - s) (hn : y = m) : w = wk t n f m := by
  have hb := wzz_b h h0 (by omega)
  obtain ⟨_, a, b, c⟩ := h
  obtain ⟨q1, q2, q3, q4⟩ := (wzz_at h0 h1).1 (by omega)
  rw [b] at hq
  have z := wk_hit c q4 ((wzz_wm hb.1 q4 (by omega)).mp hq)
  omega
theorem wzz_e {t : Int → Int} {n f m i w s : Int} (h : wzz_ok t n f m i w s) (hi : i = 71) : 2 = wk t n f m := by
  subst hi
  obtain ⟨_, a, b, c⟩ := h
  exact (wk_end c (by decide +kernel)).symm
/-! a TOKEN is put down at i -/
def tkn_ok (t : Int → Int) (n p i : Int) (tk tk' pl pl' le le' nm nm' : Int → Int) : Prop := ∃ _ : Unit, (∀ q, ¬ q = i → tk' q = tk q ∧ pl' q = pl q ∧ le' q = le q ∧ nm' q = nm q) ∧ tk' i = tkd t n p ∧ pl' i = p ∧ le' i = tln t n p ∧ (tkd t n p = 3 ∨ tkd t n p = 4 → nm' i = nvl t n p)
theorem tkn_i {t : Int → Int} {n p i a b v : Int} {tk pl le nm : Int → Int} (ha : a = tkd t n p) (hb : b = tln t n p) (hv : tkd t n p = 3 ∨ tkd t n p = 4 → v = nvl t n p) : tkn_ok t n p i tk (hw_up tk i a) pl (hw_up pl i p) le (hw_up le i b) nm (hw_up nm i v) := by
  refine ⟨(), fun q hq => ?_, ?_, ?_, ?_, ?_⟩
  · rw [hw_up_n hq, hw_up_n hq, hw_up_n hq, hw_up_n hq]
    exact ⟨rfl, rfl, rfl, rfl⟩
  · rw [hw_up_s]; exact ha
  · rw [hw_up_s]
  · rw [hw_up_s]; exact hb
  · rw [hw_up_s]; exact hv
theorem tkn_j {t : Int → Int} {n p i a b v u : Int} {tk pl le nm : Int → Int} (ha : a = tkd t n p) (hb : b = tln t n p) (hv : tkd t n p = 3 ∨ tkd t n p = 4 → v = nvl t n p) : tkn_ok t n p i tk (hw_up tk i a) pl (hw_up pl i p) le (hw_up le i b) nm (hw_up (hw_up nm i u) i v) := by
  refine ⟨(), fun q hq => ?_, ?_, ?_, ?_, ?_⟩
  · rw [hw_up_n hq, hw_up_n hq, hw_up_n hq, hw_up_n hq, hw_up_n hq]
    exact ⟨rfl, rfl, rfl, rfl⟩
  · rw [hw_up_s]; exact ha
  · rw [hw_up_s]
  · rw [hw_up_s]; exact hb
  · rw [hw_up_s]; exact hv
theorem tk_end {t : Int → Int} {n p : Int} (h : n ≤ p) : 0 = tkd t n p ∧ 0 = tln t n p := by
  unfold tkd tln
  rw [if_pos h, if_pos h]
  exact ⟨rfl, rfl⟩
theorem tk_nam {t : Int → Int} {n p c a b : Int} (h : p < n) (hc : c = cO t n p) (hl : isL c) (ha : a = nl t n p) (hb : b = wk t n p a) : b = tkd t n p ∧ a = tln t n p := by
  subst hc ha
  unfold tkd tln
  have hp : ¬ n ≤ p := by omega
  rw [if_neg hp, if_neg hp, if_pos hl, if_pos hl]
  exact ⟨hb, rfl⟩
theorem tk_num {t : Int → Int} {n p c a b : Int} (h : p < n) (hc : c = cO t n p) (hl : ¬ isL c) (hd : isD c) (ha : a = nsz t n p) (hb : nkd t n p = b) : b = tkd t n p ∧ a = tln t n p := by
  subst hc
  unfold tkd tln
  have hp : ¬ n ≤ p := by omega
  rw [if_neg hp, if_neg hp, if_neg hl, if_neg hl, if_pos hd, if_pos hd]
  exact ⟨hb.symm, ha⟩
theorem tk_sgn {t : Int → Int} {n p c d y a b : Int} (h : p < n) (hc : c = cO t n p) (hd : d = cO t n y) (hl : ¬ isL c) (hn : ¬ isD c) (hy : y = p + 1) (ha : a = sgl c d) (hb : b = sgk c d) : b = tkd t n p ∧ a = tln t n p := by
  subst hy hc hd
  unfold tkd tln
  have hp : ¬ n ≤ p := by omega
  rw [if_neg hp, if_neg hp, if_neg hl, if_neg hl, if_neg hn, if_neg hn]
  exact ⟨hb, ha⟩
theorem nkd_b {t : Int → Int} {n p : Int} : nkd t n p = 1 ∨ nkd t n p = 3 ∨ nkd t n p = 4 := by
  unfold nkd
  repeat' split
  all_goals omega
/-- the TOKENS that are put down -/
def tks (t : Int → Int) (n m : Int) (tk pl le nm : Int → Int) : Prop := ∃ _ : Unit, ∀ q, 0 ≤ q → q < m → tk q = kd t n q ∧ pl q = pli t n q ∧ (¬ kd t n q = 1 → le q = ln t n q) ∧ (kd t n q = 3 ∨ kd t n q = 4 → nm q = nu t n q) ∧ (q < m - 1 → ¬ kd t n q = 0 ∧ ¬ kd t n q = 1)
theorem tks_at {t : Int → Int} {n m q : Int} {tk pl le nm : Int → Int} (h : tks t n m tk pl le nm) (h0 : 0 ≤ q) (h1 : q < m) : tk q = kd t n q ∧ pl q = pli t n q ∧ (¬ kd t n q = 1 → le q = ln t n q) ∧ (kd t n q = 3 ∨ kd t n q = 4 → nm q = nu t n q) ∧ (q < m - 1 → ¬ kd t n q = 0 ∧ ¬ kd t n q = 1) := h.elim fun _ h => h q h0 h1
/-- before the i-th: where it is looked for -/
def tks_p (t : Int → Int) (n i f : Int) (tk pl le nm : Int → Int) : Prop := ∃ _ : Unit, 0 ≤ f ∧ f ≤ n ∧ pli t n i = sk t n f 0 ∧ ∀ q, 0 ≤ q → q < i → tk q = kd t n q ∧ pl q = pli t n q ∧ (¬ kd t n q = 1 → le q = ln t n q) ∧ (kd t n q = 3 ∨ kd t n q = 4 → nm q = nu t n q) ∧ ¬ kd t n q = 0 ∧ ¬ kd t n q = 1
theorem tks_0 {t : Int → Int} {n : Int} {tk pl le nm : Int → Int} (h : 0 ≤ n) : tks_p t n 0 0 tk pl le nm := ⟨(), by omega, h, rfl, fun q h1 h2 => absurd h1 (by omega)⟩
theorem tks_f {t : Int → Int} {n i f p : Int} {tk pl le nm : Int → Int} (h : tks_p t n i f tk pl le nm) (hp : p = sk t n f 0) : 0 ≤ p ∧ p ≤ n ∧ p = pli t n i := by
  obtain ⟨_, a, b, c, _⟩ := h
  have := sk_le (t := t) (r := 0) b
  rw [c]
  omega
theorem tks_pb {t : Int → Int} {n i f : Int} {tk pl le nm : Int → Int} (h : tks_p t n i f tk pl le nm) : 0 ≤ f ∧ f ≤ n := h.elim fun _ h => ⟨h.1, h.2.1⟩
theorem tks_s {t : Int → Int} {n i i' f p f' x : Int} {tk tk' pl pl' le le' nm nm' : Int → Int} (h : tks_p t n i f tk pl le nm) (hp : p = sk t n f 0) (ht : tkn_ok t n p i tk tk' pl pl' le le' nm nm') (h0 : 0 ≤ i) (h1 : i < 1500) (hx : x = tk' i) (hn0 : ¬ x = 0) (hn1 : ¬ x = 1) (hf : f' = p + le' i) (hi : i' = i + 1) : tks_p t n i' f' tk' pl' le' nm' := by
  have hb := tks_f h hp
  obtain ⟨_, a, b, c, d⟩ := h
  obtain ⟨_, t1, t2, t3, t4, t5⟩ := ht
  have k1 : kd t n i = tkd t n p := by rw [kd_in h1, ← hb.2.2]
  have l1 : ln t n i = tln t n p := by unfold ln; rw [← hb.2.2]
  have u1 : nu t n i = nvl t n p := by unfold nu; rw [← hb.2.2]
  have tb := tln_b (t := t) hb.1 hb.2.1 (by omega)
  subst hi
  refine ⟨(), by omega, by omega, ?_, fun q q0 q1 => ?_⟩
  · rw [pli_s h0, ← hb.2.2, l1, hf, t4]
  · by_cases e : q = i
    · subst e
      refine ⟨by omega, by omega, fun _ => by omega, fun z => ?_, by omega, by omega⟩
      rw [u1]
      exact t5 (by omega)
    · obtain ⟨r1, r2, r3, r4⟩ := t1 q e
      rw [r1, r2, r3, r4]
      exact d q q0 (by omega)
theorem tks_e {t : Int → Int} {n i m f p x : Int} {tk tk' pl pl' le le' nm nm' : Int → Int} (h : tks_p t n i f tk pl le nm) (hp : p = sk t n f 0) (ht : tkn_ok t n p i tk tk' pl pl' le le' nm nm') (h0 : 0 ≤ i) (h1 : i < 1500) (hx : x = tk' i) (hn : x = 0 ∨ x = 1) (hm : m = i + 1) : tks t n m tk' pl' le' nm' ∧ (kd t n (m - 1) = 0 ∨ kd t n (m - 1) = 1) := by
  have hb := tks_f h hp
  obtain ⟨_, a, b, c, d⟩ := h
  obtain ⟨_, t1, t2, t3, t4, t5⟩ := ht
  have k1 : kd t n i = tkd t n p := by rw [kd_in h1, ← hb.2.2]
  have l1 : ln t n i = tln t n p := by unfold ln; rw [← hb.2.2]
  have u1 : nu t n i = nvl t n p := by unfold nu; rw [← hb.2.2]
  subst hm
  refine ⟨⟨(), fun q q0 q1 => ?_⟩, ?_⟩
  · by_cases e : q = i
    · subst e
      refine ⟨by omega, by omega, fun _ => by omega, fun z => ?_, fun z => by omega⟩
      rw [u1]
      exact t5 (by omega)
    · obtain ⟨r1, r2, r3, r4⟩ := t1 q e
      rw [r1, r2, r3, r4]
      have z := d q q0 (by omega)
      exact ⟨z.1, z.2.1, z.2.2.1, z.2.2.2.1, fun _ => z.2.2.2.2⟩
  · rw [show i + 1 - 1 = i by omega, k1]
    omega
theorem tks_b {t : Int → Int} {n i m f p : Int} {tk tk' pl pl' le le' nm nm' : Int → Int} (h : tks_p t n i f tk pl le nm) (hp : p = sk t n f 0) (ht : tkn_ok t n p i tk tk' pl pl' le le' nm nm') (h1 : i = 1500) (hm : m = i + 1) : tks t n m (hw_up tk' i 1) pl' le' nm' ∧ (kd t n (m - 1) = 0 ∨ kd t n (m - 1) = 1) := by
  have hb := tks_f h hp
  obtain ⟨_, a, b, c, d⟩ := h
  obtain ⟨_, t1, t2, t3, t4, t5⟩ := ht
  have k1 : kd t n i = 1 := if_pos (by omega)
  subst hm
  refine ⟨⟨(), fun q q0 q1 => ?_⟩, ?_⟩
  · by_cases e : q = i
    · subst e
      rw [hw_up_s]
      exact ⟨k1.symm, by omega, fun z => absurd k1 z, fun z => by omega, fun z => by omega⟩
    · obtain ⟨r1, r2, r3, r4⟩ := t1 q e
      rw [hw_up_n e, r1, r2, r3, r4]
      have z := d q q0 (by omega)
      exact ⟨z.1, z.2.1, z.2.2.1, z.2.2.2.1, fun _ => z.2.2.2.2⟩
  · rw [show i + 1 - 1 = i by omega, k1]
    exact Or.inr rfl
theorem sg_no {c d m z : Int} (hs : sx_no 3 z m) (h : pr_no c d 12) (hm : m = 19) (hz : z = c) : 1 = sgk c d ∧ 1 = sgl c d := by
  subst hz
  have q := sg_none h (fun p p0 p1 => sx_at hs p0 (by omega))
  exact ⟨q.1.symm, q.2.symm⟩
theorem sg_one {c d r z : Int} (hr : hw_sc pg_sb 3 r = z) (h : pr_no c d 12) (h0 : 0 ≤ r) (h1 : r < 19) (hz : z = c) : 24 + r = sgk c d ∧ 1 = sgl c d := by
  subst hz
  have q := sg_single h h0 h1 hr
  exact ⟨q.1.symm, q.2.symm⟩
theorem c16_t : ∀ c : Fin 128, hb_i2c (c.val : Int) = (c.val : Int) := by decide +kernel
theorem c16_id {c : Int} (h : 0 ≤ c ∧ c ≤ 127) : hb_i2c c = c := by
  have e : ((c.toNat : Nat) : Int) = c := Int.toNat_of_nonneg h.1
  have b := c16_t ⟨c.toNat, by omega⟩
  dsimp only at b
  rw [e] at b
  exact b
