/-! TOKENS -/
/-- where the digits before the point end, behind it -/
def nw (t : Int → Int) (n p : Int) : Int := dg t n p - p
def nf (t : Int → Int) (n p : Int) : Int := if nw t n p ≤ 3 ∧ cO t n (p + nw t n p) = 46 then dg t n (p + nw t n p + 1) - (p + nw t n p + 1) else 0
def nsz (t : Int → Int) (n p : Int) : Int := if 0 < nf t n p then nw t n p + 1 + nf t n p else nw t n p
def nkd (t : Int → Int) (n p : Int) : Int := if 6 < nw t n p ∨ 3 < nf t n p ∨ isL (cO t n (p + nsz t n p)) then 1 else if 0 < nf t n p then 4 else 3
def nvl (t : Int → Int) (n p : Int) : Int := if 0 < nf t n p then dv t n p (nw t n p) * 1000 + dv t n (p + nw t n p + 1) (nf t n p) * p10 (3 - nf t n p) else dv t n p (nw t n p)
theorem nw_b {t : Int → Int} {n p : Int} (h0 : 0 ≤ p) (h : p < n) (hd : isD (t p)) : 1 ≤ nw t n p ∧ p + nw t n p ≤ n := by
  unfold nw
  have e : dg t n p = dg t n (p + 1) := dg_st rfl rfl (by rw [cO_in h0 h]; exact hd) rfl
  have a := dg_bd (t := t) (n := n) (q := p + 1) (by omega)
  have b := a.2.1 (by omega)
  omega
theorem nf_b {t : Int → Int} {n p : Int} (h0 : 0 ≤ p) (h : p < n) (hd : isD (t p)) : 0 ≤ nf t n p ∧ (0 < nf t n p → p + nw t n p + 1 + nf t n p ≤ n ∧ nw t n p ≤ 3) := by
  have a := nw_b h0 h hd
  unfold nf
  split
  · rename_i q
    have q2 : ¬ cO t n (p + nw t n p) = 0 := by omega
    have q3 := cO_ne q2
    have b := dg_bd (t := t) (n := n) (q := p + nw t n p + 1) (by omega)
    have c := b.2.1 (by omega)
    omega
  · omega
theorem nsz_b {t : Int → Int} {n p : Int} (h0 : 0 ≤ p) (h : p < n) (hd : isD (t p)) : 1 ≤ nsz t n p ∧ p + nsz t n p ≤ n := by
  have a := nw_b h0 h hd
  have b := nf_b h0 h hd
  unfold nsz
  split
  · rename_i q
    have c := b.2 q
    omega
  · omega
/-- the w-th word stands at p, s letters long -/
def wm (t : Int → Int) (n p s w : Int) : Prop := hw_sl pg_sb (4 + w) = s ∧ ∀ i, 0 ≤ i → i < s → cO t n (p + i) = hw_sc pg_sb (4 + w) i
open Classical in
noncomputable def wkf (t : Int → Int) (n p s : Int) : Nat → Int → Int
  | 0, _ => 2
  | f + 1, w => if wm t n p s w then 5 + w else wkf t n p s f (w + 1)
noncomputable def wki (t : Int → Int) (n p s w : Int) : Int := wkf t n p s (13 - w).toNat w
noncomputable def wk (t : Int → Int) (n p s : Int) : Int := wki t n p s 0
theorem wk_end {t : Int → Int} {n p s w X : Int} (h0 : X = wki t n p s w) (h : 13 ≤ w) : X = 2 := by
  rw [h0]
  unfold wki
  rw [show (13 - w).toNat = 0 by omega]
  rfl
theorem wk_hit {t : Int → Int} {n p s w X : Int} (h0 : X = wki t n p s w) (h : w < 13) (h1 : wm t n p s w) : X = 5 + w := by
  rw [h0]
  unfold wki
  rw [show (13 - w).toNat = (13 - (w + 1)).toNat + 1 by omega]
  exact if_pos h1
theorem wk_miss {t : Int → Int} {n p s w w' X : Int} (h0 : X = wki t n p s w) (h : w < 13) (h1 : ¬ wm t n p s w) (hw : w' = w + 1) : X = wki t n p s w' := by
  rw [h0, hw]
  unfold wki
  rw [show (13 - w).toNat = (13 - (w + 1)).toNat + 1 by omega]
  exact if_neg h1
theorem wkf_b {t : Int → Int} {n p s : Int} : ∀ (f : Nat) (w : Int), 0 ≤ w → w + f ≤ 13 → wkf t n p s f w = 2 ∨ (5 ≤ wkf t n p s f w ∧ wkf t n p s f w ≤ 17) := by
  intro f
  induction f with
  | zero => intro w _ _; exact Or.inl rfl
  | succ f ih =>
    intro w h0 h
    unfold wkf
    split
    · right; omega
    · exact ih (w + 1) (by omega) (by omega)
theorem wk_b {t : Int → Int} {n p s : Int} : wk t n p s = 2 ∨ (5 ≤ wk t n p s ∧ wk t n p s ≤ 17) := wkf_b _ _ (by omega) (by omega)
/-! signs -/
def sgk (c d : Int) : Int := if c = 45 ∧ d = 62 then 18 else if c = 46 ∧ d = 46 then 19 else if c = 61 ∧ d = 62 then 20 else if c = 33 ∧ d = 61 then 21 else if c = 60 ∧ d = 61 then 22 else if c = 62 ∧ d = 61 then 23
  else if c = 61 then 24 else if c = 60 then 25 else if c = 62 then 26 else if c = 43 then 27 else if c = 45 then 28 else if c = 42 then 29 else if c = 47 then 30 else if c = 33 then 31 else if c = 38 then 32 else if c = 124 then 33 else if c = 63 then 34 else if c = 58 then 35 else if c = 59 then 36 else if c = 44 then 37 else if c = 39 then 38 else if c = 40 then 39 else if c = 41 then 40 else if c = 91 then 41 else if c = 93 then 42 else 1
def sgl (c d : Int) : Int := if 18 ≤ sgk c d ∧ sgk c d ≤ 23 then 2 else 1
theorem sgk_b {c d : Int} : sgk c d = 1 ∨ (18 ≤ sgk c d ∧ sgk c d ≤ 42) := by
  unfold sgk
  repeat' split
  all_goals omega
/-- the octets of a String -/
theorem sb_2 : ∀ k : Fin 6, (hw_sc pg_sb 2 (2 * (k.val : Int)), hw_sc pg_sb 2 (2 * (k.val : Int) + 1)) = [((45 : Int), (62 : Int)), (46, 46), (61, 62), (33, 61), (60, 61), (62, 61)].getD k.val (0, 0) := by decide +kernel
theorem sb_3 : ∀ k : Fin 19, hw_sc pg_sb 3 (k.val : Int) = [(61 : Int), 60, 62, 43, 45, 42, 47, 33, 38, 124, 63, 58, 59, 44, 39, 40, 41, 91, 93].getD k.val 0 := by decide +kernel
/-- no pair before the k-th is it -/
def pr_no (c d k : Int) : Prop := ∃ _ : Unit, ∀ q, 0 ≤ q → q < k → ¬ (c = hw_sc pg_sb 2 (2 * q) ∧ d = hw_sc pg_sb 2 (2 * q + 1))
theorem pr_0 {c d : Int} : pr_no c d 0 := ⟨(), fun q h1 h2 => absurd h1 (by omega)⟩
theorem pr_s {c d k k' x y a b : Int} (h : pr_no c d k) (hx : x = hw_sc pg_sb 2 a) (ha : a = 2 * k) (hy : (¬ c = x) ∨ (y = hw_sc pg_sb 2 b ∧ b = 2 * k + 1 ∧ ¬ d = y)) (hk : k' = k + 1) : pr_no c d k' := by
  subst ha hx hk
  refine ⟨(), fun q h1 h2 => ?_⟩
  by_cases e : q = k
  · rintro ⟨q1, q2⟩
    subst e
    rcases hy with hy | ⟨hy, hb, hn⟩
    · exact hy q1
    · subst hb
      rw [hy] at hn
      exact hn q2
  · exact h.elim fun _ h => h q h1 (by omega)
theorem pr_lit {c d : Int} (h : pr_no c d 6) : ¬ (c = 45 ∧ d = 62) ∧ ¬ (c = 46 ∧ d = 46) ∧ ¬ (c = 61 ∧ d = 62) ∧ ¬ (c = 33 ∧ d = 61) ∧ ¬ (c = 60 ∧ d = 61) ∧ ¬ (c = 62 ∧ d = 61) := by
  obtain ⟨_, h⟩ := h
  have a0 := h 0 (by omega) (by omega)
  have a1 := h 1 (by omega) (by omega)
  have a2 := h 2 (by omega) (by omega)
  have a3 := h 3 (by omega) (by omega)
  have a4 := h 4 (by omega) (by omega)
  have a5 := h 5 (by omega) (by omega)
  exact ⟨a0, a1, a2, a3, a4, a5⟩
theorem sg_pair {c d k x y a b : Int} (h0 : 0 ≤ k) (h1 : k < 6) (hx : x = hw_sc pg_sb 2 a) (ha : a = 2 * k) (hy : y = hw_sc pg_sb 2 b) (hb : b = 2 * k + 1) (hc : c = x) (hd : d = y) : sgk c d = 18 + k ∧ sgl c d = 2 := by
  subst ha hb hx hy hc hd
  have q := sb_2 ⟨k.toNat, by omega⟩
  have e : ((k.toNat : Nat) : Int) = k := Int.toNat_of_nonneg h0
  dsimp only at q
  rw [e] at q
  injection q with q1 q2
  have c6 : k = 0 ∨ k = 1 ∨ k = 2 ∨ k = 3 ∨ k = 4 ∨ k = 5 := by omega
  rw [← q1, ← q2] at *
  rcases c6 with rfl | rfl | rfl | rfl | rfl | rfl <;> decide +kernel
theorem sg_single {c d r : Int} (h : pr_no c d 6) (h0 : 0 ≤ r) (h1 : r < 19) (hr : hw_sc pg_sb 3 r = c) : sgk c d = 24 + r ∧ sgl c d = 1 := by
  obtain ⟨a0, a1, a2, a3, a4, a5⟩ := pr_lit h
  have e : ((r.toNat : Nat) : Int) = r := Int.toNat_of_nonneg h0
  have q := sb_3 ⟨r.toNat, by omega⟩
  dsimp only at q
  rw [e, hr] at q
  have k1 : sgk c d = 24 + r := by
    unfold sgk
    rw [if_neg a0, if_neg a1, if_neg a2, if_neg a3, if_neg a4, if_neg a5]
    have c6 : r = 0 ∨ r = 1 ∨ r = 2 ∨ r = 3 ∨ r = 4 ∨ r = 5 ∨ r = 6 ∨ r = 7 ∨ r = 8 ∨ r = 9 ∨ r = 10 ∨ r = 11 ∨ r = 12 ∨ r = 13 ∨ r = 14 ∨ r = 15 ∨ r = 16 ∨ r = 17 ∨ r = 18 := by omega
    rcases c6 with rfl | rfl | rfl | rfl | rfl | rfl | rfl | rfl | rfl | rfl | rfl | rfl | rfl | rfl | rfl | rfl | rfl | rfl | rfl <;> (have q : c = _ := q; rw [q]; decide)
  refine ⟨k1, ?_⟩
  unfold sgl
  rw [k1, if_neg (by omega)]
theorem sg_none {c d : Int} (h : pr_no c d 6) (hn : ∀ p, 0 ≤ p → p < 19 → ¬ hw_sc pg_sb 3 p = c) : sgk c d = 1 ∧ sgl c d = 1 := by
  obtain ⟨a0, a1, a2, a3, a4, a5⟩ := pr_lit h
  have k1 : sgk c d = 1 := by
    unfold sgk
    rw [if_neg a0, if_neg a1, if_neg a2, if_neg a3, if_neg a4, if_neg a5]
    have b0 := hn 0 (by omega) (by omega)
    have b1 := hn 1 (by omega) (by omega)
    have b2 := hn 2 (by omega) (by omega)
    have b3 := hn 3 (by omega) (by omega)
    have b4 := hn 4 (by omega) (by omega)
    have b5 := hn 5 (by omega) (by omega)
    have b6 := hn 6 (by omega) (by omega)
    have b7 := hn 7 (by omega) (by omega)
    have b8 := hn 8 (by omega) (by omega)
    have b9 := hn 9 (by omega) (by omega)
    have b10 := hn 10 (by omega) (by omega)
    have b11 := hn 11 (by omega) (by omega)
    have b12 := hn 12 (by omega) (by omega)
    have b13 := hn 13 (by omega) (by omega)
    have b14 := hn 14 (by omega) (by omega)
    have b15 := hn 15 (by omega) (by omega)
    have b16 := hn 16 (by omega) (by omega)
    have b17 := hn 17 (by omega) (by omega)
    have b18 := hn 18 (by omega) (by omega)
    have b0 : ¬ (61 : Int) = c := b0
    have b1 : ¬ (60 : Int) = c := b1
    have b2 : ¬ (62 : Int) = c := b2
    have b3 : ¬ (43 : Int) = c := b3
    have b4 : ¬ (45 : Int) = c := b4
    have b5 : ¬ (42 : Int) = c := b5
    have b6 : ¬ (47 : Int) = c := b6
    have b7 : ¬ (33 : Int) = c := b7
    have b8 : ¬ (38 : Int) = c := b8
    have b9 : ¬ (124 : Int) = c := b9
    have b10 : ¬ (63 : Int) = c := b10
    have b11 : ¬ (58 : Int) = c := b11
    have b12 : ¬ (59 : Int) = c := b12
    have b13 : ¬ (44 : Int) = c := b13
    have b14 : ¬ (39 : Int) = c := b14
    have b15 : ¬ (40 : Int) = c := b15
    have b16 : ¬ (41 : Int) = c := b16
    have b17 : ¬ (91 : Int) = c := b17
    have b18 : ¬ (93 : Int) = c := b18
    repeat' split
    all_goals omega
  refine ⟨k1, ?_⟩
  unfold sgl
  rw [k1, if_neg (by omega)]
/-! a TOKEN at p; the TOKENS of a text -/
noncomputable def tkd (t : Int → Int) (n p : Int) : Int := if n ≤ p then 0 else if isL (cO t n p) then wk t n p (nl t n p) else if isD (cO t n p) then nkd t n p else sgk (cO t n p) (cO t n (p + 1))
def tln (t : Int → Int) (n p : Int) : Int := if n ≤ p then 0 else if isL (cO t n p) then nl t n p else if isD (cO t n p) then nsz t n p else sgl (cO t n p) (cO t n (p + 1))
theorem tkd_b {t : Int → Int} {n p : Int} : 0 ≤ tkd t n p ∧ tkd t n p ≤ 42 := by
  unfold tkd
  split
  · omega
  · split
    · have := wk_b (t := t) (n := n) (p := p) (s := nl t n p)
      omega
    · split
      · unfold nkd
        repeat' split
        all_goals omega
      · have := sgk_b (c := cO t n p) (d := cO t n (p + 1))
        omega
theorem tkd_0 {t : Int → Int} {n p : Int} : tkd t n p = 0 ↔ n ≤ p := by
  unfold tkd
  split
  · rename_i h
    exact ⟨fun _ => h, fun _ => rfl⟩
  · rename_i h
    refine ⟨fun q => ?_, fun q => absurd q h⟩
    split at q
    · have := wk_b (t := t) (n := n) (p := p) (s := nl t n p)
      omega
    · split at q
      · unfold nkd at q
        repeat' split at q
        all_goals omega
      · have := sgk_b (c := cO t n p) (d := cO t n (p + 1))
        omega
theorem tln_b {t : Int → Int} {n p : Int} (h0 : 0 ≤ p) (hp : p ≤ n) (hb : ¬ tkd t n p = 1) : 0 ≤ tln t n p ∧ p + tln t n p ≤ n := by
  unfold tln
  by_cases h : n ≤ p
  · rw [if_pos h]; omega
  · rw [if_neg h]
    have hc : cO t n p = t p := cO_in h0 (by omega)
    split
    · have := nl_b (t := t) h0 (show p < n by omega)
      omega
    · split
      · rename_i q
        rw [hc] at q
        have := nsz_b h0 (show p < n by omega) q
        omega
      · rename_i q1 q2
        unfold sgl
        split
        · rename_i q
          unfold sgk at q
          have hd : ¬ cO t n (p + 1) = 0 := by
            intro e
            rw [e] at q
            repeat' split at q
            all_goals omega
          have := cO_ne hd
          omega
        · omega
noncomputable def plf (t : Int → Int) (n : Int) : Nat → Int
  | 0 => sk t n 0 0
  | i + 1 => sk t n (plf t n i + tln t n (plf t n i)) 0
noncomputable def pli (t : Int → Int) (n j : Int) : Int := plf t n j.toNat
/-- which TOKEN the j-th is; there are at most 1500 -/
noncomputable def kd (t : Int → Int) (n j : Int) : Int := if 1500 ≤ j then 1 else tkd t n (pli t n j)
noncomputable def ln (t : Int → Int) (n j : Int) : Int := tln t n (pli t n j)
noncomputable def nu (t : Int → Int) (n j : Int) : Int := nvl t n (pli t n j)
theorem pli_0 {t : Int → Int} {n : Int} : pli t n 0 = sk t n 0 0 := rfl
theorem pli_s {t : Int → Int} {n j : Int} (h : 0 ≤ j) : pli t n (j + 1) = sk t n (pli t n j + ln t n j) 0 := by
  unfold pli ln
  rw [show (j + 1).toNat = j.toNat + 1 by omega]
  rfl
theorem kd_in {t : Int → Int} {n j : Int} (h : j < 1500) : kd t n j = tkd t n (pli t n j) := if_neg (by omega)
theorem kd_b {t : Int → Int} {n j : Int} : 0 ≤ kd t n j ∧ kd t n j ≤ 42 := by
  unfold kd
  split
  · omega
  · exact tkd_b
