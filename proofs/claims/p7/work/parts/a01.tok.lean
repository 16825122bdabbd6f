/-! TOKENS -/
/-- where the digits before the point end, behind it -/
def nw (t : Int → Int) (n p : Int) : Int := dg t n p - p
def nf (t : Int → Int) (n p : Int) : Int := if nw t n p ≤ 3 ∧ cO t n (p + nw t n p) = 46 then dg t n (p + nw t n p + 1) - (p + nw t n p + 1) else 0
def nsz (t : Int → Int) (n p : Int) : Int := if 0 < nf t n p then nw t n p + 1 + nf t n p else nw t n p
def nkd (t : Int → Int) (n p : Int) : Int := if 6 < nw t n p ∨ 3 < nf t n p ∨ isL (cO t n (p + nsz t n p)) then 1 else if 0 < nf t n p then 4 else 3
def nvl (t : Int → Int) (n p : Int) : Int := if 0 < nf t n p then dv t n p (nw t n p) * 1000 + dv t n (p + nw t n p + 1) (nf t n p) * p10 (3 - nf t n p) else dv t n p (nw t n p)
theorem nw_b {t : Int → Int} {n p : Int} (h0 : 0 ≤ p) (h : p < n) (hd : isD (t p)) : 1 ≤ nw t n p ∧ p + nw t n p ≤ n := by
  unfold nw
  have e : dg t n p = dg t n (p + 1) := dg_st rfl rfl (by rw [cO_in h0 h]; exact hd) rfl
  have a := dg_bd (t := t) (n := n) (q := p + 1) (by omega)
  have b := a.2.1 (by omega)
  omega
theorem nf_b {t : Int → Int} {n p : Int} (h0 : 0 ≤ p) (h : p < n) (hd : isD (t p)) : 0 ≤ nf t n p ∧ (0 < nf t n p → p + nw t n p + 1 + nf t n p ≤ n ∧ nw t n p ≤ 3) := by
  have a := nw_b h0 h hd
  unfold nf
  split
  · rename_i q
    have q2 : ¬ cO t n (p + nw t n p) = 0 := by omega
    have q3 := cO_ne q2
    have b := dg_bd (t := t) (n := n) (q := p + nw t n p + 1) (by omega)
    have c := b.2.1 (by omega)
    omega
  · omega
theorem nsz_b {t : Int → Int} {n p : Int} (h0 : 0 ≤ p) (h : p < n) (hd : isD (t p)) : 1 ≤ nsz t n p ∧ p + nsz t n p ≤ n := by
  have a := nw_b h0 h hd
  have b := nf_b h0 h hd
  unfold nsz
  split
  · rename_i q
    have c := b.2 q
    omega
  · omega
/-- the w-th word stands at p, s letters long -/
def wm (t : Int → Int) (n p s w : Int) : Prop := hw_sl pg_sb (4 + w) = s ∧ ∀ i, 0 ≤ i → i < s → cO t n (p + i) = hw_sc pg_sb (4 + w) i
noncomputable def wkf (t : Int → Int) (n p s : Int) : Nat → Int → Int
  | 0, _ => 2
  | f + 1, w => @ite _ (wm t n p s w) (Classical.propDecidable _) (5 + w) (wkf t n p s f (w + 1))
noncomputable def wki (t : Int → Int) (n p s w : Int) : Int := wkf t n p s (13 - w).toNat w
noncomputable def wk (t : Int → Int) (n p s : Int) : Int := wki t n p s 0
theorem wk_end {t : Int → Int} {n p s w X : Int} (h0 : X = wki t n p s w) (h : 13 ≤ w) : X = 2 := by
  rw [h0]
  unfold wki
  rw [show (13 - w).toNat = 0 by omega]
  rfl
theorem wk_hit {t : Int → Int} {n p s w X : Int} (h0 : X = wki t n p s w) (h : w < 13) (h1 : wm t n p s w) : X = 5 + w := by
  rw [h0]
  unfold wki
  rw [show (13 - w).toNat = (13 - (w + 1)).toNat + 1 by omega]
  exact if_pos h1
theorem wk_miss {t : Int → Int} {n p s w w' X : Int} (h0 : X = wki t n p s w) (h : w < 13) (h1 : ¬ wm t n p s w) (hw : w' = w + 1) : X = wki t n p s w' := by
  rw [h0, hw]
  unfold wki
  rw [show (13 - w).toNat = (13 - (w + 1)).toNat + 1 by omega]
  exact if_neg h1
theorem wkf_b {t : Int → Int} {n p s : Int} : ∀ (f : Nat) (w : Int), 0 ≤ w → w + f ≤ 13 → wkf t n p s f w = 2 ∨ (5 ≤ wkf t n p s f w ∧ wkf t n p s f w ≤ 17) := by
  intro f
  induction f with
  | zero => intro w _ _; exact Or.inl rfl
  | succ f ih =>
    intro w h0 h
    unfold wkf
    split
    · right; omega
    · exact ih (w + 1) (by omega) (by omega)
theorem wk_b {t : Int → Int} {n p s : Int} : wk t n p s = 2 ∨ (5 ≤ wk t n p s ∧ wk t n p s ≤ 17) := wkf_b _ _ (by omega) (by omega)
/-! signs -/
def sgk (c d : Int) : Int := if c = 45 ∧ d = 62 then 18 else if c = 46 ∧ d = 46 then 19 else if c = 61 ∧ d = 62 then 20 else if c = 33 ∧ d = 61 then 21 else if c = 60 ∧ d = 61 then 22 else if c = 62 ∧ d = 61 then 23
  else if c = 61 then 24 else if c = 60 then 25 else if c = 62 then 26 else if c = 43 then 27 else if c = 45 then 28 else if c = 42 then 29 else if c = 47 then 30 else if c = 33 then 31 else if c = 38 then 32 else if c = 124 then 33 else if c = 63 then 34 else if c = 58 then 35 else if c = 59 then 36 else if c = 44 then 37 else if c = 39 then 38 else if c = 40 then 39 else if c = 41 then 40 else if c = 91 then 41 else if c = 93 then 42 else 1
def sgl (c d : Int) : Int := if 18 ≤ sgk c d ∧ sgk c d ≤ 23 then 2 else 1
theorem sgk_b {c d : Int} : sgk c d = 1 ∨ (18 ≤ sgk c d ∧ sgk c d ≤ 42) := by
  unfold sgk
  repeat' split
  all_goals omega
/-- the octets of a String -/
theorem sb2_0 : hw_sc pg_sb 2 (2 * 0) = 45 ∧ hw_sc pg_sb 2 (2 * 0 + 1) = 62 := by decide +kernel
theorem sb2_1 : hw_sc pg_sb 2 (2 * 1) = 46 ∧ hw_sc pg_sb 2 (2 * 1 + 1) = 46 := by decide +kernel
theorem sb2_2 : hw_sc pg_sb 2 (2 * 2) = 61 ∧ hw_sc pg_sb 2 (2 * 2 + 1) = 62 := by decide +kernel
theorem sb2_3 : hw_sc pg_sb 2 (2 * 3) = 33 ∧ hw_sc pg_sb 2 (2 * 3 + 1) = 61 := by decide +kernel
theorem sb2_4 : hw_sc pg_sb 2 (2 * 4) = 60 ∧ hw_sc pg_sb 2 (2 * 4 + 1) = 61 := by decide +kernel
theorem sb2_5 : hw_sc pg_sb 2 (2 * 5) = 62 ∧ hw_sc pg_sb 2 (2 * 5 + 1) = 61 := by decide +kernel
theorem sb3_0 : hw_sc pg_sb 3 0 = 61 := by decide +kernel
theorem sb3_1 : hw_sc pg_sb 3 1 = 60 := by decide +kernel
theorem sb3_2 : hw_sc pg_sb 3 2 = 62 := by decide +kernel
theorem sb3_3 : hw_sc pg_sb 3 3 = 43 := by decide +kernel
theorem sb3_4 : hw_sc pg_sb 3 4 = 45 := by decide +kernel
theorem sb3_5 : hw_sc pg_sb 3 5 = 42 := by decide +kernel
theorem sb3_6 : hw_sc pg_sb 3 6 = 47 := by decide +kernel
theorem sb3_7 : hw_sc pg_sb 3 7 = 33 := by decide +kernel
theorem sb3_8 : hw_sc pg_sb 3 8 = 38 := by decide +kernel
theorem sb3_9 : hw_sc pg_sb 3 9 = 124 := by decide +kernel
theorem sb3_10 : hw_sc pg_sb 3 10 = 63 := by decide +kernel
theorem sb3_11 : hw_sc pg_sb 3 11 = 58 := by decide +kernel
theorem sb3_12 : hw_sc pg_sb 3 12 = 59 := by decide +kernel
theorem sb3_13 : hw_sc pg_sb 3 13 = 44 := by decide +kernel
theorem sb3_14 : hw_sc pg_sb 3 14 = 39 := by decide +kernel
theorem sb3_15 : hw_sc pg_sb 3 15 = 40 := by decide +kernel
theorem sb3_16 : hw_sc pg_sb 3 16 = 41 := by decide +kernel
theorem sb3_17 : hw_sc pg_sb 3 17 = 91 := by decide +kernel
theorem sb3_18 : hw_sc pg_sb 3 18 = 93 := by decide +kernel
/-- no pair before the octet k is it -/
def pr_no (c d k : Int) : Prop := ∃ _ : Unit, ∀ q, 0 ≤ q → 2 * q < k → ¬ (c = hw_sc pg_sb 2 (2 * q) ∧ d = hw_sc pg_sb 2 (2 * q + 1))
theorem pr_0 {c d : Int} : pr_no c d 0 := ⟨(), fun q h1 h2 => absurd h1 (by omega)⟩
theorem pr_s1 {c d k k' x a : Int} (h : pr_no c d k) (hx : x = hw_sc pg_sb 2 a) (ha : a = k) (hy : ¬ c = x) (h2 : k % 2 = 0) (hk : k' = k + 2) : pr_no c d k' := by
  subst ha hx hk
  refine ⟨(), fun q h1 h3 => ?_⟩
  by_cases e : 2 * q = a
  · rintro ⟨q1, q2⟩
    rw [e] at q1
    exact hy q1
  · exact h.elim fun _ h => h q h1 (by omega)
theorem pr_s2 {c d k k' y a : Int} (h : pr_no c d k) (hx : y = hw_sc pg_sb 2 (a + 1)) (ha : a = k) (hy : ¬ d = y) (h2 : k % 2 = 0) (hk : k' = k + 2) : pr_no c d k' := by
  subst ha hx hk
  refine ⟨(), fun q h1 h3 => ?_⟩
  by_cases e : 2 * q = a
  · rintro ⟨q1, q2⟩
    rw [e] at q2
    exact hy q2
  · exact h.elim fun _ h => h q h1 (by omega)
theorem pr_6 {c d k : Int} (h : pr_no c d k) (hk : 11 ≤ k) : pr_no c d 12 := ⟨(), fun q h1 h2 => h.elim fun _ h => h q h1 (by omega)⟩
theorem pr_lit {c d : Int} (h : pr_no c d 12) : ¬ (c = 45 ∧ d = 62) ∧ ¬ (c = 46 ∧ d = 46) ∧ ¬ (c = 61 ∧ d = 62) ∧ ¬ (c = 33 ∧ d = 61) ∧ ¬ (c = 60 ∧ d = 61) ∧ ¬ (c = 62 ∧ d = 61) := by
  obtain ⟨_, h⟩ := h
  have a0 := h 0 (by omega) (by omega)
  rw [sb2_0.1, sb2_0.2] at a0
  have a1 := h 1 (by omega) (by omega)
  rw [sb2_1.1, sb2_1.2] at a1
  have a2 := h 2 (by omega) (by omega)
  rw [sb2_2.1, sb2_2.2] at a2
  have a3 := h 3 (by omega) (by omega)
  rw [sb2_3.1, sb2_3.2] at a3
  have a4 := h 4 (by omega) (by omega)
  rw [sb2_4.1, sb2_4.2] at a4
  have a5 := h 5 (by omega) (by omega)
  rw [sb2_5.1, sb2_5.2] at a5
  exact ⟨a0, a1, a2, a3, a4, a5⟩
theorem sg_pair {c d x y a : Int} (hy : y = hw_sc pg_sb 2 (a + 1)) (hx : x = hw_sc pg_sb 2 a) (h0 : 0 ≤ a) (h1 : a < 12) (ha : a % 2 = 0) (hc : c = x) (hd : d = y) : sgk c d = 18 + a / 2 ∧ sgl c d = 2 := by
  subst hx hy hc hd
  have c6 : a = 2 * 0 ∨ a = 2 * 1 ∨ a = 2 * 2 ∨ a = 2 * 3 ∨ a = 2 * 4 ∨ a = 2 * 5 := by omega
  rcases c6 with rfl | rfl | rfl | rfl | rfl | rfl
  · rw [sb2_0.1, sb2_0.2]; decide
  · rw [sb2_1.1, sb2_1.2]; decide
  · rw [sb2_2.1, sb2_2.2]; decide
  · rw [sb2_3.1, sb2_3.2]; decide
  · rw [sb2_4.1, sb2_4.2]; decide
  · rw [sb2_5.1, sb2_5.2]; decide
theorem sg_lit {c d : Int} (h : pr_no c d 12) : sgk c d = (if c = 61 then 24 else if c = 60 then 25 else if c = 62 then 26 else if c = 43 then 27 else if c = 45 then 28 else if c = 42 then 29 else if c = 47 then 30 else if c = 33 then 31 else if c = 38 then 32 else if c = 124 then 33 else if c = 63 then 34 else if c = 58 then 35 else if c = 59 then 36 else if c = 44 then 37 else if c = 39 then 38 else if c = 40 then 39 else if c = 41 then 40 else if c = 91 then 41 else if c = 93 then 42 else 1) := by
  obtain ⟨a0, a1, a2, a3, a4, a5⟩ := pr_lit h
  unfold sgk
  rw [if_neg a0, if_neg a1, if_neg a2, if_neg a3, if_neg a4, if_neg a5]
theorem sg_single {c d r : Int} (h : pr_no c d 12) (h0 : 0 ≤ r) (h1 : r < 19) (hr : hw_sc pg_sb 3 r = c) : sgk c d = 24 + r ∧ sgl c d = 1 := by
  have k1 : sgk c d = 24 + r := by
    rw [sg_lit h]
    have c6 : r = 0 ∨ r = 1 ∨ r = 2 ∨ r = 3 ∨ r = 4 ∨ r = 5 ∨ r = 6 ∨ r = 7 ∨ r = 8 ∨ r = 9 ∨ r = 10 ∨ r = 11 ∨ r = 12 ∨ r = 13 ∨ r = 14 ∨ r = 15 ∨ r = 16 ∨ r = 17 ∨ r = 18 := by omega
    rcases c6 with rfl | rfl | rfl | rfl | rfl | rfl | rfl | rfl | rfl | rfl | rfl | rfl | rfl | rfl | rfl | rfl | rfl | rfl | rfl
    · rw [sb3_0] at hr; subst hr; decide
    · rw [sb3_1] at hr; subst hr; decide
    · rw [sb3_2] at hr; subst hr; decide
    · rw [sb3_3] at hr; subst hr; decide
    · rw [sb3_4] at hr; subst hr; decide
    · rw [sb3_5] at hr; subst hr; decide
    · rw [sb3_6] at hr; subst hr; decide
    · rw [sb3_7] at hr; subst hr; decide
    · rw [sb3_8] at hr; subst hr; decide
    · rw [sb3_9] at hr; subst hr; decide
    · rw [sb3_10] at hr; subst hr; decide
    · rw [sb3_11] at hr; subst hr; decide
    · rw [sb3_12] at hr; subst hr; decide
    · rw [sb3_13] at hr; subst hr; decide
    · rw [sb3_14] at hr; subst hr; decide
    · rw [sb3_15] at hr; subst hr; decide
    · rw [sb3_16] at hr; subst hr; decide
    · rw [sb3_17] at hr; subst hr; decide
    · rw [sb3_18] at hr; subst hr; decide
  refine ⟨k1, ?_⟩
  unfold sgl
  rw [k1, if_neg (by omega)]
theorem sg_none {c d : Int} (h : pr_no c d 12) (hn : ∀ p, 0 ≤ p → p < 19 → ¬ hw_sc pg_sb 3 p = c) : sgk c d = 1 ∧ sgl c d = 1 := by
  have k1 : sgk c d = 1 := by
    rw [sg_lit h]
    have b0 := hn 0 (by omega) (by omega)
    rw [sb3_0] at b0
    have b1 := hn 1 (by omega) (by omega)
    rw [sb3_1] at b1
    have b2 := hn 2 (by omega) (by omega)
    rw [sb3_2] at b2
    have b3 := hn 3 (by omega) (by omega)
    rw [sb3_3] at b3
    have b4 := hn 4 (by omega) (by omega)
    rw [sb3_4] at b4
    have b5 := hn 5 (by omega) (by omega)
    rw [sb3_5] at b5
    have b6 := hn 6 (by omega) (by omega)
    rw [sb3_6] at b6
    have b7 := hn 7 (by omega) (by omega)
    rw [sb3_7] at b7
    have b8 := hn 8 (by omega) (by omega)
    rw [sb3_8] at b8
    have b9 := hn 9 (by omega) (by omega)
    rw [sb3_9] at b9
    have b10 := hn 10 (by omega) (by omega)
    rw [sb3_10] at b10
    have b11 := hn 11 (by omega) (by omega)
    rw [sb3_11] at b11
    have b12 := hn 12 (by omega) (by omega)
    rw [sb3_12] at b12
    have b13 := hn 13 (by omega) (by omega)
    rw [sb3_13] at b13
    have b14 := hn 14 (by omega) (by omega)
    rw [sb3_14] at b14
    have b15 := hn 15 (by omega) (by omega)
    rw [sb3_15] at b15
    have b16 := hn 16 (by omega) (by omega)
    rw [sb3_16] at b16
    have b17 := hn 17 (by omega) (by omega)
    rw [sb3_17] at b17
    have b18 := hn 18 (by omega) (by omega)
    rw [sb3_18] at b18
    rw [if_neg (fun e => b0 e.symm), if_neg (fun e => b1 e.symm), if_neg (fun e => b2 e.symm), if_neg (fun e => b3 e.symm), if_neg (fun e => b4 e.symm), if_neg (fun e => b5 e.symm), if_neg (fun e => b6 e.symm), if_neg (fun e => b7 e.symm), if_neg (fun e => b8 e.symm), if_neg (fun e => b9 e.symm), if_neg (fun e => b10 e.symm), if_neg (fun e => b11 e.symm), if_neg (fun e => b12 e.symm), if_neg (fun e => b13 e.symm), if_neg (fun e => b14 e.symm), if_neg (fun e => b15 e.symm), if_neg (fun e => b16 e.symm), if_neg (fun e => b17 e.symm), if_neg (fun e => b18 e.symm)]
  refine ⟨k1, ?_⟩
  unfold sgl
  rw [k1, if_neg (by omega)]
/-! a TOKEN at p; the TOKENS of a text -/
noncomputable def tkd (t : Int → Int) (n p : Int) : Int := if n ≤ p then 0 else if isL (cO t n p) then wk t n p (nl t n p) else if isD (cO t n p) then nkd t n p else sgk (cO t n p) (cO t n (p + 1))
def tln (t : Int → Int) (n p : Int) : Int := if n ≤ p then 0 else if isL (cO t n p) then nl t n p else if isD (cO t n p) then nsz t n p else sgl (cO t n p) (cO t n (p + 1))
theorem tkd_b {t : Int → Int} {n p : Int} : 0 ≤ tkd t n p ∧ tkd t n p ≤ 42 := by
  unfold tkd
  split
  · omega
  · split
    · have := wk_b (t := t) (n := n) (p := p) (s := nl t n p)
      omega
    · split
      · unfold nkd
        repeat' split
        all_goals omega
      · have := sgk_b (c := cO t n p) (d := cO t n (p + 1))
        omega
theorem tkd_0 {t : Int → Int} {n p : Int} : tkd t n p = 0 ↔ n ≤ p := by
  unfold tkd
  split
  · rename_i h
    exact ⟨fun _ => h, fun _ => rfl⟩
  · rename_i h
    refine ⟨fun q => ?_, fun q => absurd q h⟩
    split at q
    · have := wk_b (t := t) (n := n) (p := p) (s := nl t n p)
      omega
    · split at q
      · unfold nkd at q
        repeat' split at q
        all_goals omega
      · have := sgk_b (c := cO t n p) (d := cO t n (p + 1))
        omega
theorem tln_b {t : Int → Int} {n p : Int} (h0 : 0 ≤ p) (hp : p ≤ n) (hb : ¬ tkd t n p = 1) : 0 ≤ tln t n p ∧ p + tln t n p ≤ n := by
  unfold tln
  by_cases h : n ≤ p
  · rw [if_pos h]; omega
  · rw [if_neg h]
    have hc : cO t n p = t p := cO_in h0 (by omega)
    split
    · have := nl_b (t := t) h0 (show p < n by omega)
      omega
    · split
      · rename_i q
        rw [hc] at q
        have := nsz_b h0 (show p < n by omega) q
        omega
      · rename_i q1 q2
        unfold sgl
        split
        · rename_i q
          unfold sgk at q
          have hd : ¬ cO t n (p + 1) = 0 := by
            intro e
            rw [e] at q
            repeat' split at q
            all_goals omega
          have := cO_ne hd
          omega
        · omega
noncomputable def plf (t : Int → Int) (n : Int) : Nat → Int
  | 0 => sk t n 0 0
  | i + 1 => sk t n (plf t n i + tln t n (plf t n i)) 0
noncomputable def pli (t : Int → Int) (n j : Int) : Int := plf t n j.toNat
/-- which TOKEN the j-th is; there are at most 1500 -/
noncomputable def kd (t : Int → Int) (n j : Int) : Int := if 1500 ≤ j then 1 else tkd t n (pli t n j)
noncomputable def ln (t : Int → Int) (n j : Int) : Int := tln t n (pli t n j)
noncomputable def nu (t : Int → Int) (n j : Int) : Int := nvl t n (pli t n j)
theorem pli_0 {t : Int → Int} {n : Int} : pli t n 0 = sk t n 0 0 := rfl
theorem pli_s {t : Int → Int} {n j : Int} (h : 0 ≤ j) : pli t n (j + 1) = sk t n (pli t n j + ln t n j) 0 := by
  unfold pli ln
  rw [show (j + 1).toNat = j.toNat + 1 by omega]
  rfl
theorem kd_in {t : Int → Int} {n j : Int} (h : j < 1500) : kd t n j = tkd t n (pli t n j) := if_neg (by omega)
theorem kd_b {t : Int → Int} {n j : Int} : 0 ≤ kd t n j ∧ kd t n j ≤ 42 := by
  unfold kd
  split
  · omega
  · exact tkd_b
