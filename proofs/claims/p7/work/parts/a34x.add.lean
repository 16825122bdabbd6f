/-! one more share, as the class adds it -/
theorem sh_mul {x y : Int} (hx : 0 ≤ x ∧ x ≤ 1000000000000000) (hy : 0 ≤ y ∧ y ≤ 1000) : 0 ≤ x * y ∧ x * y ≤ 1000000000000000000 := by
  have h1 : 0 ≤ x * y := Int.mul_nonneg hx.1 hy.1
  have h2 : x * y ≤ 1000000000000000 * 1000 := Int.mul_le_mul hx.2 hy.2 hy.1 (by decide)
  exact ⟨h1, by omega⟩
theorem sh_ex {z e q : Int} (h : z = e + 18446744073709551616 * q) (hz : -9223372036854775808 ≤ z ∧ z ≤ 9223372036854775807) (he : 0 ≤ e ∧ e ≤ 1000000000000000000) : z = e := by omega
def shG (a b : Int) : Int := ((Int.gcd a b : Nat) : Int)
def shBB (a b : Int) : Int := b / shG a b
def shG2 (B a b : Int) : Int := ((Int.gcd B (shBB a b) : Nat) : Int)
def shGR (B a b : Int) : Int := shBB a b / shG2 B a b
theorem shG_of {a b r : Int} (h : r = ((Int.gcd a b : Nat) : Int)) : r = shG a b := h
theorem shBB_of {a b r z : Int} (hz : 0 ≤ b → 0 < r → z = b / r ∧ 0 ≤ z ∧ z ≤ b) (h : r = shG a b) (hb : 0 ≤ b) (hr : 0 < r) : z = shBB a b := by
  subst h
  exact (hz hb hr).1
theorem shGR_of {a b B r z1 z2 s z : Int} (h4 : 0 ≤ z2 → 0 < s → z = z2 / s ∧ 0 ≤ z ∧ z ≤ z2) (h3 : s = ((Int.gcd B z1 : Nat) : Int)) (h1 : 0 ≤ b → 0 < r → z1 = b / r ∧ 0 ≤ z1 ∧ z1 ≤ b) (h2 : 0 ≤ b → 0 < r → z2 = b / r ∧ 0 ≤ z2 ∧ z2 ≤ b) (h : r = ((Int.gcd a b : Nat) : Int)) (hb : 0 ≤ b) (hr : 0 < r) (hs : 0 < s) : z = shGR B a b := by
  subst h
  have e1 : z1 = shBB a b := (h1 hb hr).1
  have e2 : z2 = shBB a b := (h2 hb hr).1
  have e4 := (h4 (h2 hb hr).2.1 hs).1
  subst e1 e2
  rw [h3] at e4
  exact e4
theorem sh_b4 {B a b : Int} (hB : 1 ≤ B) (hab : 1 ≤ a ∧ a ≤ b ∧ b ≤ 1000) : 1 ≤ shG a b ∧ 1 ≤ shBB a b ∧ shBB a b ≤ 1000 ∧ 1 ≤ shGR B a b ∧ shGR B a b ≤ 1000 := by
  have p : 0 < Int.gcd a b := Int.gcd_pos_of_ne_zero_right a (by omega)
  have g1 : 1 ≤ shG a b := by unfold shG; omega
  have q := sh_bd (g := shG a b) (bb := shBB a b) (g2 := shG2 B a b) (gr := shGR B a b) hB ⟨by omega, hab.2.2⟩ g1 rfl (Int.gcd_dvd_right a b) rfl rfl
  exact ⟨g1, q⟩
theorem sh_lp {B a b f u z q gr : Int} {to to' : Int → Int} {Q : List (Int × Int)} (hg : shg to to' f u gr) (hz : z = to' u * gr + 18446744073709551616 * q) (hr : -9223372036854775808 ≤ z ∧ z ≤ 9223372036854775807) (hq : shq B to f Q) (hB : 1 ≤ B ∧ B ≤ 1000000000000000) (hab : 1 ≤ a ∧ a ≤ b ∧ b ≤ 1000) (hgr : gr = shGR B a b) (h1 : f ≤ u) (h2 : u < f + Q.length) : z = to' u * gr := by
  have b4 := sh_b4 hB.1 hab
  have e := shg_at hg (Int.le_refl u)
  have c := shq_b Q f u hq hB.1 h1 h2
  exact sh_ex hz hr (sh_mul (by omega) (by omega))
theorem sh_B {B a b z q gr : Int} (hz : z = B * gr + 18446744073709551616 * q) (hr : -9223372036854775808 ≤ z ∧ z ≤ 9223372036854775807) (hgr : gr = shGR B a b) (hB : 1 ≤ B ∧ B ≤ 1000000000000000) (hab : 1 ≤ a ∧ a ≤ b ∧ b ≤ 1000) : z = B * gr ∧ 1 ≤ z ∧ z ≤ B * 1000 := by
  have b4 := sh_b4 hB.1 hab
  have e := sh_ex hz hr (sh_mul (by omega) (by omega))
  have c1 : 1 * 1 ≤ B * gr := Int.mul_le_mul hB.1 (by omega) (by decide) (by omega)
  have c2 : B * gr ≤ B * 1000 := Int.mul_le_mul_of_nonneg_left (by omega) (by omega)
  exact ⟨e, by omega, by omega⟩
theorem sh_fin {B a b f l u g gr z4 q4 z3 z2 z1 z q x : Int} {to to' : Int → Int} {Q : List (Int × Int)} (hg : shg to to' f u gr) (hgg : g = shG a b) (hgr : gr = shGR B a b) (hz4 : z4 = B * gr + 18446744073709551616 * q4) (hr4 : -9223372036854775808 ≤ z4 ∧ z4 ≤ 9223372036854775807) (hz : z = z2 * z1 + 18446744073709551616 * q) (hr : -9223372036854775808 ≤ z ∧ z ≤ 9223372036854775807) (h2 : 0 ≤ x → 0 < z3 → z2 = x / z3 ∧ 0 ≤ z2 ∧ z2 ≤ x) (h3 : 0 ≤ b → 0 < g → z3 = b / g ∧ 0 ≤ z3 ∧ z3 ≤ b) (h1 : 0 ≤ a → 0 < g → z1 = a / g ∧ 0 ≤ z1 ∧ z1 ≤ a) (hx : x = z4) (hq : shq B to f Q) (hB : 1 ≤ B ∧ B ≤ 1000000000000000) (hab : 1 ≤ a ∧ a ≤ b ∧ b ≤ 1000) (hu : u = l) (hl : l = f + Q.length) : shq z4 (hw_up to' l z) f (Q ++ [(a, b)]) := by
  have b4 := sh_b4 hB.1 hab
  obtain ⟨e4, c1, c2⟩ := sh_B hz4 hr4 hgr hB hab
  subst hu
  subst hgg hx
  have e3 : z3 = shBB a b := (h3 (by omega) (by omega)).1
  have h2 := (h2 (by omega) (by omega)).1
  have h1 := (h1 (by omega) (by omega)).1
  have d1 : shG a b ∣ a := Int.gcd_dvd_left a b
  have d2 : shG a b ∣ b := Int.gcd_dvd_right a b
  have k1 : z1 * shG a b = a := by rw [h1]; exact Int.ediv_mul_cancel d1
  have k2 : shBB a b * shG a b = b := Int.ediv_mul_cancel d2
  have z10 : 0 ≤ z1 := by rw [h1]; exact Int.ediv_nonneg (by omega) (by omega)
  have z1b : z1 ≤ shBB a b := by
    have : z1 * shG a b ≤ shBB a b * shG a b := by omega
    exact Int.le_of_mul_le_mul_right this (by omega)
  have z20 : 0 ≤ z2 := by rw [h2]; exact Int.ediv_nonneg (by omega) (by omega)
  have m1 : z2 * shBB a b ≤ x := by
    rw [h2, e3]
    exact Int.ediv_mul_le x (by omega)
  have m2 : z2 * z1 ≤ z2 * shBB a b := Int.mul_le_mul_of_nonneg_left z1b z20
  have m3 : 0 ≤ z2 * z1 := Int.mul_nonneg z20 z10
  have ez := sh_ex hz hr ⟨m3, by omega⟩
  exact sh_new (g := shG a b) (bb := shBB a b) (g2 := shG2 B a b) (gr := gr) (t1 := z2) (t2 := z1) hq hg hl hab rfl rfl rfl hgr e4 (by rw [h2, e3]) h1 ez
