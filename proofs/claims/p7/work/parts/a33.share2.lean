/-! one more share -/
theorem shq_b {B : Int} {to : Int → Int} : ∀ (Q : List (Int × Int)) (f u : Int), shq B to f Q → 1 ≤ B → f ≤ u → u < f + Q.length → 0 ≤ to u ∧ to u ≤ B := by
  intro Q
  induction Q with
  | nil =>
    intro f u _ _ h1 h2
    have h2 : u < f + ((0 : Nat) : Int) := h2
    omega
  | cons e Q ih =>
    obtain ⟨a, b⟩ := e
    intro f u h hB h1 h2
    obtain ⟨⟨c1, c2, c3, c4⟩, c5⟩ := h
    by_cases z : u = f
    · subst z
      have p : 0 ≤ a * B := Int.mul_nonneg (by omega) (by omega)
      constructor
      · rcases Int.lt_or_le (to u) 0 with g | g
        · have := Int.mul_neg_of_neg_of_pos g (show 0 < b by omega)
          omega
        · exact g
      · have q : a * B ≤ b * B := Int.mul_le_mul_of_nonneg_right c2 (by omega)
        rw [← c4, Int.mul_comm b B] at q
        exact Int.le_of_mul_le_mul_right q (by omega)
    · rw [List.length_cons] at h2
      exact ih (f + 1) u c5 hB (by omega) (by omega)
def shg (to to' : Int → Int) (f u gr : Int) : Prop := ∃ _ : Unit, ∀ w, (f ≤ w → w < u → to' w = to w * gr) ∧ (u ≤ w → to' w = to w)
theorem shg_0 {to : Int → Int} {f gr : Int} : shg to to f f gr := ⟨(), fun w => ⟨fun h1 h2 => absurd h1 (by omega), fun _ => rfl⟩⟩
theorem shg_at {to to' : Int → Int} {f u gr w : Int} (h : shg to to' f u gr) (hw : u ≤ w) : to' w = to w := h.elim fun _ h => (h w).2 hw
theorem shg_s {to to' : Int → Int} {f u u' gr z : Int} (h : shg to to' f u gr) (hz : z = to' u * gr) (hu : f ≤ u) (hu' : u' = u + 1) : shg to (hw_up to' u z) f u' gr := by
  obtain ⟨_, h⟩ := h
  subst hu'
  refine ⟨(), fun w => ⟨fun h1 h2 => ?_, fun h1 => ?_⟩⟩
  · by_cases e : w = u
    · subst e
      rw [hw_up_s, hz, (h w).2 (Int.le_refl w)]
    · rw [hw_up_n e]
      exact (h w).1 h1 (by omega)
  · rw [hw_up_n (by omega)]
    exact (h w).2 (by omega)
theorem shq_app {B B' gr a b : Int} {to to' : Int → Int} (hB : B' = B * gr) (hab : 1 ≤ a ∧ a ≤ b ∧ b ≤ 1000) : ∀ (Q : List (Int × Int)) (f : Int), shq B to f Q → (∀ w, f ≤ w → w < f + Q.length → to' w = to w * gr) → to' (f + Q.length) * b = a * B' → shq B' to' f (Q ++ [(a, b)]) := by
  intro Q
  induction Q with
  | nil =>
    intro f _ _ h
    have h : to' (f + ((0 : Nat) : Int)) * b = a * B' := h
    rw [show f + ((0 : Nat) : Int) = f by omega] at h
    exact ⟨⟨hab.1, hab.2.1, hab.2.2, h⟩, trivial⟩
  | cons e Q ih =>
    obtain ⟨a1, b1⟩ := e
    intro f h hw hl
    obtain ⟨⟨c1, c2, c3, c4⟩, c5⟩ := h
    rw [List.length_cons] at hl hw
    refine ⟨⟨c1, c2, c3, ?_⟩, ih (f + 1) c5 (fun w w1 w2 => hw w (by omega) (by omega)) ?_⟩
    · rw [hw f (by omega) (by omega), hB, ← Int.mul_assoc, ← c4, Int.mul_assoc, Int.mul_comm gr, Int.mul_assoc]
    · rw [show f + 1 + (Q.length : Int) = f + ((Q.length + 1 : Nat) : Int) by omega]
      exact hl
theorem sh_new {B B' a b g bb g2 gr T t1 t2 f l : Int} {to to' : Int → Int} {Q : List (Int × Int)} (h : shq B to f Q) (hg : shg to to' f l gr) (hl : l = f + Q.length) (hab : 1 ≤ a ∧ a ≤ b ∧ b ≤ 1000) (h1 : g = ((Int.gcd a b : Nat) : Int)) (h2 : bb = b / g) (h3 : g2 = ((Int.gcd B bb : Nat) : Int)) (h4 : gr = bb / g2) (h5 : B' = B * gr) (h6 : t1 = B' / bb) (h7 : t2 = a / g) (h8 : T = t1 * t2) : shq B' (hw_up to' l T) f (Q ++ [(a, b)]) := by
  have d1 : g ∣ a := by rw [h1]; exact Int.gcd_dvd_left a b
  have d2 : g ∣ b := by rw [h1]; exact Int.gcd_dvd_right a b
  have d3 : g2 ∣ B := by rw [h3]; exact Int.gcd_dvd_left B bb
  have d4 : g2 ∣ bb := by rw [h3]; exact Int.gcd_dvd_right B bb
  have e1 : t2 * g = a := by rw [h7]; exact Int.ediv_mul_cancel d1
  have e2 : bb * g = b := by rw [h2]; exact Int.ediv_mul_cancel d2
  have e3 : gr * g2 = bb := by rw [h4]; exact Int.ediv_mul_cancel d4
  obtain ⟨q, e4⟩ := d3
  have hb0 : bb ≠ 0 := by
    intro z
    rw [z] at e2
    omega
  have e5 : B' = q * bb := by rw [h5, e4, ← e3, Int.mul_comm g2 q, Int.mul_assoc, Int.mul_comm g2 gr]
  have e6 : t1 = q := by rw [h6, e5]; exact Int.mul_ediv_cancel q hb0
  refine shq_app h5 hab Q f h (fun w w1 w2 => ?_) ?_
  · rw [hw_up_n (by omega)]
    exact hg.elim fun _ z => (z w).1 w1 (by omega)
  · rw [← hl, hw_up_s, h8, e6, ← e1, ← e2, e5, Int.mul_assoc, Int.mul_assoc, Int.mul_comm g]
    rw [← Int.mul_assoc t2 bb g, Int.mul_comm t2 bb, Int.mul_assoc, ← Int.mul_assoc q, Int.mul_comm (q * bb)]
    rw [Int.mul_assoc t2 g, Int.mul_comm g]
theorem sh_bd {B b g bb g2 gr : Int} (hB : 1 ≤ B) (hb : 1 ≤ b ∧ b ≤ 1000) (h1 : 1 ≤ g) (h2 : bb = b / g) (hd : g ∣ b) (h3 : g2 = ((Int.gcd B bb : Nat) : Int)) (h4 : gr = bb / g2) : 1 ≤ bb ∧ bb ≤ 1000 ∧ 1 ≤ gr ∧ gr ≤ 1000 := by
  have e2 : bb * g = b := by rw [h2]; exact Int.ediv_mul_cancel hd
  have b1 : 1 ≤ bb := by
    rcases Int.lt_or_le bb 1 with z | z
    · have : bb * g ≤ 0 := Int.mul_nonpos_of_nonpos_of_nonneg (by omega) (by omega)
      omega
    · exact z
  have b2 : bb ≤ b := by
    have : bb * 1 ≤ bb * g := Int.mul_le_mul_of_nonneg_left h1 (by omega)
    omega
  have d4 : g2 ∣ bb := by rw [h3]; exact Int.gcd_dvd_right B bb
  have e3 : gr * g2 = bb := by rw [h4]; exact Int.ediv_mul_cancel d4
  have p : 0 < Int.gcd B bb := Int.gcd_pos_of_ne_zero_right B (by omega)
  have g20 : 1 ≤ g2 := by omega
  have b3 : 1 ≤ gr := by
    rcases Int.lt_or_le gr 1 with z | z
    · have : gr * g2 ≤ 0 := Int.mul_nonpos_of_nonpos_of_nonneg (by omega) (by omega)
      omega
    · exact z
  have b4 : gr ≤ bb := by
    have : gr * 1 ≤ gr * g2 := Int.mul_le_mul_of_nonneg_left g20 (by omega)
    omega
  exact ⟨b1, by omega, b3, by omega⟩
