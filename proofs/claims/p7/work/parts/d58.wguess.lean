/-! the model: its numbers: digits of a quotient; bits -/
section C58
variable {scr : Nat × (Nat → Int32)} {d : Nat} {K : Option hw_V → hw_Z → Prop} {E : Nat → hw_Z → Prop} {Z : hw_Z} {kof : Nat → Nat × Int} {own : Nat → Prop} {z_nn : Int → Int} {z_dg : Int → Int → Int} {zA : List Int} {zB : List (Int → Int)}
theorem w_guess (hU : hw_U (hm_T kof own)) {i j a b : Int} (hi : wh_is (z_nn i) (z_dg i) a) (hj : wh_is (z_nn j) (z_dg j) b) (hb : 1 ≤ b) (hab : b ≤ a) (hlt : a < 65536 * b) (hK : ∀ (x : Int), 1 ≤ x → x ≤ 65535 → x * b ≤ a → K (some (hw_I x)) (zA, zB, [z_nn], [z_dg])) : hw_C pg_G pg_TT scr (hm_T kof own) (d + 1) 254 [hw_R 0 i, hw_R 0 j] (zA, zB, [z_nn], [z_dg]) K E := by
  refine hw_meth hU hv_DG ⟨rfl, rfl⟩ (fun w X hs hX hF => ?_)
  have rm_i := hm_rm_b i
  have rm_j := hm_rm_b j
  have n1 := wh_nle hj hi hab
  have n2 := wg_n hi hj hlt
  have n3 : 1 ≤ z_nn j := by
    have h1 := (wh_nn hj).1
    rcases Int.lt_or_le (z_nn j) 1 with h2 | h2
    · have h3 := wh_n0 hj (by omega)
      omega
    · exact h2
  have cuts : ∀ n : Nat, (∀ (p k : Int) (ula0 ula1 ula2 : Option hw_V), z_nn j - 3 ≤ k → -1 ≤ k → k < z_nn i → 0 ≤ p → (k = z_nn i - 1 ∧ p = 0) ∨ (k = z_nn i - 2 ∧ p < 65536) ∨ (k = z_nn i - 3 ∧ p < 4294967296) ∨ (k = z_nn i - 4 ∧ p < 281474976710656) → wg_ok (z_dg i) k p a → (k + 5001).toNat < n → w (21, [some (hw_R 0 i), some (hw_R 0 j), some (hw_J (p)), none, some (hw_I ((z_nn i - z_nn j))), some (hw_I (k)), ula0, ula1, ula2], [], (zA, zB, [z_nn], [z_dg]))) ∧ (∀ (p q k : Int) (ulb0 : Option hw_V), z_nn j - 3 ≤ k → -1 ≤ k → k < z_nn j → 0 ≤ p → p < 281474976710656 → wgp_ok (z_dg i) (z_nn j) p a → 0 ≤ q → (k = z_nn j - 1 ∧ q = 0) ∨ (k = z_nn j - 2 ∧ q < 65536) ∨ (k = z_nn j - 3 ∧ q < 4294967296) ∨ (k = z_nn j - 4 ∧ q < 281474976710656) → wg_ok (z_dg j) k q b → (k + 1).toNat < n → w (71, [some (hw_R 0 i), some (hw_R 0 j), some (hw_J (p)), none, some (hw_I ((z_nn i - z_nn j))), some (hw_J (q)), none, some (hw_I (k)), ulb0], [], (zA, zB, [z_nn], [z_dg]))) := by
    intro n
    induction n with
    | zero =>
      repeat' (first | refine And.intro ?_ ?_ | intro _)
      all_goals omega
    | succ n ih =>
      obtain ⟨ih0, ih1⟩ := ih
      refine ⟨?_, ?_⟩
      · intro p k
        intros
        refine hF (L' := [some _, some _, some _, none, some _, some _, none, none, none]) (by repeat' (first | exact True.intro | refine And.intro rfl ?_)) ?_
        refine hs [] _ rfl ?_
        conv => whnf
        repeat' (first | refine hw_ex32 ⟨by omega, by omega⟩ ?_ | (intro h; exact absurd h (by decide)) | intro _ | refine And.intro ?_ ?_ | (refine hs [21, 71] _ rfl ?_; conv => whnf) | apply ih0 | apply ih1 | apply hK)
        (all_goals clear ih0 ih1); all_goals (first | exact Nat.lt_succ_self _ | assumption | omega | (rw [Int.one_mul]; assumption) | exact wg_0 (by assumption) (by omega) | (exact wgp_i (by assumption) (by omega) (by omega)) | (clear hs hX hF hK; (try simp (disch := omega) only [hb_and16, hb_shr16, hb_shr1, hb_land16, hb_lshr16, hb_lshr4, hb_lushr16, hb_lshl16, hb_lor16] at *); (try simp (disch := omega) only [hb_and16, hb_shr16, hb_shr1, hb_land16, hb_lshr16, hb_lshr4, hb_lushr16, hb_lshl16, hb_lor16] at *); first | omega | (refine wg_st (by assumption) ?_ ?_ ?_ <;> omega)) | (clear hs hX hF hK; have hq := wg_e1 (f := z_dg j) (by assumption) (by omega); omega) | (exact (wg_c1 (by assumption) (by assumption) (by assumption) (by omega) (wgp_1 (by assumption) (by omega)) (wg_e1 (by assumption) (by omega)) hb hab hlt).1) | (exact (wg_c1 (by assumption) (by assumption) (by assumption) (by omega) (wgp_1 (by assumption) (by omega)) (wg_e1 (by assumption) (by omega)) hb hab hlt).2.1) | (exact (wg_c1 (by assumption) (by assumption) (by assumption) (by omega) (wgp_1 (by assumption) (by omega)) (wg_e1 (by assumption) (by omega)) hb hab hlt).2.2) | (exact (wg_c2 hi hj (by assumption) (by assumption) (by assumption) (by omega) (wgp_2 (by assumption) (by omega) rfl) (by assumption) (by omega) (by omega) (by omega) (by omega) (by omega) (by omega) hb hlt).1) | (exact (wg_c2 hi hj (by assumption) (by assumption) (by assumption) (by omega) (wgp_2 (by assumption) (by omega) rfl) (by assumption) (by omega) (by omega) (by omega) (by omega) (by omega) (by omega) hb hlt).2.1) | (exact (wg_c2 hi hj (by assumption) (by assumption) (by assumption) (by omega) (wgp_2 (by assumption) (by omega) rfl) (by assumption) (by omega) (by omega) (by omega) (by omega) (by omega) (by omega) hb hlt).2.2) | (clear hs hX hF hK; fail))
      · intro p q k
        intros
        refine hF (L' := [some _, some _, some _, none, some _, some _, none, some _, none]) (by repeat' (first | exact True.intro | refine And.intro rfl ?_)) ?_
        refine hs [] _ rfl ?_
        conv => whnf
        repeat' (first | refine hw_ex32 ⟨by omega, by omega⟩ ?_ | (intro h; exact absurd h (by decide)) | intro _ | refine And.intro ?_ ?_ | (refine hs [21, 71] _ rfl ?_; conv => whnf) | apply ih0 | apply ih1 | apply hK)
        (all_goals clear ih0 ih1); all_goals (first | exact Nat.lt_succ_self _ | assumption | omega | (rw [Int.one_mul]; assumption) | exact wg_0 (by assumption) (by omega) | (exact wgp_i (by assumption) (by omega) (by omega)) | (clear hs hX hF hK; (try simp (disch := omega) only [hb_and16, hb_shr16, hb_shr1, hb_land16, hb_lshr16, hb_lshr4, hb_lushr16, hb_lshl16, hb_lor16] at *); (try simp (disch := omega) only [hb_and16, hb_shr16, hb_shr1, hb_land16, hb_lshr16, hb_lshr4, hb_lushr16, hb_lshl16, hb_lor16] at *); first | omega | (refine wg_st (by assumption) ?_ ?_ ?_ <;> omega)) | (clear hs hX hF hK; have hq := wg_e1 (f := z_dg j) (by assumption) (by omega); omega) | (exact (wg_c1 (by assumption) (by assumption) (by assumption) (by omega) (wgp_1 (by assumption) (by omega)) (wg_e1 (by assumption) (by omega)) hb hab hlt).1) | (exact (wg_c1 (by assumption) (by assumption) (by assumption) (by omega) (wgp_1 (by assumption) (by omega)) (wg_e1 (by assumption) (by omega)) hb hab hlt).2.1) | (exact (wg_c1 (by assumption) (by assumption) (by assumption) (by omega) (wgp_1 (by assumption) (by omega)) (wg_e1 (by assumption) (by omega)) hb hab hlt).2.2) | (exact (wg_c2 hi hj (by assumption) (by assumption) (by assumption) (by omega) (wgp_2 (by assumption) (by omega) rfl) (by assumption) (by omega) (by omega) (by omega) (by omega) (by omega) (by omega) hb hlt).1) | (exact (wg_c2 hi hj (by assumption) (by assumption) (by assumption) (by omega) (wgp_2 (by assumption) (by omega) rfl) (by assumption) (by omega) (by omega) (by omega) (by omega) (by omega) (by omega) hb hlt).2.1) | (exact (wg_c2 hi hj (by assumption) (by assumption) (by assumption) (by omega) (wgp_2 (by assumption) (by omega) rfl) (by assumption) (by omega) (by omega) (by omega) (by omega) (by omega) (by omega) hb hlt).2.2) | (clear hs hX hF hK; fail))
  repeat' (first | refine hw_ex32 ⟨by omega, by omega⟩ ?_ | (intro h; exact absurd h (by decide)) | intro _ | refine And.intro ?_ ?_ | (refine hs [21, 71] _ rfl ?_; conv => whnf) | apply (cuts _).1 | apply (cuts _).2 | apply hK)
  all_goals (first | exact Nat.lt_succ_self _ | assumption | omega | (rw [Int.one_mul]; assumption) | exact wg_0 (by assumption) (by omega) | (exact wgp_i (by assumption) (by omega) (by omega)) | (clear hs hX hF hK; (try simp (disch := omega) only [hb_and16, hb_shr16, hb_shr1, hb_land16, hb_lshr16, hb_lshr4, hb_lushr16, hb_lshl16, hb_lor16] at *); (try simp (disch := omega) only [hb_and16, hb_shr16, hb_shr1, hb_land16, hb_lshr16, hb_lshr4, hb_lushr16, hb_lshl16, hb_lor16] at *); first | omega | (refine wg_st (by assumption) ?_ ?_ ?_ <;> omega)) | (clear hs hX hF hK; have hq := wg_e1 (f := z_dg j) (by assumption) (by omega); omega) | (exact (wg_c1 (by assumption) (by assumption) (by assumption) (by omega) (wgp_1 (by assumption) (by omega)) (wg_e1 (by assumption) (by omega)) hb hab hlt).1) | (exact (wg_c1 (by assumption) (by assumption) (by assumption) (by omega) (wgp_1 (by assumption) (by omega)) (wg_e1 (by assumption) (by omega)) hb hab hlt).2.1) | (exact (wg_c1 (by assumption) (by assumption) (by assumption) (by omega) (wgp_1 (by assumption) (by omega)) (wg_e1 (by assumption) (by omega)) hb hab hlt).2.2) | (exact (wg_c2 hi hj (by assumption) (by assumption) (by assumption) (by omega) (wgp_2 (by assumption) (by omega) rfl) (by assumption) (by omega) (by omega) (by omega) (by omega) (by omega) (by omega) hb hlt).1) | (exact (wg_c2 hi hj (by assumption) (by assumption) (by assumption) (by omega) (wgp_2 (by assumption) (by omega) rfl) (by assumption) (by omega) (by omega) (by omega) (by omega) (by omega) (by omega) hb hlt).2.1) | (exact (wg_c2 hi hj (by assumption) (by assumption) (by assumption) (by omega) (wgp_2 (by assumption) (by omega) rfl) (by assumption) (by omega) (by omega) (by omega) (by omega) (by omega) (by omega) hb hlt).2.2) | (clear hs hX hF hK; fail))
theorem w_lessTimes (hU : hw_U (hm_T kof own)) {i j x a b : Int} (hij : ¬ j = i) (hi : wh_is (z_nn i) (z_dg i) a) (hj : wh_is (z_nn j) (z_dg j) b) (hx : 0 ≤ x ∧ x ≤ 65535) (hb : b ≤ a) (hab : x * b ≤ a) (hK : ∀ (q : Int) (v : Int → Int), wh_is q v (a - x * b) → K none (zA, zB, [hw_up z_nn i q], [hw_up z_dg i v])) : hw_C pg_G pg_TT scr (hm_T kof own) (d + 2) 255 [hw_R 0 i, hw_R 0 j, hw_I x] (zA, zB, [z_nn], [z_dg]) K E := by
  refine hw_meth hU hv_DG ⟨rfl, rfl⟩ (fun w X hs hX hF => ?_)
  have rm_i := hm_rm_b i
  have rm_j := hm_rm_b j
  have n1 := (wh_nn hi).1
  have cuts : ∀ n : Nat, (∀ (c k : Int) (v : Int → Int), 0 ≤ k → k ≤ z_nn i → -65536 ≤ c → c ≤ 0 → wl_ok (z_dg i) (z_dg j) (z_nn j) x v k c → (z_nn i - k).toNat < n → w (5, [some (hw_R 0 i), some (hw_R 0 j), some (hw_I (x)), some (hw_J (c)), none, some (hw_I (k))], [], (zA, zB, [z_nn], [hw_up z_dg i v]))) := by
    intro n
    induction n with
    | zero =>
      repeat' (first | refine And.intro ?_ ?_ | intro _)
      all_goals omega
    | succ n ih =>
      intro c k v
      intros
      refine hs [] _ rfl ?_
      conv => whnf
      repeat' (first | refine hw_ex32 ⟨by omega, by omega⟩ ?_ | (intro h; exact absurd h (by decide)) | intro _ | refine And.intro ?_ ?_ | (refine hs [5] _ rfl ?_; conv => whnf) | apply ih | (rw [hw_up_up]; apply ih) | (rw [hw_up_id z_dg i]; apply ih) | apply hK | (rw [hw_up_up]; apply hK) | (rw [hw_up_id z_dg i]; apply hK) | (apply hX; apply w_trim hU))
      (all_goals clear ih); all_goals (first | exact Nat.lt_succ_self _ | assumption | omega | exact wl_0 | (clear hs hX hF hK; (try simp only [hw_up_s, hw_up_n hij] at *); exact wl_t hi hj (by assumption) (by omega) hb hab (by omega) (by assumption) (by omega) (by omega) (by assumption)) | (clear hs hX hF hK; (try simp only [hw_up_s, hw_up_n hij] at *); have hm := wx_b (x := x) (y := z_dg j k) hx (by omega); (try simp (disch := omega) only [hb_and16, hb_shr16, hb_shr1, hb_land16, hb_lshr16, hb_lshr4, hb_lushr16, hb_lshl16, hb_lor16] at *); (try simp (disch := omega) only [hb_and16, hb_shr16, hb_shr1, hb_land16, hb_lshr16, hb_lshr4, hb_lushr16, hb_lshl16, hb_lor16] at *); first | omega | (refine wl_s (by assumption) ?_ ?_ ?_ <;> intros <;> omega)) | (clear hs hX hF hK; (try simp only [hw_up_s, hw_up_n hij] at *); (try simp (disch := omega) only [hb_and16, hb_shr16, hb_shr1, hb_land16, hb_lshr16, hb_lshr4, hb_lushr16, hb_lshl16, hb_lor16] at *); (try simp (disch := omega) only [hb_and16, hb_shr16, hb_shr1, hb_land16, hb_lshr16, hb_lshr4, hb_lushr16, hb_lshl16, hb_lor16] at *); first | omega | (refine wl_s (by assumption) ?_ ?_ ?_ <;> intros <;> omega)) | (clear hs hX hF hK; fail))
  repeat' (first | refine hw_ex32 ⟨by omega, by omega⟩ ?_ | (intro h; exact absurd h (by decide)) | intro _ | refine And.intro ?_ ?_ | (refine hs [5] _ rfl ?_; conv => whnf) | apply (cuts _) | (rw [hw_up_up]; apply (cuts _)) | (rw [hw_up_id z_dg i]; apply (cuts _)) | apply hK | (rw [hw_up_up]; apply hK) | (rw [hw_up_id z_dg i]; apply hK) | (apply hX; apply w_trim hU))
  all_goals (first | exact Nat.lt_succ_self _ | assumption | omega | exact wl_0 | (clear hs hX hF hK; (try simp only [hw_up_s, hw_up_n hij] at *); exact wl_t hi hj (by assumption) (by omega) hb hab (by omega) (by assumption) (by omega) (by omega) (by assumption)) | (clear hs hX hF hK; (try simp only [hw_up_s, hw_up_n hij] at *); have hm := wx_b (x := x) (y := z_dg j k) hx (by omega); (try simp (disch := omega) only [hb_and16, hb_shr16, hb_shr1, hb_land16, hb_lshr16, hb_lshr4, hb_lushr16, hb_lshl16, hb_lor16] at *); (try simp (disch := omega) only [hb_and16, hb_shr16, hb_shr1, hb_land16, hb_lshr16, hb_lshr4, hb_lushr16, hb_lshl16, hb_lor16] at *); first | omega | (refine wl_s (by assumption) ?_ ?_ ?_ <;> intros <;> omega)) | (clear hs hX hF hK; (try simp only [hw_up_s, hw_up_n hij] at *); (try simp (disch := omega) only [hb_and16, hb_shr16, hb_shr1, hb_land16, hb_lshr16, hb_lshr4, hb_lushr16, hb_lshl16, hb_lor16] at *); (try simp (disch := omega) only [hb_and16, hb_shr16, hb_shr1, hb_land16, hb_lshr16, hb_lshr4, hb_lushr16, hb_lshl16, hb_lor16] at *); first | omega | (refine wl_s (by assumption) ?_ ?_ ?_ <;> intros <;> omega)) | (clear hs hX hF hK; fail))
theorem w_bits (hU : hw_U (hm_T kof own)) {i : Int} (hK : ∀ (x : Int), 16 * (z_nn i - 1) ≤ x → 0 ≤ x → x ≤ 100000 → K (some (hw_I x)) (zA, zB, [z_nn], [z_dg])) : hw_C pg_G pg_TT scr (hm_T kof own) (d + 1) 273 [hw_R 0 i] (zA, zB, [z_nn], [z_dg]) K E := by
  refine hw_meth hU hv_DG ⟨rfl, rfl⟩ (fun w X hs hX hF => ?_)
  have rm_i := hm_rm_b i
  have cuts : ∀ n : Nat, (∀ (c y : Int), 0 ≤ y → y ≤ 65535 → 16 * (z_nn i - 1) ≤ c → 0 ≤ c → c + y ≤ 100000 → (y).toNat < n → w (44, [some (hw_R 0 i), some (hw_I (c)), some (hw_I (y))], [], (zA, zB, [z_nn], [z_dg]))) := by
    intro n
    induction n with
    | zero =>
      repeat' (first | refine And.intro ?_ ?_ | intro _)
      all_goals omega
    | succ n ih =>
      intros
      refine hs [] _ rfl ?_
      conv => whnf
      repeat' (first | refine hw_ex32 ⟨by omega, by omega⟩ ?_ | (intro h; exact absurd h (by decide)) | intro _ | refine And.intro ?_ ?_ | (refine hs [44] _ rfl ?_; conv => whnf) | apply ih | apply hK)
      (all_goals clear ih); all_goals (first | exact Nat.lt_succ_self _ | assumption | omega | (clear hs hX hF hK; (try simp (disch := omega) only [hb_and16, hb_shr16, hb_shr1, hb_land16, hb_lshr16, hb_lshr4, hb_lushr16, hb_lshl16, hb_lor16] at *); (try simp (disch := omega) only [hb_and16, hb_shr16, hb_shr1, hb_land16, hb_lshr16, hb_lshr4, hb_lushr16, hb_lshl16, hb_lor16] at *); omega) | (clear hs hX hF hK; fail))
  repeat' (first | refine hw_ex32 ⟨by omega, by omega⟩ ?_ | (intro h; exact absurd h (by decide)) | intro _ | refine And.intro ?_ ?_ | (refine hs [44] _ rfl ?_; conv => whnf) | apply (cuts _) | apply hK)
  all_goals (first | exact Nat.lt_succ_self _ | assumption | omega | (clear hs hX hF hK; (try simp (disch := omega) only [hb_and16, hb_shr16, hb_shr1, hb_land16, hb_lshr16, hb_lshr4, hb_lushr16, hb_lshl16, hb_lor16] at *); (try simp (disch := omega) only [hb_and16, hb_shr16, hb_shr1, hb_land16, hb_lshr16, hb_lshr4, hb_lushr16, hb_lshl16, hb_lor16] at *); omega) | (clear hs hX hF hK; fail))
theorem w_bit (hU : hw_U (hm_T kof own)) {i k : Int} (h0 : 0 ≤ k) (hK : ∀ (x : Int), 0 ≤ x → x ≤ 1 → K (some (hw_I x)) (zA, zB, [z_nn], [z_dg])) : hw_C pg_G pg_TT scr (hm_T kof own) (d + 1) 279 [hw_R 0 i, hw_J k] (zA, zB, [z_nn], [z_dg]) K E := by
  refine hw_meth hU hv_DG ⟨rfl, rfl⟩ (fun w X hs hX hF => ?_)
  have rm_i := hm_rm_b i
  repeat' (first | refine hw_ex32 ⟨by omega, by omega⟩ ?_ | (intro h; exact absurd h (by decide)) | intro _ | refine And.intro ?_ ?_ | (refine hs [] _ rfl ?_; conv => whnf) | apply hK)
  all_goals (first | exact Nat.lt_succ_self _ | assumption | omega | (clear hs hX hF hK; (try simp (disch := omega) only [hb_and16, hb_shr16, hb_shr1, hb_land16, hb_lshr16, hb_lshr4, hb_lushr16, hb_lshl16, hb_lor16] at *); (try simp (disch := omega) only [hb_and16, hb_shr16, hb_shr1, hb_land16, hb_lshr16, hb_lshr4, hb_lushr16, hb_lshl16, hb_lor16] at *); omega) | (clear hs hX hF hK; fail))
end C58
