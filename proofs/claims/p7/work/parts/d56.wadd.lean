/-! the model: its numbers: set, add, less -/
section C56
variable {scr : Nat × (Nat → Int32)} {d : Nat} {K : Option hw_V → hw_Z → Prop} {E : Nat → hw_Z → Prop} {Z : hw_Z} {kof : Nat → Nat × Int} {own : Nat → Prop} {z_nn : Int → Int} {z_dg : Int → Int → Int} {zA : List Int} {zB : List (Int → Int)}
theorem w_set (hU : hw_U (hm_T kof own)) {i x : Int} (hx : 0 ≤ x ∧ x ≤ 9223372036854775807) (hK : ∀ (q : Int) (v : Int → Int), wh_is q v (x) → K none (zA, zB, [hw_up z_nn i q], [hw_up z_dg i v])) : hw_C pg_G pg_TT scr (hm_T kof own) (d + 1) 186 [hw_R 0 i, hw_J x] (zA, zB, [z_nn], [z_dg]) K E := by
  refine hw_meth hU hv_DG ⟨rfl, rfl⟩ (fun w X hs hX hF => ?_)
  have rm_i := hm_rm_b i
  have cuts : ∀ n : Nat, (∀ (k y : Int) (v : Int → Int), 0 ≤ k → k ≤ 4 → 0 ≤ y → y ≤ 9223372036854775807 → ws_ok v k y x → (y).toNat < n → w (7, [some (hw_R 0 i), some (hw_J (x)), none, some (hw_J (y)), none], [], (zA, zB, [hw_up z_nn i k], [hw_up z_dg i v]))) := by
    intro n
    induction n with
    | zero =>
      repeat' (first | refine And.intro ?_ ?_ | intro _)
      all_goals omega
    | succ n ih =>
      intro k y v
      intros
      refine hs [] _ rfl ?_
      conv => whnf
      repeat' (first | refine hw_ex32 ⟨by omega, by omega⟩ ?_ | (intro h; exact absurd h (by decide)) | intro _ | refine And.intro ?_ ?_ | (refine hs [7] _ rfl ?_; conv => whnf) | apply ih | (rw [hw_up_up]; apply ih) | (rw [hw_up_up, hw_up_up]; apply ih) | (rw [hw_up_id z_dg i]; apply ih) | apply hK | (rw [hw_up_up]; apply hK) | (rw [hw_up_up, hw_up_up]; apply hK) | (rw [hw_up_id z_dg i]; apply hK))
      (all_goals clear ih); all_goals (first | exact Nat.lt_succ_self _ | assumption | omega | exact ws_0 | (exact ws_e (by assumption) (by omega)) | (clear hs hX hF hK; (try simp only [hw_up_s] at *); have hk3 := ws_k (by assumption) (by omega) hx.2; omega) | (clear hs hX hF hK; (try simp only [hw_up_s] at *); (try simp (disch := omega) only [hb_and16, hb_shr16, hb_shr1, hb_land16, hb_lshr16, hb_lshr4, hb_lushr16, hb_lshl16, hb_lor16] at *); (try simp (disch := omega) only [hb_and16, hb_shr16, hb_shr1, hb_land16, hb_lshr16, hb_lshr4, hb_lushr16, hb_lshl16, hb_lor16] at *); first | omega | (refine ws_s (by assumption) ?_ ?_ ?_ <;> omega)) | (clear hs hX hF hK; fail))
  repeat' (first | refine hw_ex32 ⟨by omega, by omega⟩ ?_ | (intro h; exact absurd h (by decide)) | intro _ | refine And.intro ?_ ?_ | (refine hs [7] _ rfl ?_; conv => whnf) | apply (cuts _) | (rw [hw_up_up]; apply (cuts _)) | (rw [hw_up_up, hw_up_up]; apply (cuts _)) | (rw [hw_up_id z_dg i]; apply (cuts _)) | apply hK | (rw [hw_up_up]; apply hK) | (rw [hw_up_up, hw_up_up]; apply hK) | (rw [hw_up_id z_dg i]; apply hK))
  all_goals (first | exact Nat.lt_succ_self _ | assumption | omega | exact ws_0 | (exact ws_e (by assumption) (by omega)) | (clear hs hX hF hK; (try simp only [hw_up_s] at *); have hk3 := ws_k (by assumption) (by omega) hx.2; omega) | (clear hs hX hF hK; (try simp only [hw_up_s] at *); (try simp (disch := omega) only [hb_and16, hb_shr16, hb_shr1, hb_land16, hb_lshr16, hb_lshr4, hb_lushr16, hb_lshl16, hb_lor16] at *); (try simp (disch := omega) only [hb_and16, hb_shr16, hb_shr1, hb_land16, hb_lshr16, hb_lshr4, hb_lushr16, hb_lshl16, hb_lor16] at *); first | omega | (refine ws_s (by assumption) ?_ ?_ ?_ <;> omega)) | (clear hs hX hF hK; fail))
theorem w_one (hU : hw_U (hm_T kof own)) {i : Int} (hK : ∀ (q : Int) (v : Int → Int), wh_is q v (1) → K none (zA, zB, [hw_up z_nn i q], [hw_up z_dg i v])) : hw_C pg_G pg_TT scr (hm_T kof own) (d + 2) 185 [hw_R 0 i] (zA, zB, [z_nn], [z_dg]) K E := by
  refine hw_meth hU hv_DG ⟨rfl, rfl⟩ (fun w X hs hX hF => ?_)
  repeat' (first | refine hw_ex32 ⟨by omega, by omega⟩ ?_ | (intro h; exact absurd h (by decide)) | intro _ | refine And.intro ?_ ?_ | (refine hs [] _ rfl ?_; conv => whnf) | apply hK | (apply hX; apply w_set hU))
  all_goals (first | exact Nat.lt_succ_self _ | assumption | omega | (clear hs hX hF hK; fail))
theorem w_add (hU : hw_U (hm_T kof own)) {i j a b : Int} (hij : ¬ j = i) (hi : wh_is (z_nn i) (z_dg i) a) (hj : wh_is (z_nn j) (z_dg j) b) (hr : a + b < 65536 ^ (hm_rm i).toNat) (hK : ∀ (q : Int) (v : Int → Int), wh_is q v (a + b) → K none (zA, zB, [hw_up z_nn i q], [hw_up z_dg i v])) : hw_C pg_G pg_TT scr (hm_T kof own) (d + 1) 248 [hw_R 0 i, hw_R 0 j] (zA, zB, [z_nn], [z_dg]) K E := by
  refine hw_meth hU hv_DG ⟨rfl, rfl⟩ (fun w X hs hX hF => ?_)
  have rm_i := hm_rm_b i
  have rm_j := hm_rm_b j
  have hbr := wh_rm hj (r := hm_rm i) (by have := (wh_nn hi).2; omega) (by omega)
  have cuts : ∀ n : Nat, (∀ (m c k : Int) (v : Int → Int), z_nn i ≤ m → z_nn j ≤ m → (m ≤ z_nn i ∨ m ≤ z_nn j) → m ≤ hm_rm i → 0 ≤ k → k ≤ m → 0 ≤ c → c ≤ 1 → wa_ok (z_dg i) (z_nn i) (z_dg j) (z_nn j) v k c → (m - k).toNat < n → w (28, [some (hw_R 0 i), some (hw_R 0 j), some (hw_I (m)), some (hw_I (c)), some (hw_I (k))], [], (zA, zB, [z_nn], [hw_up z_dg i v]))) := by
    intro n
    induction n with
    | zero =>
      repeat' (first | refine And.intro ?_ ?_ | intro _)
      all_goals omega
    | succ n ih =>
      intro m c k v
      intros
      refine hs [] _ rfl ?_
      conv => whnf
      repeat' (first | refine hw_ex32 ⟨by omega, by omega⟩ ?_ | (intro h; exact absurd h (by decide)) | intro _ | refine And.intro ?_ ?_ | (refine hs [28] _ rfl ?_; conv => whnf) | apply ih | (rw [hw_up_up]; apply ih) | (rw [hw_up_up, hw_up_up]; apply ih) | (rw [hw_up_id z_dg i]; apply ih) | apply hK | (rw [hw_up_up]; apply hK) | (rw [hw_up_up, hw_up_up]; apply hK) | (rw [hw_up_id z_dg i]; apply hK))
      (all_goals clear ih); all_goals (first | exact Nat.lt_succ_self _ | assumption | omega | exact wa_0 | (exact wa_e0 hi hj (by assumption) (by omega) (by omega) (by omega) (by omega) (by omega)) | (clear hs hX hF hK; (try simp only [hw_up_s, hw_up_n hij] at *); exact wa_e1 hi hj (by assumption) (by omega) (by omega) (by omega) (by omega) (by omega)) | (have hq := wa_r (m := m) hi hj (by assumption) (by omega) (by omega) (by omega) (by omega) hr (by omega); clear hs hX hF hK; (try simp only [hw_up_s, hw_up_n hij] at *); omega) | (clear hs hX hF hK; (try simp only [hw_up_s, hw_up_n hij] at *); (try simp (disch := omega) only [hb_and16, hb_shr16, hb_shr1, hb_land16, hb_lshr16, hb_lshr4, hb_lushr16, hb_lshl16, hb_lor16] at *); (try simp (disch := omega) only [hb_and16, hb_shr16, hb_shr1, hb_land16, hb_lshr16, hb_lshr4, hb_lushr16, hb_lshl16, hb_lor16] at *); first | omega | (refine wa_s (by assumption) ?_ ?_ ?_ ?_ ?_ <;> intros <;> omega)) | (clear hs hX hF hK; fail))
  repeat' (first | refine hw_ex32 ⟨by omega, by omega⟩ ?_ | (intro h; exact absurd h (by decide)) | intro _ | refine And.intro ?_ ?_ | (refine hs [28] _ rfl ?_; conv => whnf) | apply (cuts _) | (rw [hw_up_up]; apply (cuts _)) | (rw [hw_up_up, hw_up_up]; apply (cuts _)) | (rw [hw_up_id z_dg i]; apply (cuts _)) | apply hK | (rw [hw_up_up]; apply hK) | (rw [hw_up_up, hw_up_up]; apply hK) | (rw [hw_up_id z_dg i]; apply hK))
  all_goals (first | exact Nat.lt_succ_self _ | assumption | omega | exact wa_0 | (exact wa_e0 hi hj (by assumption) (by omega) (by omega) (by omega) (by omega) (by omega)) | (clear hs hX hF hK; (try simp only [hw_up_s, hw_up_n hij] at *); exact wa_e1 hi hj (by assumption) (by omega) (by omega) (by omega) (by omega) (by omega)) | (have hq := wa_r (m := m) hi hj (by assumption) (by omega) (by omega) (by omega) (by omega) hr (by omega); clear hs hX hF hK; (try simp only [hw_up_s, hw_up_n hij] at *); omega) | (clear hs hX hF hK; (try simp only [hw_up_s, hw_up_n hij] at *); (try simp (disch := omega) only [hb_and16, hb_shr16, hb_shr1, hb_land16, hb_lshr16, hb_lshr4, hb_lushr16, hb_lshl16, hb_lor16] at *); (try simp (disch := omega) only [hb_and16, hb_shr16, hb_shr1, hb_land16, hb_lshr16, hb_lshr4, hb_lushr16, hb_lshl16, hb_lor16] at *); first | omega | (refine wa_s (by assumption) ?_ ?_ ?_ ?_ ?_ <;> intros <;> omega)) | (clear hs hX hF hK; fail))
theorem w_less (hU : hw_U (hm_T kof own)) {i j a b : Int} (hij : ¬ j = i) (hi : wh_is (z_nn i) (z_dg i) a) (hj : wh_is (z_nn j) (z_dg j) b) (hab : b ≤ a) (hK : ∀ (q : Int) (v : Int → Int), wh_is q v (a - b) → K none (zA, zB, [hw_up z_nn i q], [hw_up z_dg i v])) : hw_C pg_G pg_TT scr (hm_T kof own) (d + 2) 266 [hw_R 0 i, hw_R 0 j] (zA, zB, [z_nn], [z_dg]) K E := by
  refine hw_meth hU hv_DG ⟨rfl, rfl⟩ (fun w X hs hX hF => ?_)
  have rm_i := hm_rm_b i
  have rm_j := hm_rm_b j
  have n1 := (wh_nn hi).1
  have cuts : ∀ n : Nat, (∀ (c k : Int) (v : Int → Int), 0 ≤ k → k ≤ z_nn i → -1 ≤ c → c ≤ 0 → wl_ok (z_dg i) (z_dg j) (z_nn j) 1 v k c → (z_nn i - k).toNat < n → w (4, [some (hw_R 0 i), some (hw_R 0 j), some (hw_I (c)), some (hw_I (k))], [], (zA, zB, [z_nn], [hw_up z_dg i v]))) := by
    intro n
    induction n with
    | zero =>
      repeat' (first | refine And.intro ?_ ?_ | intro _)
      all_goals omega
    | succ n ih =>
      intro c k v
      intros
      refine hs [] _ rfl ?_
      conv => whnf
      repeat' (first | refine hw_ex32 ⟨by omega, by omega⟩ ?_ | (intro h; exact absurd h (by decide)) | intro _ | refine And.intro ?_ ?_ | (refine hs [4] _ rfl ?_; conv => whnf) | apply ih | (rw [hw_up_up]; apply ih) | (rw [hw_up_id z_dg i]; apply ih) | apply hK | (rw [hw_up_up]; apply hK) | (rw [hw_up_id z_dg i]; apply hK) | (apply hX; apply w_trim hU))
      (all_goals clear ih); all_goals (first | exact Nat.lt_succ_self _ | assumption | omega | exact wl_0 | (clear hs hX hF hK; (try simp only [hw_up_s, hw_up_n hij] at *); have hq := wl_t hi hj (by assumption) (by omega) hab (by omega) (by omega) (by assumption) (by omega) (by omega) (by assumption); rw [Int.one_mul] at hq; exact hq) | (clear hs hX hF hK; (try simp only [hw_up_s, hw_up_n hij] at *); (try simp (disch := omega) only [hb_and16, hb_shr16, hb_shr1, hb_land16, hb_lshr16, hb_lshr4, hb_lushr16, hb_lshl16, hb_lor16] at *); (try simp (disch := omega) only [hb_and16, hb_shr16, hb_shr1, hb_land16, hb_lshr16, hb_lshr4, hb_lushr16, hb_lshl16, hb_lor16] at *); first | omega | (refine wl_s (by assumption) ?_ ?_ ?_ <;> intros <;> omega)) | (clear hs hX hF hK; fail))
  repeat' (first | refine hw_ex32 ⟨by omega, by omega⟩ ?_ | (intro h; exact absurd h (by decide)) | intro _ | refine And.intro ?_ ?_ | (refine hs [4] _ rfl ?_; conv => whnf) | apply (cuts _) | (rw [hw_up_up]; apply (cuts _)) | (rw [hw_up_id z_dg i]; apply (cuts _)) | apply hK | (rw [hw_up_up]; apply hK) | (rw [hw_up_id z_dg i]; apply hK) | (apply hX; apply w_trim hU))
  all_goals (first | exact Nat.lt_succ_self _ | assumption | omega | exact wl_0 | (clear hs hX hF hK; (try simp only [hw_up_s, hw_up_n hij] at *); have hq := wl_t hi hj (by assumption) (by omega) hab (by omega) (by omega) (by assumption) (by omega) (by omega) (by assumption); rw [Int.one_mul] at hq; exact hq) | (clear hs hX hF hK; (try simp only [hw_up_s, hw_up_n hij] at *); (try simp (disch := omega) only [hb_and16, hb_shr16, hb_shr1, hb_land16, hb_lshr16, hb_lshr4, hb_lushr16, hb_lshl16, hb_lor16] at *); (try simp (disch := omega) only [hb_and16, hb_shr16, hb_shr1, hb_land16, hb_lshr16, hb_lshr4, hb_lushr16, hb_lshl16, hb_lor16] at *); first | omega | (refine wl_s (by assumption) ?_ ?_ ?_ <;> intros <;> omega)) | (clear hs hX hF hK; fail))
end C56
