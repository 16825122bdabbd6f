/-! the model: its numbers, copies -/
section C53
variable {scr : Nat × (Nat → Int32)} {d : Nat} {K : Option hw_V → hw_Z → Prop} {E : Nat → hw_Z → Prop} {Z : hw_Z} {kof : Nat → Nat × Int} {own : Nat → Prop} {z_nn : Int → Int} {z_dg : Int → Int → Int} {zA : List Int} {zB : List (Int → Int)}
/-- digits that are the same -/
def wc_ok (v g : Int → Int) (n : Int) : Prop := ∃ _ : Unit, ∀ q : Int, 0 ≤ q → q < n → v q = g q
theorem wc_0 {v g : Int → Int} : wc_ok v g 0 := ⟨(), fun q h1 h2 => absurd h1 (by omega)⟩
theorem wc_le {v g : Int → Int} {n m : Int} (h : wc_ok v g n) (h1 : m ≤ n) : wc_ok v g m := h.elim fun _ h => ⟨(), fun q h2 h3 => h q h2 (by omega)⟩
theorem wc_s {v g : Int → Int} {k m x : Int} (h : wc_ok v g k) (hm : m = k + 1) (hx : x = g k) : wc_ok (hw_up v k x) g m := by
  refine h.elim fun _ h => ⟨(), fun q h1 h2 => ?_⟩
  by_cases e : q = k
  · rw [e, hw_up_s]; exact hx
  · rw [hw_up_n e]; exact h q h1 (by omega)
theorem wc_is {v g : Int → Int} {n x : Int} (h : wc_ok v g n) (h1 : wh_is n g x) : wh_is n v x := by
  refine h.elim fun _ h => ?_
  obtain ⟨k, h2, h3, h4, h5⟩ := h1
  refine ⟨k, h2, fun i hi => ?_, fun j hj => ?_, ?_⟩
  · rw [h i (by omega) (by omega)]; exact h3 i hi
  · rw [h j (by omega) (by omega)]; exact h4 j hj
  · rw [← h5]; exact wv_eq (fun i hi => h i (by omega) (by omega))
theorem w_copy (hU : hw_U (hm_T kof own)) {i j : Int} (hij : ¬ j = i) (hn : 0 ≤ z_nn j ∧ z_nn j ≤ hm_rm i) (hK : ∀ (v : Int → Int), wc_ok v (z_dg j) (z_nn j) → K none (zA, zB, [hw_up z_nn i (z_nn j)], [hw_up z_dg i v])) : hw_C pg_G pg_TT scr (hm_T kof own) (d + 1) 249 [hw_R 0 i, hw_R 0 j] (zA, zB, [z_nn], [z_dg]) K E := by
  refine hw_meth hU hv_DG ⟨rfl, rfl⟩ (fun w X hs hX hF => ?_)
  have rm_j := hm_rm_b j
  have rm_i := hm_rm_b i
  have cuts : ∀ n : Nat, (∀ (k : Int) (v : Int → Int), 0 ≤ k → k ≤ 1300 → z_nn j ≤ hm_rm j → wc_ok v (z_dg j) k → (1300 - k).toNat < n → w (10, [some (hw_R 0 i), some (hw_R 0 j), some (hw_I (k))], [], (zA, zB, [hw_up z_nn i (z_nn j)], [hw_up z_dg i v]))) := by
    intro n
    induction n with
    | zero =>
      repeat' (first | refine And.intro ?_ ?_ | intro _)
      all_goals omega
    | succ n ih =>
      intros
      refine hs [] _ rfl ?_
      conv => whnf
      repeat' (first | refine hw_ex32 ⟨by omega, by omega⟩ ?_ | (intro h; exact absurd h (by decide)) | intro _ | refine And.intro ?_ ?_ | (refine hs [10] _ rfl ?_; conv => whnf) | apply ih | (rw [hw_up_up]; apply ih) | (rw [hw_up_id z_dg i]; apply ih) | apply hK | (rw [hw_up_up]; apply hK) | (rw [hw_up_id z_dg i]; apply hK))
      (all_goals clear ih); all_goals (first | exact Nat.lt_succ_self _ | assumption | omega | exact wc_0 | (refine wc_le (by assumption) ?_; omega) | (clear hs hX hF hK; simp only [hw_up_s, hw_up_n hij] at *; omega) | (clear hs hX hF hK; simp only [hw_up_s, hw_up_n hij] at *; refine wc_le (by assumption) ?_; omega) | (clear hs hX hF hK; simp only [hw_up_s, hw_up_n hij] at *; refine wc_s (by assumption) ?_ ?_ <;> first | assumption | rfl | omega) | (clear hs hX hF hK; fail))
  repeat' (first | refine hw_ex32 ⟨by omega, by omega⟩ ?_ | (intro h; exact absurd h (by decide)) | intro _ | refine And.intro ?_ ?_ | (refine hs [10] _ rfl ?_; conv => whnf) | apply (cuts _) | (rw [hw_up_up]; apply (cuts _)) | (rw [hw_up_id z_dg i]; apply (cuts _)) | apply hK | (rw [hw_up_up]; apply hK) | (rw [hw_up_id z_dg i]; apply hK))
  all_goals (first | exact Nat.lt_succ_self _ | assumption | omega | exact wc_0 | (refine wc_le (by assumption) ?_; omega) | (clear hs hX hF hK; simp only [hw_up_s, hw_up_n hij] at *; omega) | (clear hs hX hF hK; simp only [hw_up_s, hw_up_n hij] at *; refine wc_le (by assumption) ?_; omega) | (clear hs hX hF hK; simp only [hw_up_s, hw_up_n hij] at *; refine wc_s (by assumption) ?_ ?_ <;> first | assumption | rfl | omega) | (clear hs hX hF hK; fail))
end C53
