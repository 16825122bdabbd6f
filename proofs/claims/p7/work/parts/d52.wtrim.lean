/-! the model: its numbers -/
section C52
variable {scr : Nat × (Nat → Int32)} {d : Nat} {K : Option hw_V → hw_Z → Prop} {E : Nat → hw_Z → Prop} {Z : hw_Z} {kof : Nat → Nat × Int} {own : Nat → Prop} {z_nn : Int → Int} {z_dg : Int → Int → Int} {zA : List Int} {zB : List (Int → Int)}
/-- digits from q on are 0 -/
def wt_ok (f : Int → Int) (q n : Int) : Prop := ∃ _ : Unit, ∀ j : Int, q ≤ j → j < n → f j = 0
theorem wt_0 {f : Int → Int} {n : Int} : wt_ok f n n := ⟨(), fun j h1 h2 => absurd h1 (by omega)⟩
theorem wt_s {f : Int → Int} {p q n : Int} (h : wt_ok f q n) (h1 : f p = 0) (hp : p = q - 1) : wt_ok f p n := by
  refine h.elim fun _ h => ⟨(), fun j h2 h3 => ?_⟩
  by_cases e : j = p
  · rw [e]; exact h1
  · exact h j (by omega) h3
/-- trimmed, the number is the same -/
theorem wt_is {f : Int → Int} {q n : Int} {k : Nat} (h : wt_ok f q n) (hn : n = k) (h0 : 0 ≤ q) (h1 : q ≤ n) (h2 : q ≤ 0 ∨ ¬ f (q - 1) = 0) (hd : wd f k) : wh_is q f (wv f k) := by
  refine h.elim fun _ h => ?_
  obtain ⟨m, rfl⟩ := Int.eq_ofNat_of_zero_le h0
  refine ⟨m, rfl, wd_le hd (by omega), fun j hj => ?_, ?_⟩
  · subst hj
    have h3 := hd j (by omega)
    rw [show ((j + 1 : Nat) : Int) - 1 = j by omega] at h2
    omega
  · exact (wv_z (fun i h3 h4 => h i (by omega) (by omega)) (by omega)).symm
theorem w_trim (hU : hw_U (hm_T kof own)) {i : Int} (h0 : 0 ≤ z_nn i) (hK : ∀ q, q ≤ z_nn i → 0 ≤ q → wt_ok (z_dg i) q (z_nn i) → (q ≤ 0 ∨ ¬ z_dg i (q - 1) = 0) → K none (zA, zB, [hw_up z_nn i q], [z_dg])) : hw_C pg_G pg_TT scr (hm_T kof own) (d + 1) 246 [hw_R 0 i] (zA, zB, [z_nn], [z_dg]) K E := by
  refine hw_meth hU hv_DG ⟨rfl, rfl⟩ (fun w X hs hX hF => ?_)
  have cuts : ∀ n : Nat, (∀ (q : Int), q ≤ z_nn i → 0 ≤ q → wt_ok (z_dg i) q (z_nn i) → (q).toNat < n → w (0, [some (hw_R 0 i)], [], (zA, zB, [hw_up z_nn i q], [z_dg]))) := by
    intro n
    induction n with
    | zero =>
      repeat' (first | refine And.intro ?_ ?_ | intro _)
      all_goals omega
    | succ n ih =>
      intros
      refine hs [] _ rfl ?_
      conv => whnf
      repeat' (first | refine hw_ex32 ⟨by omega, by omega⟩ ?_ | (intro h; exact absurd h (by decide)) | intro _ | refine And.intro ?_ ?_ | (refine hs [0] _ rfl ?_; conv => whnf) | apply ih | (rw [hw_up_up]; apply ih) | apply hK | (rw [hw_up_up]; apply hK))
      (all_goals clear ih); all_goals (first | exact Nat.lt_succ_self _ | assumption | omega | (clear hs hX hF hK; simp only [hw_up_s] at *; omega) | exact wt_0 | (clear hs hX hF hK; simp only [hw_up_s] at *; refine wt_s (by assumption) ?_ ?_ <;> first | assumption | rfl) | (clear hs hX hF hK; fail))
  rw [hw_up_id z_nn i]
  repeat' (first | refine hw_ex32 ⟨by omega, by omega⟩ ?_ | (intro h; exact absurd h (by decide)) | intro _ | refine And.intro ?_ ?_ | (refine hs [0] _ rfl ?_; conv => whnf) | apply (cuts _) | (rw [hw_up_up]; apply (cuts _)) | apply hK | (rw [hw_up_up]; apply hK))
  all_goals (first | exact Nat.lt_succ_self _ | assumption | omega | (clear hs hX hF hK; simp only [hw_up_s] at *; omega) | exact wt_0 | (clear hs hX hF hK; simp only [hw_up_s] at *; refine wt_s (by assumption) ?_ ?_ <;> first | assumption | rfl) | (clear hs hX hF hK; fail))
end C52
