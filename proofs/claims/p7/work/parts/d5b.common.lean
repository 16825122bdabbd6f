/-! the model: common divisors, lowest terms -/
section C5b
variable {scr : Nat × (Nat → Int32)} {d : Nat} {K : Option hw_V → hw_Z → Prop} {E : Nat → hw_Z → Prop} {Z : hw_Z} {kof : Nat → Nat × Int} {own : Nat → Prop} {z_nn : Int → Int} {z_dg : Int → Int → Int} {zA : List Int} {zB : List (Int → Int)}
/-- the greatest common divisor -/
def gd (a b : Int) : Int := ((Nat.gcd a.toNat b.toNat : Nat) : Int)
theorem gd_0 {a : Int} (h : 0 ≤ a) : gd a 0 = a := by
  unfold gd
  rw [show (0 : Int).toNat = 0 from rfl, Nat.gcd_zero_right]
  omega
theorem gd_s {a b : Int} (ha : 0 ≤ a) (hb : 1 ≤ b) : gd b (a % b) = gd a b := by
  obtain ⟨m, rfl⟩ := Int.eq_ofNat_of_zero_le ha
  obtain ⟨n, rfl⟩ := Int.eq_ofNat_of_zero_le (by omega : 0 ≤ b)
  unfold gd
  have e : ((m : Int) % (n : Int)).toNat = m % n := by
    rw [← Int.natCast_emod]
    exact Int.toNat_natCast _
  rw [e, Int.toNat_natCast, Int.toNat_natCast, Nat.gcd_comm m n, Nat.gcd_rec n m, Nat.gcd_comm]
/-- all numbers but four are as they were -/
def cm_fr (va vb : Int → Int) : Prop := ∃ _ : Unit, ∀ k : Int, (k < 775 ∨ 778 < k) → vb k = va k
theorem cm_0 {va : Int → Int} : cm_fr va va := ⟨(), fun _ _ => rfl⟩
theorem cm_u {va vb : Int → Int} {k x : Int} (h : cm_fr va vb) (hk : 775 ≤ k ∧ k ≤ 778) : cm_fr va (hw_up vb k x) := h.elim fun _ h => ⟨(), fun q hq => (hw_up_n (by omega)).trans (h q hq)⟩
theorem cm_e {va vb : Int → Int} {k : Int} (h : cm_fr va vb) (hk : k < 775 ∨ 778 < k) : vb k = va k := h.elim fun _ h => h k hk
theorem in_md {a b c : Int} (hb : 1 ≤ b) (hc : b < c) : a % b < c := Int.lt_trans (Int.emod_lt_of_pos a (by omega)) hc
theorem m_common (hU : hw_U (hm_T kof own)) {va : Int → Int} {i j : Int} (hv : wa_all z_nn z_dg va) (hi : i < 775 ∨ 778 < i) (hj : j < 775 ∨ 778 < j) (ha : va i < wB 1299) (hb : va j < wB 1299) (hK : ∀ (u : Int → Int) (g : Int → Int → Int) (vb : Int → Int), wa_all u g vb → cm_fr va vb → vb 775 = gd (va i) (va j) → K none (zA, zB, [u], [g])) : hw_C pg_G pg_TT scr (hm_T kof own) (d + 4) 251 [hw_R 2 0, hw_R 0 i, hw_R 0 j] (zA, zB, [z_nn], [z_dg]) K E := by
  refine hw_meth hU hv_DG ⟨rfl, rfl⟩ (fun w X hs hX hF => ?_)
  have p1 := wa_nn hv i
  have p2 := wa_nn hv j
  have hi5 : ¬ i = 775 := by omega
  have hj5 : ¬ j = 775 := by omega
  have hj6 : ¬ j = 776 := by omega
  have cuts : ∀ n : Nat, (∀ (u : Int → Int) (g : Int → Int → Int) (vb : Int → Int), wa_all u g vb → cm_fr va vb → 0 ≤ vb 775 → vb 775 < wB 1299 → 0 ≤ vb 776 → vb 776 < wB 1299 → gd (vb 775) (vb 776) = gd (va i) (va j) → (vb 776).toNat < n → w (16, [some (hw_R 2 0), some (hw_R 0 i), some (hw_R 0 j)], [], (zA, zB, [u], [g]))) := by
    intro n
    induction n with
    | zero =>
      repeat' (first | refine And.intro ?_ ?_ | intro _)
      all_goals omega
    | succ n ih =>
      intro u g vb
      intros
      refine hs [] _ rfl ?_
      conv => whnf
      repeat' (first | refine hw_ex32 ⟨by omega, by omega⟩ ?_ | (intro h; exact absurd h (by decide)) | intro _ | refine And.intro ?_ ?_ | (refine hs [16] _ rfl ?_; conv => whnf) | (refine ih _ _ _ (by with_reducible assumption) ?_ ?_ ?_ ?_ ?_ ?_ ?_) | (refine hK _ _ _ (by with_reducible assumption) ?_ ?_) | (apply hX; refine v_copy hU (m := 1299) (by with_reducible assumption) ?_ ?_ ?_ ?_) | (apply hX; refine v_quotient hU (m1 := 1299) (m2 := 1299) (by with_reducible assumption) ?_ ?_ ?_ ?_ ?_ ?_ ?_ ?_ ?_ ?_ ?_))
      (all_goals clear ih); all_goals (first | with_reducible exact Nat.lt_succ_self _ | with_reducible assumption | omega | (unfold hm_rm; decide) | ((repeat' (first | with_reducible assumption | exact cm_0 | refine cm_u ?_ ⟨by decide, by decide⟩)); done) | (clear hs hX hF hK; simp only [hw_up_e, Int.reduceEq, reduceIte, if_neg hj5, if_neg hj6] at *; done) | (clear hs hX hF hK; (try simp only [hw_up_e, Int.reduceEq, reduceIte, if_neg hj5, if_neg hj6] at *); first | with_reducible assumption | omega | with_reducible exact wa_nn (by with_reducible assumption) _) | (with_reducible exact wa_n1 (by with_reducible assumption) (by omega)) | (have q1 := wa_n1 (p := u) (va := vb) (k := 776) (by with_reducible assumption) (by omega); clear hs hX hF hK; (try simp only [hw_up_e, Int.reduceEq, reduceIte] at *); first | with_reducible exact in_md q1 (by with_reducible assumption) | with_reducible exact Int.emod_nonneg _ (by omega) | (with_reducible refine (gd_s ?_ ?_).trans ?_ <;> first | with_reducible assumption | omega) | (have q2 := Int.emod_lt_of_pos (vb 775) (by omega : 0 < vb 776); have q3 := Int.emod_nonneg (vb 775) (by omega : ¬ vb 776 = 0); omega)) | (have q1 := wa_n0 (p := u) (va := vb) (k := 776) (by with_reducible assumption) (by omega); have q2 : gd (vb 775) (vb 776) = gd (va i) (va j) := (by with_reducible assumption); rw [q1, gd_0 (by with_reducible assumption)] at q2; with_reducible exact q2) | (clear hs hX hF hK; fail))
  repeat' (first | refine hw_ex32 ⟨by omega, by omega⟩ ?_ | (intro h; exact absurd h (by decide)) | intro _ | refine And.intro ?_ ?_ | (refine hs [16] _ rfl ?_; conv => whnf) | (refine (cuts ((va j).toNat + 1)) _ _ _ (by with_reducible assumption) ?_ ?_ ?_ ?_ ?_ ?_ ?_) | (refine hK _ _ _ (by with_reducible assumption) ?_ ?_) | (apply hX; refine v_copy hU (m := 1299) (by with_reducible assumption) ?_ ?_ ?_ ?_) | (apply hX; refine v_quotient hU (m1 := 1299) (m2 := 1299) (by with_reducible assumption) ?_ ?_ ?_ ?_ ?_ ?_ ?_ ?_ ?_ ?_ ?_))
  all_goals (first | with_reducible exact Nat.lt_succ_self _ | with_reducible assumption | omega | (unfold hm_rm; decide) | ((repeat' (first | with_reducible assumption | exact cm_0 | refine cm_u ?_ ⟨by decide, by decide⟩)); done) | (clear hs hX hF hK; simp only [hw_up_e, Int.reduceEq, reduceIte, if_neg hj5, if_neg hj6] at *; done) | (clear hs hX hF hK; (try simp only [hw_up_e, Int.reduceEq, reduceIte, if_neg hj5, if_neg hj6] at *); first | with_reducible assumption | omega | with_reducible exact wa_nn (by with_reducible assumption) _) | (with_reducible exact wa_n1 (by with_reducible assumption) (by omega)) | (have q1 := wa_n1 (p := u) (va := vb) (k := 776) (by with_reducible assumption) (by omega); clear hs hX hF hK; (try simp only [hw_up_e, Int.reduceEq, reduceIte] at *); first | with_reducible exact in_md q1 (by with_reducible assumption) | with_reducible exact Int.emod_nonneg _ (by omega) | (with_reducible refine (gd_s ?_ ?_).trans ?_ <;> first | with_reducible assumption | omega) | (have q2 := Int.emod_lt_of_pos (vb 775) (by omega : 0 < vb 776); have q3 := Int.emod_nonneg (vb 775) (by omega : ¬ vb 776 = 0); omega)) | (have q1 := wa_n0 (p := u) (va := vb) (k := 776) (by with_reducible assumption) (by omega); have q2 : gd (vb 775) (vb 776) = gd (va i) (va j) := (by with_reducible assumption); rw [q1, gd_0 (by with_reducible assumption)] at q2; with_reducible exact q2) | (clear hs hX hF hK; fail))
end C5b
