/-! the model: lowest terms -/
section C5c
variable {scr : Nat × (Nat → Int32)} {d : Nat} {K : Option hw_V → hw_Z → Prop} {E : Nat → hw_Z → Prop} {Z : hw_Z} {kof : Nat → Nat × Int} {own : Nat → Prop} {z_nn : Int → Int} {z_dg : Int → Int → Int} {zA : List Int} {zB : List (Int → Int)}
theorem gd_pos {a b : Int} (ha : 1 ≤ a) : 1 ≤ gd a b := by
  have h := Nat.gcd_pos_of_pos_left (m := a.toNat) b.toNat (by omega)
  unfold gd
  omega
theorem gd_le {a b : Int} (ha : 1 ≤ a) : gd a b ≤ a := by
  have h := Nat.gcd_le_left (m := a.toNat) b.toNat (by omega)
  unfold gd
  omega
theorem in_dv {a b c : Int} (ha : 0 ≤ a) (hc : a < c) : a / b < c := Int.lt_of_le_of_lt (Int.ediv_le_self b ha) hc
/-- all numbers but two and five are as they were -/
def lo_fr (va vb : Int → Int) (i j : Int) : Prop := ∃ _ : Unit, ∀ k : Int, ¬ k = i → ¬ k = j → (k < 775 ∨ 779 < k) → vb k = va k
theorem lo_0 {va : Int → Int} {i j : Int} : lo_fr va va i j := ⟨(), fun _ _ _ _ => rfl⟩
theorem lo_c {va vb : Int → Int} {i j : Int} (h : cm_fr va vb) : lo_fr va vb i j := h.elim fun _ h => ⟨(), fun k _ _ h1 => h k (by omega)⟩
theorem lo_u {va vb : Int → Int} {i j k x : Int} (h : lo_fr va vb i j) (hk : k = i ∨ k = j ∨ (775 ≤ k ∧ k ≤ 779)) : lo_fr va (hw_up vb k x) i j := h.elim fun _ h => ⟨(), fun q h1 h2 h3 => (hw_up_n (by omega)).trans (h q h1 h2 h3)⟩
theorem lo_e {va vb : Int → Int} {i j k : Int} (h : lo_fr va vb i j) (h1 : ¬ k = i) (h2 : ¬ k = j) (h3 : k < 775 ∨ 779 < k) : vb k = va k := h.elim fun _ h => h k h1 h2 h3
def lo_v (a b x y : Int) : Prop := ∃ _ : Unit, (a = 0 → x = 0 ∧ y = 1) ∧ (1 ≤ a → x = a / gd a b ∧ y = b / gd a b)
theorem lo_v0 {a b x y : Int} (ha : a = 0) (hx : x = 0) (hy : y = 1) : lo_v a b x y := ⟨(), fun _ => ⟨hx, hy⟩, fun h => absurd h (by omega)⟩
theorem lo_v1 {a b x y z p q : Int} (ha : 1 ≤ a) (hz : z = gd a b) (hp : p = a) (hq : q = b) (hx : x = p / z) (hy : y = q / z) : lo_v a b x y := by
  subst hz
  subst hp
  subst hq
  exact ⟨(), fun h => absurd h (by omega), fun _ => ⟨hx, hy⟩⟩
theorem m_lowest (hU : hw_U (hm_T kof own)) {va : Int → Int} {i j : Int} {m : Nat} (hv : wa_all z_nn z_dg va) (hij : ¬ i = j) (hi : i < 775 ∨ 779 < i) (hj : j < 775 ∨ 779 < j) (ha : va i < wB m) (hb : va j < wB m) (hm : m ≤ 1299) (hmi : (m : Int) ≤ hm_rm i) (hmj : (m : Int) ≤ hm_rm j) (hK : ∀ (u : Int → Int) (g : Int → Int → Int) (vb : Int → Int), wa_all u g vb → lo_fr va vb i j → lo_v (va i) (va j) (vb i) (vb j) → K none (zA, zB, [u], [g])) : hw_C pg_G pg_TT scr (hm_T kof own) (d + 5) 250 [hw_R 2 0, hw_R 0 i, hw_R 0 j] (zA, zB, [z_nn], [z_dg]) K E := by
  refine hw_meth hU hv_DG ⟨rfl, rfl⟩ (fun w X hs hX hF => ?_)
  have p1 := wa_nn hv i
  have p2 := wa_nn hv j
  have hji : ¬ j = i := fun e => hij e.symm
  have wb := wB_le (show m ≤ 1299 from hm)
  have hi775 : ¬ i = 775 := by omega
  have gi775 : ¬ (775 : Int) = i := by omega
  have hi776 : ¬ i = 776 := by omega
  have gi776 : ¬ (776 : Int) = i := by omega
  have hi777 : ¬ i = 777 := by omega
  have gi777 : ¬ (777 : Int) = i := by omega
  have hi778 : ¬ i = 778 := by omega
  have gi778 : ¬ (778 : Int) = i := by omega
  have hi779 : ¬ i = 779 := by omega
  have gi779 : ¬ (779 : Int) = i := by omega
  have hj775 : ¬ j = 775 := by omega
  have gj775 : ¬ (775 : Int) = j := by omega
  have hj776 : ¬ j = 776 := by omega
  have gj776 : ¬ (776 : Int) = j := by omega
  have hj777 : ¬ j = 777 := by omega
  have gj777 : ¬ (777 : Int) = j := by omega
  have hj778 : ¬ j = 778 := by omega
  have gj778 : ¬ (778 : Int) = j := by omega
  have hj779 : ¬ j = 779 := by omega
  have gj779 : ¬ (779 : Int) = j := by omega
  have r775 : hm_rm 775 = 1300 := by decide
  have r776 : hm_rm 776 = 1300 := by decide
  have r777 : hm_rm 777 = 1300 := by decide
  have r778 : hm_rm 778 = 1300 := by decide
  have r779 : hm_rm 779 = 1300 := by decide
  repeat' (first | refine hw_ex32 ⟨by omega, by omega⟩ ?_ | (intro h; exact absurd h (by decide)) | intro _ | refine And.intro ?_ ?_ | (refine hs [] _ rfl ?_; conv => whnf) | (refine hK _ _ _ (by with_reducible assumption) ?_ ?_) | (apply hX; refine v_one hU (by with_reducible assumption) ?_) | (apply hX; refine m_common hU (by with_reducible assumption) ?_ ?_ ?_ ?_ ?_) | (apply hX; refine v_copy hU (m := m) (by with_reducible assumption) ?_ ?_ ?_ ?_) | (apply hX; refine v_quotient hU (m1 := m) (m2 := m) (by with_reducible assumption) ?_ ?_ ?_ ?_ ?_ ?_ ?_ ?_ ?_ ?_ ?_))
  all_goals (first | with_reducible exact Nat.lt_succ_self _ | with_reducible assumption | omega | ((repeat' (first | with_reducible assumption | exact lo_0 | with_reducible exact lo_c (by with_reducible assumption) | refine lo_u ?_ (by omega))); done) | (have q1 := wa_n0 (p := z_nn) (va := va) (k := i) hv (by omega); clear hs hX hF hK; (try simp only [hw_up_e, Int.reduceEq, reduceIte, if_neg hij, if_neg hji, if_neg hi775, if_neg gi775, if_neg hi776, if_neg gi776, if_neg hi777, if_neg gi777, if_neg hi778, if_neg gi778, if_neg hi779, if_neg gi779, if_neg hj775, if_neg gj775, if_neg hj776, if_neg gj776, if_neg hj777, if_neg gj777, if_neg hj778, if_neg gj778, if_neg hj779, if_neg gj779] at *); with_reducible refine lo_v0 ?_ ?_ ?_ <;> first | rfl | omega) | (have q1 := wa_n1 (p := z_nn) (va := va) (k := i) hv (by omega); clear hs hX hF hK; have e1 := cm_e (k := i) (by with_reducible assumption) (by omega); have e2 := cm_e (k := j) (by with_reducible assumption) (by omega); have d1 := gd_pos (a := va i) (b := va j) q1; have d2 := gd_le (a := va i) (b := va j) q1; (try simp only [hw_up_e, Int.reduceEq, reduceIte, if_neg hij, if_neg hji, if_neg hi775, if_neg gi775, if_neg hi776, if_neg gi776, if_neg hi777, if_neg gi777, if_neg hi778, if_neg gi778, if_neg hi779, if_neg gi779, if_neg hj775, if_neg gj775, if_neg hj776, if_neg gj776, if_neg hj777, if_neg gj777, if_neg hj778, if_neg gj778, if_neg hj779, if_neg gj779] at *); first | with_reducible assumption | omega | (with_reducible refine in_dv ?_ ?_ <;> omega) | (with_reducible exact lo_v1 q1 (by with_reducible assumption) e1 e2 rfl rfl)) | (clear hs hX hF hK; fail))
end C5c
