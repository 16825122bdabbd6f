/-! the model: its numbers, compared -/
section C54
variable {scr : Nat × (Nat → Int32)} {d : Nat} {K : Option hw_V → hw_Z → Prop} {E : Nat → hw_Z → Prop} {Z : hw_Z} {kof : Nat → Nat × Int} {own : Nat → Prop} {z_nn : Int → Int} {z_dg : Int → Int → Int} {zA : List Int} {zB : List (Int → Int)}
/-- digits from k on that are the same -/
def we_ok (f g : Int → Int) (k n : Int) : Prop := ∃ _ : Unit, ∀ q : Int, k ≤ q → q < n → f q = g q
theorem we_0 {f g : Int → Int} {k n : Int} (h : n ≤ k) : we_ok f g k n := ⟨(), fun q h1 h2 => absurd h1 (by omega)⟩
theorem we_s {f g : Int → Int} {p m k n : Int} (h : we_ok f g k n) (hk : k = p + 1) (hm : m = p) (h1 : f p = g p) : we_ok f g m n := by
  refine h.elim fun _ h => ⟨(), fun q h2 h3 => ?_⟩
  by_cases e : q = p
  · rw [e]; exact h1
  · exact h q (by omega) h3
theorem wv_ab {f g : Int → Int} {k m : Nat} (h : ∀ q : Nat, k ≤ q → q < k + m → f q = g q) : wv f (k + m) - wv f k = wv g (k + m) - wv g k := by
  induction m with
  | zero => show wv f k - wv f k = wv g k - wv g k; omega
  | succ m ih =>
    have h1 := ih (fun q h2 h3 => h q h2 (by omega))
    have e : ∀ f, wv f (k + (m + 1)) = wv f (k + m) + f ((k + m : Nat) : Int) * 65536 ^ (k + m) := fun _ => rfl
    rw [e, e, h (k + m) (by omega) (by omega)]
    omega
theorem wq_len {f g : Int → Int} {n m a b : Int} (h : wh_is n f a) (h1 : wh_is m g b) (h2 : n < m) : a < b := by
  refine Int.not_le.mp fun h3 => ?_
  have h4 := h
  obtain ⟨k, hk, _⟩ := h
  subst hk
  have h5 := wh_len h1 (Int.lt_of_le_of_lt h3 (wh_lt h4))
  omega
theorem wq_eq {f g : Int → Int} {n m k a b : Int} (h : wh_is n f a) (h1 : wh_is m g b) (h2 : n = m) (h3 : we_ok f g k n) (h4 : k ≤ 0) : a = b := by
  subst h2
  obtain ⟨j, hj, _, _, e1⟩ := h
  obtain ⟨i, hi, _, _, e2⟩ := h1
  obtain rfl : i = j := by omega
  rw [← e1, ← e2]
  exact h3.elim fun _ h3 => wv_eq (fun q hq => h3 q (by omega) (by omega))
theorem wq_lt {f g : Int → Int} {n m k p a b : Int} (h : wh_is n f a) (h1 : wh_is m g b) (h2 : n = m) (h3 : we_ok f g k n) (hk : k = p + 1) (h4 : 0 ≤ p) (h5 : p < n) (h6 : f p < g p) : a < b := by
  subst h2; subst hk
  obtain ⟨j, hj, d1, _, e1⟩ := h
  obtain ⟨i, hi, d2, _, e2⟩ := h1
  obtain rfl : i = j := by omega
  obtain ⟨p, rfl⟩ := Int.eq_ofNat_of_zero_le h4
  refine h3.elim fun _ h3 => ?_
  have h7 := wv_ab (f := f) (g := g) (k := p + 1) (m := i - (p + 1)) (fun q hq1 hq2 => h3 q (by omega) (by omega))
  rw [show p + 1 + (i - (p + 1)) = i by omega, wv_s, wv_s] at h7
  have h8 := (wv_b (wd_le d1 (by omega : p ≤ i))).2
  have h9 := (wv_b (wd_le d2 (by omega : p ≤ i))).1
  have h10 : (f p + 1) * 65536 ^ p ≤ g p * 65536 ^ p := Int.mul_le_mul_of_nonneg_right (by omega) (Int.le_of_lt (wp_pos p))
  rw [Int.add_mul, Int.one_mul] at h10
  omega
theorem wg_s {f g : Int → Int} {k n m : Int} (h : we_ok f g k n) (hn : n = m) : we_ok g f k m := by
  subst hn
  exact h.elim fun _ h => ⟨(), fun q h1 h2 => (h q h1 h2).symm⟩
theorem w_compare (hU : hw_U (hm_T kof own)) {i j a b : Int} (hi : wh_is (z_nn i) (z_dg i) a) (hj : wh_is (z_nn j) (z_dg j) b) (hK : a < b → K (some (hw_I (-1))) (zA, zB, [z_nn], [z_dg])) (hK1 : b < a → K (some (hw_I 1)) (zA, zB, [z_nn], [z_dg])) (hK2 : a = b → K (some (hw_I 0)) (zA, zB, [z_nn], [z_dg])) : hw_C pg_G pg_TT scr (hm_T kof own) (d + 1) 253 [hw_R 0 i, hw_R 0 j] (zA, zB, [z_nn], [z_dg]) K E := by
  refine hw_meth hU hv_DG ⟨rfl, rfl⟩ (fun w X hs hX hF => ?_)
  have rm_j := hm_rm_b j
  have rm_i := hm_rm_b i
  have cuts : ∀ n : Nat, (∀ (k : Int), -1 ≤ k → k < z_nn i → z_nn i ≤ 1300 → z_nn i = z_nn j → z_nn i ≤ hm_rm i → z_nn j ≤ hm_rm j → we_ok (z_dg i) (z_dg j) (k + 1) (z_nn i) → (k + 1).toNat < n → w (35, [some (hw_R 0 i), some (hw_R 0 j), some (hw_I (k))], [], (zA, zB, [z_nn], [z_dg]))) := by
    intro n
    induction n with
    | zero =>
      repeat' (first | refine And.intro ?_ ?_ | intro _)
      all_goals omega
    | succ n ih =>
      intros
      refine hs [] _ rfl ?_
      conv => whnf
      repeat' (first | refine hw_ex32 ⟨by omega, by omega⟩ ?_ | (intro h; exact absurd h (by decide)) | intro _ | refine And.intro ?_ ?_ | (refine hs [35] _ rfl ?_; conv => whnf) | apply ih | apply hK | apply hK1 | apply hK2)
      (all_goals clear ih); all_goals (first | exact Nat.lt_succ_self _ | assumption | omega | (exact wq_len hi hj (by omega)) | (exact wq_len hj hi (by omega)) | (exact wq_eq hi hj (by assumption) (by assumption) (by omega)) | (refine we_0 ?_; omega) | (refine we_s (by assumption) rfl ?_ (by assumption); omega) | (refine wq_lt hi hj (by assumption) (by assumption) rfl ?_ ?_ ?_ <;> omega) | (have hwe := wg_s (by assumption) (by assumption); exact wq_lt hj hi (by omega) hwe rfl (by omega) (by omega) (by omega)) | (clear hs hX hF hK hK1 hK2; fail))
  repeat' (first | refine hw_ex32 ⟨by omega, by omega⟩ ?_ | (intro h; exact absurd h (by decide)) | intro _ | refine And.intro ?_ ?_ | (refine hs [35] _ rfl ?_; conv => whnf) | apply (cuts _) | apply hK | apply hK1 | apply hK2)
  all_goals (first | exact Nat.lt_succ_self _ | assumption | omega | (exact wq_len hi hj (by omega)) | (exact wq_len hj hi (by omega)) | (exact wq_eq hi hj (by assumption) (by assumption) (by omega)) | (refine we_0 ?_; omega) | (refine we_s (by assumption) rfl ?_ (by assumption); omega) | (refine wq_lt hi hj (by assumption) (by assumption) rfl ?_ ?_ ?_ <;> omega) | (have hwe := wg_s (by assumption) (by assumption); exact wq_lt hj hi (by omega) hwe rfl (by omega) (by omega) (by omega)) | (clear hs hX hF hK hK1 hK2; fail))
end C54
