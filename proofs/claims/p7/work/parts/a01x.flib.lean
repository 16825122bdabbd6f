/-! the library: Strings by their octets -/
section CH05
variable {scr : Nat × (Nat → Int32)} {d : Nat} {K : Option hw_V → hw_Z → Prop} {E : Nat → hw_Z → Prop} {Z : hw_Z} {T : hw_T}
theorem ch_t : ∀ j : Fin 42, ∀ p : Fin 72, hb_i2c (hb_and (hw_sc pg_sb (j.val : Int) (p.val : Int)) 255) = hw_sc pg_sb (j.val : Int) (p.val : Int) := by decide +kernel
theorem sl_t : ∀ j : Fin 42, hw_sl pg_sb (j.val : Int) ≤ 71 ∧ 0 ≤ hw_sl pg_sb (j.val : Int) ∧ (pg_sb j.val).length = (hw_sl pg_sb (j.val : Int)).toNat := by decide +kernel
theorem ch_id {j p : Int} (hj : 1 ≤ j ∧ j ≤ 41) (hp : 0 ≤ p ∧ p < hw_sl pg_sb j) : hb_i2c (hb_and (hw_sc pg_sb j p) 255) = hw_sc pg_sb j p := by
  have e : ((j.toNat : Nat) : Int) = j := Int.toNat_of_nonneg (by omega)
  have e2 : ((p.toNat : Nat) : Int) = p := Int.toNat_of_nonneg hp.1
  have a := (sl_t ⟨j.toNat, by omega⟩).1
  dsimp only at a
  rw [e] at a
  have b := ch_t ⟨j.toNat, by omega⟩ ⟨p.toNat, by omega⟩
  dsimp only at b
  rw [e, e2] at b
  exact b
theorem se_t : ∀ j k : Fin 42, 1 ≤ j.val → 1 ≤ k.val → pg_sb j.val = pg_sb k.val → j = k := by decide +kernel
/-- the first i octets are the same -/
def se_ok (j k i : Int) : Prop := ∃ _ : Unit, ∀ p, 0 ≤ p → p < i → hw_sc pg_sb j p = hw_sc pg_sb k p
theorem se_0 {j k : Int} : se_ok j k 0 := ⟨(), fun p h1 h2 => absurd h1 (by omega)⟩
theorem se_s {j k i i' x y : Int} (h : se_ok j k i) (hx : x = hw_sc pg_sb j i) (hy : y = hw_sc pg_sb k i) (hi : i' = i + 1) (e : x = y) : se_ok j k i' := by
  subst hx hy hi
  refine ⟨(), fun p h1 h2 => ?_⟩
  by_cases q : p = i
  · rw [q]; exact e
  · exact h.elim fun _ h => h p h1 (by omega)
theorem se_all {j k i : Int} (h : se_ok j k i) (hj : 1 ≤ j ∧ j ≤ 41) (hk : 1 ≤ k ∧ k ≤ 41) (hl : hw_sl pg_sb j = hw_sl pg_sb k) (hi : hw_sl pg_sb j ≤ i) : j = k := by
  have e1 : ((j.toNat : Nat) : Int) = j := Int.toNat_of_nonneg (by omega)
  have e2 : ((k.toNat : Nat) : Int) = k := Int.toNat_of_nonneg (by omega)
  have a := sl_t ⟨j.toNat, by omega⟩
  have b := sl_t ⟨k.toNat, by omega⟩
  dsimp only at a b
  rw [e1] at a
  rw [e2] at b
  have c : pg_sb j.toNat = pg_sb k.toNat := by
    refine List.ext_getElem (by rw [a.2.2, b.2.2, hl]) (fun q q1 q2 => ?_)
    obtain ⟨_, h⟩ := h
    have d := h (q : Int) (by omega) (by omega)
    unfold hw_sc at d
    rw [Int.toNat_natCast, List.getD_eq_getElem?_getD, List.getD_eq_getElem?_getD, List.getElem?_eq_getElem q1, List.getElem?_eq_getElem q2] at d
    exact Int32.toInt_inj.mp d
  have d := se_t ⟨j.toNat, by omega⟩ ⟨k.toNat, by omega⟩ (by show 1 ≤ j.toNat; omega) (by show 1 ≤ k.toNat; omega) c
  injection d with d
  omega
def sx_no (j c i : Int) : Prop := ∃ _ : Unit, ∀ p, 0 ≤ p → p < i → ¬ hw_sc pg_sb j p = c
theorem sx_0 {j c a : Int} (h : a = 0) : sx_no j c a := ⟨(), fun p h1 h2 => absurd h1 (by omega)⟩
theorem sx_at {j c i p : Int} (h : sx_no j c i) (h0 : 0 ≤ p) (h1 : p < i) : ¬ hw_sc pg_sb j p = c := h.elim fun _ h => h p h0 h1
theorem sx_s {j c i i' x : Int} (h : sx_no j c i) (hx : x = hw_sc pg_sb j i) (hi : i' = i + 1) (e : ¬ x = c) : sx_no j c i' := by
  subst hx hi
  refine ⟨(), fun p h1 h2 => ?_⟩
  by_cases q : p = i
  · rw [q]; exact e
  · exact h.elim fun _ h => h p h1 (by omega)
theorem sx_e {j c i m : Int} (h : sx_no j c i) (hm : m ≤ i) : sx_no j c m := ⟨(), fun p h1 h2 => sx_at h h1 (by omega)⟩
theorem b8_t : ∀ c : Fin 128, hb_i2b (c.val : Int) = (c.val : Int) ∧ hb_ushr (c.val : Int) 8 = 0 := by decide +kernel
theorem b8_id {c : Int} (h : 0 ≤ c ∧ c ≤ 127) : hb_i2b c = c ∧ hb_ushr c 8 = 0 := by
  have e : ((c.toNat : Nat) : Int) = c := Int.toNat_of_nonneg h.1
  have b := b8_t ⟨c.toNat, by omega⟩
  dsimp only at b
  rw [e] at b
  exact b
theorem s_flcharAt (hU : hw_U T) {j p : Int} (hj : 1 ≤ j ∧ j ≤ 41) (hp : 0 ≤ p ∧ p < hw_sl pg_sb j) (hK : ∀ r, r = hw_sc pg_sb j p → 0 ≤ r → r ≤ 65535 → K (some (hw_I r)) Z) : hw_C pg_G pg_TT scr T (d + 3) 46 [hw_R 1000001 j, hw_I p] Z K E := by
  refine hw_meth hU hv_DG ⟨rfl, rfl⟩ (fun w X hs hX hF => ?_)
  repeat' (first | refine hw_ex32 ⟨by omega, by omega⟩ ?_ | (intro h; exact absurd h (by decide)) | intro _ | refine And.intro ?_ ?_ | (refine hs [] _ rfl ?_; conv => whnf) | apply hK | (apply hX; apply s_ci hU))
  all_goals (first | exact Nat.lt_succ_self _ | assumption | omega | (subst_vars; exact ch_id hj hp))
theorem s_fcharAt (hU : hw_U T) {j p : Int} (hj : 1 ≤ j ∧ j ≤ 41) (hp : 0 ≤ p ∧ p < hw_sl pg_sb j) (hK : ∀ r, r = hw_sc pg_sb j p → 0 ≤ r → r ≤ 65535 → K (some (hw_I r)) Z) : hw_C pg_G pg_TT scr T (d + 4) 44 [hw_R 1000000 j, hw_I p] Z K E := by
  refine hw_meth hU hv_DG ⟨rfl, rfl⟩ (fun w X hs hX hF => ?_)
  repeat' (first | refine hw_ex32 ⟨by omega, by omega⟩ ?_ | (intro h; exact absurd h (by decide)) | intro _ | refine And.intro ?_ ?_ | (refine hs [] _ rfl ?_; conv => whnf) | apply hK | (apply hX; apply s_latin hU) | (apply hX; apply s_flcharAt hU))
  all_goals (first | exact Nat.lt_succ_self _ | assumption | omega)
theorem s_flequals (hU : hw_U T) {j k : Int} (hj : 1 ≤ j ∧ j ≤ 41) (hk : 1 ≤ k ∧ k ≤ 41) (hK : j = k → K (some (hw_I 1)) Z) (hK1 : ¬ j = k → K (some (hw_I 0)) Z) : hw_C pg_G pg_TT scr T (d + 1) 205 [hw_R 1000001 j, hw_R 1000001 k] Z K E := by
  refine hw_meth hU hv_DG ⟨rfl, rfl⟩ (fun w X hs hX hF => ?_)
  have cuts : ∀ n : Nat, (∀ (i : Int), 0 ≤ i → i ≤ 2147483647 → hw_sl pg_sb j = hw_sl pg_sb k → se_ok j k i → (2147483647 - i).toNat < n → w (9, [some (hw_R 1000001 j), some (hw_R 1000001 k), some (hw_I (i))], [], Z)) := by
    intro n
    induction n with
    | zero =>
      repeat' (first | refine And.intro ?_ ?_ | intro _)
      all_goals omega
    | succ n ih =>
      intros
      refine hs [] _ rfl ?_
      conv => whnf
      repeat' (first | refine hw_ex32 ⟨by omega, by omega⟩ ?_ | (intro h; exact absurd h (by decide)) | intro _ | refine And.intro ?_ ?_ | (refine hs [9] _ rfl ?_; conv => whnf) | apply ih | apply hK | apply hK1)
      (all_goals clear ih); all_goals (first | exact Nat.lt_succ_self _ | assumption | omega | exact se_0 | (refine se_s (by assumption) (by assumption) (by assumption) ?_ ?_ <;> omega) | (refine se_all (by assumption) hj hk ?_ ?_ <;> omega) | (subst_vars; omega) | (simp only [hw_I, Sum.inl.injEq, reduceCtorEq] at *; done))
  repeat' (first | refine hw_ex32 ⟨by omega, by omega⟩ ?_ | (intro h; exact absurd h (by decide)) | intro _ | refine And.intro ?_ ?_ | (refine hs [9] _ rfl ?_; conv => whnf) | apply (cuts _) | apply hK | apply hK1)
  all_goals (first | exact Nat.lt_succ_self _ | assumption | omega | exact se_0 | (refine se_s (by assumption) (by assumption) (by assumption) ?_ ?_ <;> omega) | (refine se_all (by assumption) hj hk ?_ ?_ <;> omega) | (subst_vars; omega) | (simp only [hw_I, Sum.inl.injEq, reduceCtorEq] at *; done))
theorem s_fequals (hU : hw_U T) {j k : Int} (hj : 1 ≤ j ∧ j ≤ 41) (hk : 1 ≤ k ∧ k ≤ 41) (hK : j = k → K (some (hw_I 1)) Z) (hK1 : ¬ j = k → K (some (hw_I 0)) Z) : hw_C pg_G pg_TT scr T (d + 2) 204 [hw_R 1000000 j, hw_R 1000000 k] Z K E := by
  refine hw_meth hU hv_DG ⟨rfl, rfl⟩ (fun w X hs hX hF => ?_)
  repeat' (first | refine hw_ex32 ⟨by omega, by omega⟩ ?_ | (intro h; exact absurd h (by decide)) | intro _ | refine And.intro ?_ ?_ | (refine hs [] _ rfl ?_; conv => whnf) | apply hK | apply hK1 | (apply hX; apply s_flequals hU))
  all_goals (first | exact Nat.lt_succ_self _ | assumption | omega)
theorem s_fcan (hU : hw_U T) {x : Int} (hx : 0 ≤ x ∧ x ≤ 127) (hK : K (some (hw_I 1)) Z) : hw_C pg_G pg_TT scr T (d + 1) 57 [hw_I x] Z K E := by
  refine hw_meth hU hv_DG ⟨rfl, rfl⟩ (fun w X hs hX hF => ?_)
  repeat' (first | refine hw_ex32 ⟨by omega, by omega⟩ ?_ | (intro h; exact absurd h (by decide)) | intro _ | refine And.intro ?_ ?_ | (refine hs [] _ rfl ?_; conv => whnf) | apply hK)
  all_goals (first | exact Nat.lt_succ_self _ | assumption | omega | (exfalso; have := (b8_id hx).2; subst_vars; omega))
theorem s_flixc (hU : hw_U T) {j a b c : Int} (hj : 1 ≤ j ∧ j ≤ 41) (hc : 0 ≤ c ∧ c ≤ 127) (ha : a = 0) (hb : b = hw_sl pg_sb j ∧ b ≤ 71) (hK : sx_no j c (hw_sl pg_sb j) → K (some (hw_I (-1))) Z) (hK1 : ∀ (r : Int), 0 ≤ r → r < hw_sl pg_sb j → hw_sc pg_sb j r = c → K (some (hw_I r)) Z) : hw_C pg_G pg_TT scr T (d + 1) 58 [hw_R 1000001 j, hw_I c, hw_I a, hw_I b] Z K E := by
  refine hw_meth hU hv_DG ⟨rfl, rfl⟩ (fun w X hs hX hF => ?_)
  have hv := (b8_id hc).1
  have cuts : ∀ n : Nat, (∀ (v i : Int), 0 ≤ i → i ≤ 2147483647 → v = c → sx_no j c i → (2147483647 - i).toNat < n → w (7, [some (hw_R 1000001 j), some (hw_I (c)), some (hw_I (a)), some (hw_I (b)), some (hw_I (v)), some (hw_I (i))], [], Z)) := by
    intro n
    induction n with
    | zero =>
      repeat' (first | refine And.intro ?_ ?_ | intro _)
      all_goals omega
    | succ n ih =>
      intros
      refine hs [] _ rfl ?_
      conv => whnf
      repeat' (first | refine hw_ex32 ⟨by omega, by omega⟩ ?_ | (intro h; exact absurd h (by decide)) | intro _ | refine And.intro ?_ ?_ | (refine hs [7] _ rfl ?_; conv => whnf) | apply ih | apply hK | apply hK1)
      (all_goals clear ih); all_goals (first | exact Nat.lt_succ_self _ | assumption | omega | exact sx_0 ha | (refine sx_s (by assumption) (by assumption) ?_ ?_ <;> omega) | (refine sx_e (by assumption) ?_; omega) | (subst_vars; omega) | (subst_vars; assumption))
  repeat' (first | refine hw_ex32 ⟨by omega, by omega⟩ ?_ | (intro h; exact absurd h (by decide)) | intro _ | refine And.intro ?_ ?_ | (refine hs [7] _ rfl ?_; conv => whnf) | apply (cuts _) | apply hK | apply hK1)
  all_goals (first | exact Nat.lt_succ_self _ | assumption | omega | exact sx_0 ha | (refine sx_s (by assumption) (by assumption) ?_ ?_ <;> omega) | (refine sx_e (by assumption) ?_; omega) | (subst_vars; omega) | (subst_vars; assumption))
theorem sl_b {j : Int} (hj : 1 ≤ j ∧ j ≤ 41) : hw_sl pg_sb j ≤ 71 ∧ 0 ≤ hw_sl pg_sb j := by
  have e : ((j.toNat : Nat) : Int) = j := Int.toNat_of_nonneg (by omega)
  have a := sl_t ⟨j.toNat, by omega⟩
  dsimp only at a
  rw [e] at a
  exact ⟨a.1, a.2.1⟩
theorem s_flix (hU : hw_U T) {j a b c : Int} (hj : 1 ≤ j ∧ j ≤ 41) (hc : 0 ≤ c ∧ c ≤ 127) (ha : a = 0) (hb : b = hw_sl pg_sb j) (hK : sx_no j c (hw_sl pg_sb j) → K (some (hw_I (-1))) Z) (hK1 : ∀ (r : Int), 0 ≤ r → r < hw_sl pg_sb j → hw_sc pg_sb j r = c → K (some (hw_I r)) Z) : hw_C pg_G pg_TT scr T (d + 2) 56 [hw_R 1000001 j, hw_I c, hw_I a, hw_I b] Z K E := by
  refine hw_meth hU hv_DG ⟨rfl, rfl⟩ (fun w X hs hX hF => ?_)
  have hsl : hw_sl pg_sb j ≤ 71 ∧ 0 ≤ hw_sl pg_sb j := sl_b hj
  repeat' (first | refine hw_ex32 ⟨by omega, by omega⟩ ?_ | (intro h; exact absurd h (by decide)) | intro _ | refine And.intro ?_ ?_ | (refine hs [] _ rfl ?_; conv => whnf) | apply hK | apply hK1 | (apply hX; apply s_fcan hU) | (apply hX; apply c_max hU) | (apply hX; apply c_min hU) | (apply hX; apply s_flixc hU))
  all_goals (first | exact Nat.lt_succ_self _ | assumption | omega | (refine sx_0 (a := hw_sl pg_sb j) ?_; omega))
theorem s_fix2 (hU : hw_U T) {j a c : Int} (hj : 1 ≤ j ∧ j ≤ 41) (hc : 0 ≤ c ∧ c ≤ 127) (ha : a = 0) (hK : sx_no j c (hw_sl pg_sb j) → K (some (hw_I (-1))) Z) (hK1 : ∀ (r : Int), 0 ≤ r → r < hw_sl pg_sb j → hw_sc pg_sb j r = c → K (some (hw_I r)) Z) : hw_C pg_G pg_TT scr T (d + 3) 55 [hw_R 1000000 j, hw_I c, hw_I a] Z K E := by
  refine hw_meth hU hv_DG ⟨rfl, rfl⟩ (fun w X hs hX hF => ?_)
  repeat' (first | refine hw_ex32 ⟨by omega, by omega⟩ ?_ | (intro h; exact absurd h (by decide)) | intro _ | refine And.intro ?_ ?_ | (refine hs [] _ rfl ?_; conv => whnf) | apply hK | apply hK1 | (apply hX; apply s_latin hU) | (apply hX; apply s_length hU) | (apply hX; apply s_flix hU))
  all_goals (first | exact Nat.lt_succ_self _ | assumption | omega)
theorem s_fix (hU : hw_U T) {j c : Int} (hj : 1 ≤ j ∧ j ≤ 41) (hc : 0 ≤ c ∧ c ≤ 127) (hK : sx_no j c (hw_sl pg_sb j) → K (some (hw_I (-1))) Z) (hK1 : ∀ (r : Int), 0 ≤ r → r < hw_sl pg_sb j → hw_sc pg_sb j r = c → K (some (hw_I r)) Z) : hw_C pg_G pg_TT scr T (d + 4) 54 [hw_R 1000000 j, hw_I c] Z K E := by
  refine hw_meth hU hv_DG ⟨rfl, rfl⟩ (fun w X hs hX hF => ?_)
  repeat' (first | refine hw_ex32 ⟨by omega, by omega⟩ ?_ | (intro h; exact absurd h (by decide)) | intro _ | refine And.intro ?_ ?_ | (refine hs [] _ rfl ?_; conv => whnf) | apply hK | apply hK1 | (apply hX; apply s_fix2 hU))
  all_goals (first | exact Nat.lt_succ_self _ | assumption | omega)
end CH05
