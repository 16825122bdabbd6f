/-! the library: numbers, Strings -/
section C41
variable {scr : Nat × (Nat → Int32)} {d : Nat} {K : Option hw_V → hw_Z → Prop} {E : Nat → hw_Z → Prop} {Z : hw_Z} {T : hw_T}
theorem hb_shr_0 {x : Int} (h : -2147483648 ≤ x ∧ x ≤ 2147483647) : hb_shr x 0 = x := by
  unfold hb_shr
  dsimp only
  have e : (Int32.ofInt 0 &&& 31 : Int32) = 0 := by decide
  rw [e]
  have e2 : (Int32.ofInt x >>> (0 : Int32)) = Int32.ofInt x := by
    refine Int32.toInt_inj.mp ?_
    rw [← Int32.toInt_toBitVec, Int32.toBitVec_shiftRight, BitVec.sshiftRight_eq', BitVec.toInt_sshiftRight, Int32.toInt_toBitVec]
    have : ((0 : Int32).toBitVec.smod 32).toNat = 0 := by decide
    rw [this]
    exact Int.shiftRight_zero _
  rw [e2]
  exact Int32.toInt_ofInt_of_le (by omega) (by omega)
theorem mm_pci {v : Value} {i n : Int32} {S : mm_S} {Q : mm_O → mm_S → Prop} (hv : v = .null ∨ ∃ k, v = .ref k) (h0 : 0 ≤ i.toInt) (h1 : i.toInt < n.toInt) (hQ : Q (.inl (some (.int i))) S) : mm_ex pg_G pg_TT scr (d + 1) 48 [.int i, .int n, v] S Q := by
  have e1 : ¬ mm_icmp .lt i 0 = true := by
    rw [hw_cn_ok]
    intro q
    have q : i.toInt < (0 : Int32).toInt := q
    have z : (0 : Int32).toInt = 0 := rfl
    omega
  have e2 : mm_icmp .lt i n = true := by
    rw [hw_cn_ok]
    exact h1
  rcases hv with rfl | ⟨k, rfl⟩
  · refine ⟨rfl, 7, ?_⟩
    show mm_wp pg_G pg_TT scr (mm_ex pg_G pg_TT scr d) 48 Q 5 (if mm_icmp .lt i 0 = true then 9 else 4, [some (.int i), some (.int n), some .null], [], S)
    rw [if_neg e1]
    show mm_wp pg_G pg_TT scr (mm_ex pg_G pg_TT scr d) 48 Q 2 (if mm_icmp .lt i n = true then 16 else 9, [some (.int i), some (.int n), some .null], [], S)
    rw [if_pos e2]
    exact ⟨i, rfl, ⟨.int, rfl, rfl⟩, hQ⟩
  · refine ⟨rfl, 7, ?_⟩
    show mm_wp pg_G pg_TT scr (mm_ex pg_G pg_TT scr d) 48 Q 5 (if mm_icmp .lt i 0 = true then 9 else 4, [some (.int i), some (.int n), some (.ref k)], [], S)
    rw [if_neg e1]
    show mm_wp pg_G pg_TT scr (mm_ex pg_G pg_TT scr d) 48 Q 2 (if mm_icmp .lt i n = true then 16 else 9, [some (.int i), some (.int n), some (.ref k)], [], S)
    rw [if_pos e2]
    exact ⟨i, rfl, ⟨.int, rfl, rfl⟩, hQ⟩
theorem mm_sci {i n : Int32} {S : mm_S} {Q : mm_O → mm_S → Prop} (h0 : 0 ≤ i.toInt) (h1 : i.toInt < n.toInt) (hr : S.1 ≤ mm_lc pg_TT ∧ S.2.1 ≤ mm_lsl pg_TT) (hQ : Q (.inl none) S) : mm_ex pg_G pg_TT scr (d + 2) 47 [.int i, .int n] S Q := by
  refine ⟨rfl, 7, ?_⟩
  show mm_wp pg_G pg_TT scr (mm_ex pg_G pg_TT scr (d + 1)) 47 Q 4 (5, [some (.int i), some (.int n)], [if scr.2 mm_big = 0 then .null else .ref (mm_big + 3000), .int n, .int i], S)
  refine ⟨rfl, hr, Nat.le_refl _, Nat.zero_le _, rfl, ?_⟩
  refine mm_pci ?_ h0 h1 ?_
  · by_cases z : scr.2 mm_big = 0
    · exact Or.inl (if_pos z)
    · exact Or.inr ⟨_, if_neg z⟩
  · show mm_wp pg_G pg_TT scr (mm_ex pg_G pg_TT scr (d + 1)) 47 Q 2 (9, [some (.int i), some (.int n)], [], S)
    exact ⟨rfl, rfl, hQ⟩
theorem s_ci (_ : hw_U T) {x y : Int} (h : 0 ≤ x ∧ x < y) (hK : K none Z) : hw_C pg_G pg_TT scr T (d + 2) 47 [hw_I x, hw_I y] Z K E := by
  intro as S Q hs hR hroom hK' hE'
  obtain ⟨_, _, rfl, ⟨a, rfl, rfl⟩, _, _, rfl, ⟨b, rfl, rfl⟩, hn⟩ := hs
  have hn : _ = [] := hn
  subst hn
  exact mm_sci h.1 h.2 ⟨Nat.le_of_succ_le hroom.1, Nat.le_trans (Nat.le_add_right _ _) hroom.2⟩ (hK' none none Z S hK rfl hR (hw_el_rf _ _))
theorem c_max (hU : hw_U T) {x y : Int} (hK : ∀ r, (r = x ∧ y ≤ x ∨ r = y ∧ x ≤ y) → K (some (hw_I r)) Z) : hw_C pg_G pg_TT scr T (d + 1) 10 [hw_I x, hw_I y] Z K E := by
  refine hw_meth hU hv_DG ⟨rfl, rfl⟩ (fun w X hs hX hF => ?_)
  repeat' (first | refine hw_ex32 ⟨by omega, by omega⟩ ?_ | intro _ | refine And.intro ?_ ?_ | (refine hs [] _ rfl ?_; conv => whnf) | apply hK)
  all_goals (first | exact Nat.lt_succ_self _ | omega)
theorem c_min (hU : hw_U T) {x y : Int} (hK : ∀ r, (r = x ∧ x ≤ y ∨ r = y ∧ y ≤ x) → K (some (hw_I r)) Z) : hw_C pg_G pg_TT scr T (d + 1) 34 [hw_I x, hw_I y] Z K E := by
  refine hw_meth hU hv_DG ⟨rfl, rfl⟩ (fun w X hs hX hF => ?_)
  repeat' (first | refine hw_ex32 ⟨by omega, by omega⟩ ?_ | intro _ | refine And.intro ?_ ?_ | (refine hs [] _ rfl ?_; conv => whnf) | apply hK)
  all_goals (first | exact Nat.lt_succ_self _ | omega)
theorem c_abs (hU : hw_U T) {x : Int} (hK : ∀ r, K (some (hw_J r)) Z) : hw_C pg_G pg_TT scr T (d + 1) 129 [hw_J x] Z K E := by
  refine hw_meth hU hv_DG ⟨rfl, rfl⟩ (fun w X hs hX hF => ?_)
  repeat' (first | refine hw_ex32 ⟨by omega, by omega⟩ ?_ | intro _ | refine And.intro ?_ ?_ | (refine hs [] _ rfl ?_; conv => whnf) | apply hK)
  all_goals (first | exact Nat.lt_succ_self _ | omega)
theorem c_floorMod (hU : hw_U T) {x y : Int} (hy : 0 < y) (hK : ∀ r, K (some (hw_I r)) Z) : hw_C pg_G pg_TT scr T (d + 1) 83 [hw_I x, hw_I y] Z K E := by
  refine hw_meth hU hv_DG ⟨rfl, rfl⟩ (fun w X hs hX hF => ?_)
  repeat' (first | refine hw_ex32 ⟨by omega, by omega⟩ ?_ | intro _ | refine And.intro ?_ ?_ | (refine hs [] _ rfl ?_; conv => whnf) | apply hK)
  all_goals (first | exact Nat.lt_succ_self _ | omega)
theorem c_nlz (hU : hw_U T) {x : Int} (hK : ∀ r, K (some (hw_I r)) Z) : hw_C pg_G pg_TT scr T (d + 1) 19 [hw_I x] Z K E := by
  refine hw_meth hU hv_DG ⟨rfl, rfl⟩ (fun w X hs hX hF => ?_)
  repeat' (first | refine hw_ex32 ⟨by omega, by omega⟩ ?_ | intro _ | refine And.intro ?_ ?_ | (refine hs [] _ rfl ?_; conv => whnf) | apply hK)
  all_goals (first | exact Nat.lt_succ_self _ | omega)
theorem s_coder (hU : hw_U T) {j : Int} (hj : 1 ≤ j ∧ j ≤ 41) (hK : ∀ r, r = 0 → K (some (hw_I r)) Z) : hw_C pg_G pg_TT scr T (d + 1) 43 [hw_R 1000000 j] Z K E := by
  refine hw_meth hU hv_DG ⟨rfl, rfl⟩ (fun w X hs hX hF => ?_)
  repeat' (first | refine hw_ex32 ⟨by omega, by omega⟩ ?_ | intro _ | refine And.intro ?_ ?_ | (refine hs [] _ rfl ?_; conv => whnf) | apply hK)
  all_goals (first | exact Nat.lt_succ_self _ | omega)
theorem s_latin (hU : hw_U T) {j : Int} (hj : 1 ≤ j ∧ j ≤ 41) (hK : ∀ r, r = 1 → K (some (hw_I r)) Z) : hw_C pg_G pg_TT scr T (d + 1) 45 [hw_R 1000000 j] Z K E := by
  refine hw_meth hU hv_DG ⟨rfl, rfl⟩ (fun w X hs hX hF => ?_)
  repeat' (first | refine hw_ex32 ⟨by omega, by omega⟩ ?_ | intro _ | refine And.intro ?_ ?_ | (refine hs [] _ rfl ?_; conv => whnf) | apply hK)
  all_goals (first | exact Nat.lt_succ_self _ | omega)
theorem s_length (hU : hw_U T) {j : Int} (hj : 1 ≤ j ∧ j ≤ 41) (hK : ∀ r, r = hw_sl pg_sb j → K (some (hw_I r)) Z) : hw_C pg_G pg_TT scr T (d + 2) 42 [hw_R 1000000 j] Z K E := by
  refine hw_meth hU hv_DG ⟨rfl, rfl⟩ (fun w X hs hX hF => ?_)
  repeat' (first | refine hw_ex32 ⟨by omega, by omega⟩ ?_ | intro _ | refine And.intro ?_ ?_ | (refine hs [] _ rfl ?_; conv => whnf) | apply hK | (apply hX; apply s_coder hU))
  all_goals (first | omega | (subst_vars; exact hb_shr_0 (by assumption)))
theorem s_lcharAt (hU : hw_U T) {j p : Int} (hj : 1 ≤ j ∧ j ≤ 41) (hp : 0 ≤ p ∧ p < hw_sl pg_sb j) (hK : ∀ r, 0 ≤ r → r ≤ 65535 → K (some (hw_I r)) Z) : hw_C pg_G pg_TT scr T (d + 3) 46 [hw_R 1000001 j, hw_I p] Z K E := by
  refine hw_meth hU hv_DG ⟨rfl, rfl⟩ (fun w X hs hX hF => ?_)
  repeat' (first | refine hw_ex32 ⟨by omega, by omega⟩ ?_ | intro _ | refine And.intro ?_ ?_ | (refine hs [] _ rfl ?_; conv => whnf) | apply hK | (apply hX; apply s_ci hU))
  all_goals (first | exact Nat.lt_succ_self _ | omega)
theorem s_charAt (hU : hw_U T) {j p : Int} (hj : 1 ≤ j ∧ j ≤ 41) (hp : 0 ≤ p ∧ p < hw_sl pg_sb j) (hK : ∀ r, 0 ≤ r → r ≤ 65535 → K (some (hw_I r)) Z) : hw_C pg_G pg_TT scr T (d + 4) 44 [hw_R 1000000 j, hw_I p] Z K E := by
  refine hw_meth hU hv_DG ⟨rfl, rfl⟩ (fun w X hs hX hF => ?_)
  repeat' (first | refine hw_ex32 ⟨by omega, by omega⟩ ?_ | intro _ | refine And.intro ?_ ?_ | (refine hs [] _ rfl ?_; conv => whnf) | apply hK | (apply hX; apply s_latin hU) | (apply hX; apply s_lcharAt hU))
  all_goals (first | exact Nat.lt_succ_self _ | omega)
theorem s_lequals (hU : hw_U T) {j k : Int} (hj : 1 ≤ j ∧ j ≤ 41) (hk : 1 ≤ k ∧ k ≤ 41) (hK : ∀ r, 0 ≤ r → r ≤ 1 → K (some (hw_I r)) Z) : hw_C pg_G pg_TT scr T (d + 1) 205 [hw_R 1000001 j, hw_R 1000001 k] Z K E := by
  refine hw_meth hU hv_DG ⟨rfl, rfl⟩ (fun w X hs hX hF => ?_)
  have cuts : ∀ n : Nat, (∀ (i : Int), 0 ≤ i → i ≤ 2147483647 → hw_sl pg_sb j = hw_sl pg_sb k → (2147483647 - i).toNat < n → w (9, [some (hw_R 1000001 j), some (hw_R 1000001 k), some (hw_I (i))], [], Z)) := by
    intro n
    induction n with
    | zero =>
      repeat' (first | refine And.intro ?_ ?_ | intro _)
      all_goals omega
    | succ n ih =>
      intros
      refine hs [] _ rfl ?_
      conv => whnf
      repeat' (first | refine hw_ex32 ⟨by omega, by omega⟩ ?_ | intro _ | refine And.intro ?_ ?_ | (refine hs [9] _ rfl ?_; conv => whnf) | apply ih | apply hK)
      (all_goals clear ih); all_goals (first | exact Nat.lt_succ_self _ | omega)
  repeat' (first | refine hw_ex32 ⟨by omega, by omega⟩ ?_ | intro _ | refine And.intro ?_ ?_ | (refine hs [9] _ rfl ?_; conv => whnf) | apply (cuts _) | apply hK)
  all_goals (first | exact Nat.lt_succ_self _ | omega)
theorem s_equals (hU : hw_U T) {j k : Int} (hj : 1 ≤ j ∧ j ≤ 41) (hk : 1 ≤ k ∧ k ≤ 41) (hK : ∀ r, 0 ≤ r → r ≤ 1 → K (some (hw_I r)) Z) : hw_C pg_G pg_TT scr T (d + 2) 204 [hw_R 1000000 j, hw_R 1000000 k] Z K E := by
  refine hw_meth hU hv_DG ⟨rfl, rfl⟩ (fun w X hs hX hF => ?_)
  repeat' (first | refine hw_ex32 ⟨by omega, by omega⟩ ?_ | intro _ | refine And.intro ?_ ?_ | (refine hs [] _ rfl ?_; conv => whnf) | apply hK | (apply hX; apply s_lequals hU))
  all_goals (first | exact Nat.lt_succ_self _ | omega)
theorem s_can (hU : hw_U T) {x : Int} (hK : ∀ r, 0 ≤ r → r ≤ 1 → K (some (hw_I r)) Z) : hw_C pg_G pg_TT scr T (d + 1) 57 [hw_I x] Z K E := by
  refine hw_meth hU hv_DG ⟨rfl, rfl⟩ (fun w X hs hX hF => ?_)
  repeat' (first | refine hw_ex32 ⟨by omega, by omega⟩ ?_ | intro _ | refine And.intro ?_ ?_ | (refine hs [] _ rfl ?_; conv => whnf) | apply hK)
  all_goals (first | exact Nat.lt_succ_self _ | omega)
theorem s_lixc (hU : hw_U T) {j a b c : Int} (hj : 1 ≤ j ∧ j ≤ 41) (ha : 0 ≤ a ∧ a ≤ 2147483647) (hb : b ≤ hw_sl pg_sb j ∧ b ≤ 2147483647) (hK : ∀ r, -1 ≤ r → K (some (hw_I r)) Z) : hw_C pg_G pg_TT scr T (d + 1) 58 [hw_R 1000001 j, hw_I c, hw_I a, hw_I b] Z K E := by
  refine hw_meth hU hv_DG ⟨rfl, rfl⟩ (fun w X hs hX hF => ?_)
  have cuts : ∀ n : Nat, (∀ (v i : Int), 0 ≤ i → i ≤ 2147483647 → (2147483647 - i).toNat < n → w (7, [some (hw_R 1000001 j), some (hw_I (c)), some (hw_I (a)), some (hw_I (b)), some (hw_I (v)), some (hw_I (i))], [], Z)) := by
    intro n
    induction n with
    | zero =>
      repeat' (first | refine And.intro ?_ ?_ | intro _)
      all_goals omega
    | succ n ih =>
      intros
      refine hs [] _ rfl ?_
      conv => whnf
      repeat' (first | refine hw_ex32 ⟨by omega, by omega⟩ ?_ | intro _ | refine And.intro ?_ ?_ | (refine hs [7] _ rfl ?_; conv => whnf) | apply ih | apply hK)
      (all_goals clear ih); all_goals (first | exact Nat.lt_succ_self _ | omega)
  repeat' (first | refine hw_ex32 ⟨by omega, by omega⟩ ?_ | intro _ | refine And.intro ?_ ?_ | (refine hs [7] _ rfl ?_; conv => whnf) | apply (cuts _) | apply hK)
  all_goals (first | exact Nat.lt_succ_self _ | omega)
theorem s_lix (hU : hw_U T) {j a b c : Int} (hj : 1 ≤ j ∧ j ≤ 41) (ha : a ≤ 2147483647) (hK : ∀ r, -1 ≤ r → K (some (hw_I r)) Z) : hw_C pg_G pg_TT scr T (d + 2) 56 [hw_R 1000001 j, hw_I c, hw_I a, hw_I b] Z K E := by
  refine hw_meth hU hv_DG ⟨rfl, rfl⟩ (fun w X hs hX hF => ?_)
  repeat' (first | refine hw_ex32 ⟨by omega, by omega⟩ ?_ | intro _ | refine And.intro ?_ ?_ | (refine hs [] _ rfl ?_; conv => whnf) | apply hK | (apply hX; apply s_can hU) | (apply hX; apply c_max hU) | (apply hX; apply c_min hU) | (apply hX; apply s_lixc hU))
  all_goals (first | exact Nat.lt_succ_self _ | omega)
theorem s_ix2 (hU : hw_U T) {j a c : Int} (hj : 1 ≤ j ∧ j ≤ 41) (ha : a ≤ 2147483647) (hK : ∀ r, -1 ≤ r → K (some (hw_I r)) Z) : hw_C pg_G pg_TT scr T (d + 3) 55 [hw_R 1000000 j, hw_I c, hw_I a] Z K E := by
  refine hw_meth hU hv_DG ⟨rfl, rfl⟩ (fun w X hs hX hF => ?_)
  repeat' (first | refine hw_ex32 ⟨by omega, by omega⟩ ?_ | intro _ | refine And.intro ?_ ?_ | (refine hs [] _ rfl ?_; conv => whnf) | apply hK | (apply hX; apply s_latin hU) | (apply hX; apply s_length hU) | (apply hX; apply s_lix hU))
  all_goals (first | exact Nat.lt_succ_self _ | omega)
theorem s_ix (hU : hw_U T) {j c : Int} (hj : 1 ≤ j ∧ j ≤ 41) (hK : ∀ r, -1 ≤ r → K (some (hw_I r)) Z) : hw_C pg_G pg_TT scr T (d + 4) 54 [hw_R 1000000 j, hw_I c] Z K E := by
  refine hw_meth hU hv_DG ⟨rfl, rfl⟩ (fun w X hs hX hF => ?_)
  repeat' (first | refine hw_ex32 ⟨by omega, by omega⟩ ?_ | intro _ | refine And.intro ?_ ?_ | (refine hs [] _ rfl ?_; conv => whnf) | apply hK | (apply hX; apply s_ix2 hU))
  all_goals (first | exact Nat.lt_succ_self _ | omega)
end C41
