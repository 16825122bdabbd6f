/-! Math, Integer; the class: Machine, Model -/
section C42
variable {scr : Nat × (Nat → Int32)} {kof : Nat → Nat} {own : Nat → Prop} {d : Nat} {K : Option hw_V → hw_Z → Prop} {E : Nat → hw_Z → Prop} {Z : hw_Z} {A : List (Int → Int)} {s0 s1 s2 s3 s4 s5 s6 s7 s8 s9 s10 s11 s12 s13 s14 s15 s16 s17 s18 s19 s20 s21 s22 s23 s24 s25 s26 s27 s28 s29 s30 s31 s32 s33 : Int}
theorem c_max (hU : hw_U (hv_T kof own)) {x y : Int} (hK : ∀ r, (r = x ∧ y ≤ x ∨ r = y ∧ x ≤ y) → K (some (hw_I r)) Z) : hw_C pg_G pg_TT scr (hv_T kof own) (d + 1) 10 [hw_I x, hw_I y] Z K E := by
  refine hw_meth hU hv_DG ⟨rfl, rfl⟩ (fun w X hs hX hF => ?_)
  repeat' (first | apply hK | refine And.intro ?_ ?_ | intro _ | apply hs)
  all_goals omega
theorem c_min (hU : hw_U (hv_T kof own)) {x y : Int} (hK : ∀ r, (r = x ∧ x ≤ y ∨ r = y ∧ y ≤ x) → K (some (hw_I r)) Z) : hw_C pg_G pg_TT scr (hv_T kof own) (d + 1) 34 [hw_I x, hw_I y] Z K E := by
  refine hw_meth hU hv_DG ⟨rfl, rfl⟩ (fun w X hs hX hF => ?_)
  repeat' (first | apply hK | refine And.intro ?_ ?_ | intro _ | apply hs)
  all_goals omega
theorem c_floorMod (hU : hw_U (hv_T kof own)) {x y : Int} (hy : 0 < y) (hK : ∀ r, K (some (hw_I r)) Z) : hw_C pg_G pg_TT scr (hv_T kof own) (d + 1) 71 [hw_I x, hw_I y] Z K E := by
  refine hw_meth hU hv_DG ⟨rfl, rfl⟩ (fun w X hs hX hF => ?_)
  repeat' (first | apply hK | refine And.intro ?_ ?_ | intro _ | apply hs)
  all_goals omega
theorem c_emit (hU : hw_U (hv_T kof own)) {x y : Int} (hu : 0 ≤ s0 ∧ s0 ≤ 1501) (hK : ∀ r u, -1 ≤ r → r ≤ 1500 → s0 ≤ u → u ≤ 1501 → K (some (hw_I r)) ([u, s1, s2, s3, s4, s5, s6, s7, s8, s9, s10, s11, s12, s13, s14, s15, s16, s17, s18, s19, s20, s21, s22, s23, s24, s25, s26, s27, s28, s29, s30, s31, s32, s33], A)) : hw_C pg_G pg_TT scr (hv_T kof own) (d + 1) 59 [hw_R 11, hw_I x, hw_I y] ([s0, s1, s2, s3, s4, s5, s6, s7, s8, s9, s10, s11, s12, s13, s14, s15, s16, s17, s18, s19, s20, s21, s22, s23, s24, s25, s26, s27, s28, s29, s30, s31, s32, s33], A) K E := by
  refine hw_meth hU hv_DG ⟨rfl, rfl⟩ (fun w X hs hX hF => ?_)
  repeat' (first | apply hK | refine And.intro ?_ ?_ | intro _ | apply hs)
  all_goals omega
theorem c_aim (hU : hw_U (hv_T kof own)) {x : Int} (hu : 0 ≤ s0 ∧ s0 ≤ 1501) (hK : K none ([s0, s1, s2, s3, s4, s5, s6, s7, s8, s9, s10, s11, s12, s13, s14, s15, s16, s17, s18, s19, s20, s21, s22, s23, s24, s25, s26, s27, s28, s29, s30, s31, s32, s33], A)) : hw_C pg_G pg_TT scr (hv_T kof own) (d + 1) 66 [hw_R 11, hw_I x] ([s0, s1, s2, s3, s4, s5, s6, s7, s8, s9, s10, s11, s12, s13, s14, s15, s16, s17, s18, s19, s20, s21, s22, s23, s24, s25, s26, s27, s28, s29, s30, s31, s32, s33], A) K E := by
  refine hw_meth hU hv_DG ⟨rfl, rfl⟩ (fun w X hs hX hF => ?_)
  repeat' (first | apply hK | refine And.intro ?_ ?_ | intro _ | apply hs)
  all_goals omega
theorem c_join (hU : hw_U (hv_T kof own)) {x y z : Int} (hK : ∀ r b, (b = s1 ∨ b = 1) → K (some (hw_I r)) ([s0, b, s2, s3, s4, s5, s6, s7, s8, s9, s10, s11, s12, s13, s14, s15, s16, s17, s18, s19, s20, s21, s22, s23, s24, s25, s26, s27, s28, s29, s30, s31, s32, s33], A)) : hw_C pg_G pg_TT scr (hv_T kof own) (d + 2) 70 [hw_R 11, hw_I x, hw_I y, hw_I z] ([s0, s1, s2, s3, s4, s5, s6, s7, s8, s9, s10, s11, s12, s13, s14, s15, s16, s17, s18, s19, s20, s21, s22, s23, s24, s25, s26, s27, s28, s29, s30, s31, s32, s33], A) K E := by
  refine hw_meth hU hv_DG ⟨rfl, rfl⟩ (fun w X hs hX hF => ?_)
  repeat' (first | apply hK | (apply hX; apply c_min hU) | (apply hX; apply c_max hU) | (apply hX; apply c_floorMod hU) | refine And.intro ?_ ?_ | intro _ | apply hs)
  all_goals omega
theorem c_run_low (hU : hw_U (hv_T kof own)) {f m : Int} (hu : 0 ≤ s0 ∧ s0 ≤ 1501) (hK : ∀ r b, (b = 0 ∨ b = 1) → K (some (hw_I r)) ([s0, b, s2, s3, s4, s5, s6, s7, s8, s9, s10, s11, s12, s13, s14, s15, s16, s17, s18, s19, s20, s21, s22, s23, s24, s25, s26, s27, s28, s29, s30, s31, s32, s33], A)) : hw_C pg_G pg_TT scr (hv_T kof own) (d + 3) 69 [hw_R 11, hw_I f, hw_R 23, hw_I m] ([s0, s1, s2, s3, s4, s5, s6, s7, s8, s9, s10, s11, s12, s13, s14, s15, s16, s17, s18, s19, s20, s21, s22, s23, s24, s25, s26, s27, s28, s29, s30, s31, s32, s33], A) K E := by
  refine hw_meth hU hv_DG ⟨rfl, rfl⟩ (fun w X hs hX hF => ?_)
  have loop : ∀ (n : Nat) (b t k i : Int) (x7 x8 x9 x10 : Option hw_V), (b = 0 ∨ b = 1) → 0 ≤ t → t ≤ 247 → 0 ≤ i → i ≤ 1501 → (1501 - i).toNat < n → w (14, [some (hw_R 11), some (hw_I f), some (hw_R 23), some (hw_I m), some (hw_I t), some (hw_I k), some (hw_I i), x7, x8, x9, x10], [], ([s0, b, s2, s3, s4, s5, s6, s7, s8, s9, s10, s11, s12, s13, s14, s15, s16, s17, s18, s19, s20, s21, s22, s23, s24, s25, s26, s27, s28, s29, s30, s31, s32, s33], A)) := by
    intro n
    induction n with
    | zero => intros; omega
    | succ n ih =>
      intros
      refine hF (L' := [some (hw_R 11), some _, some (hw_R 23), some _, some _, some _, some _, none, none, none, none]) (by repeat' (first | exact True.intro | refine And.intro rfl ?_)) ?_
      apply hs
      repeat' (first | apply ih | apply hK | (apply hX; apply c_join hU) | refine And.intro ?_ ?_ | intro _ | apply hs)
      all_goals omega
  repeat' (first | apply loop (n := 10000000000) | apply hK | (apply hX; apply c_join hU) | refine And.intro ?_ ?_ | intro _ | apply hs)
  all_goals omega
theorem c_run_rows (hU : hw_U (hv_T kof own)) {f m : Int} (hu : 0 ≤ s0 ∧ s0 ≤ 1501) (hK : ∀ r b, (b = 0 ∨ b = 1) → K (some (hw_I r)) ([s0, b, s2, s3, s4, s5, s6, s7, s8, s9, s10, s11, s12, s13, s14, s15, s16, s17, s18, s19, s20, s21, s22, s23, s24, s25, s26, s27, s28, s29, s30, s31, s32, s33], A)) : hw_C pg_G pg_TT scr (hv_T kof own) (d + 3) 69 [hw_R 11, hw_I f, hw_R 46, hw_I m] ([s0, s1, s2, s3, s4, s5, s6, s7, s8, s9, s10, s11, s12, s13, s14, s15, s16, s17, s18, s19, s20, s21, s22, s23, s24, s25, s26, s27, s28, s29, s30, s31, s32, s33], A) K E := by
  refine hw_meth hU hv_DG ⟨rfl, rfl⟩ (fun w X hs hX hF => ?_)
  have loop : ∀ (n : Nat) (b t k i : Int) (x7 x8 x9 x10 : Option hw_V), (b = 0 ∨ b = 1) → 0 ≤ t → t ≤ 247 → 0 ≤ i → i ≤ 1501 → (1501 - i).toNat < n → w (14, [some (hw_R 11), some (hw_I f), some (hw_R 46), some (hw_I m), some (hw_I t), some (hw_I k), some (hw_I i), x7, x8, x9, x10], [], ([s0, b, s2, s3, s4, s5, s6, s7, s8, s9, s10, s11, s12, s13, s14, s15, s16, s17, s18, s19, s20, s21, s22, s23, s24, s25, s26, s27, s28, s29, s30, s31, s32, s33], A)) := by
    intro n
    induction n with
    | zero => intros; omega
    | succ n ih =>
      intros
      refine hF (L' := [some (hw_R 11), some _, some (hw_R 46), some _, some _, some _, some _, none, none, none, none]) (by repeat' (first | exact True.intro | refine And.intro rfl ?_)) ?_
      apply hs
      repeat' (first | apply ih | apply hK | (apply hX; apply c_join hU) | refine And.intro ?_ ?_ | intro _ | apply hs)
      all_goals omega
  repeat' (first | apply loop (n := 10000000000) | apply hK | (apply hX; apply c_join hU) | refine And.intro ?_ ?_ | intro _ | apply hs)
  all_goals omega
theorem c_updatesOf (hU : hw_U (hv_T kof own)) {c : Int} (hc : 0 ≤ c ∧ c ≤ 39) (hK : ∀ r, -234 ≤ r → r ≤ 240 → K (some (hw_I r)) ([s0, s1, s2, s3, s4, s5, s6, s7, s8, s9, s10, s11, s12, s13, s14, s15, s16, s17, s18, s19, s20, s21, s22, s23, s24, s25, s26, s27, s28, s29, s30, s31, s32, s33], A)) : hw_C pg_G pg_TT scr (hv_T kof own) (d + 1) 94 [hw_R 21, hw_I c] ([s0, s1, s2, s3, s4, s5, s6, s7, s8, s9, s10, s11, s12, s13, s14, s15, s16, s17, s18, s19, s20, s21, s22, s23, s24, s25, s26, s27, s28, s29, s30, s31, s32, s33], A) K E := by
  refine hw_meth hU hv_DG ⟨rfl, rfl⟩ (fun w X hs hX hF => ?_)
  repeat' (first | apply hK | refine And.intro ?_ ?_ | intro _ | apply hs)
  all_goals omega
theorem c_mclear (hU : hw_U (hv_T kof own)) (hK : K none ([s0, s1, s2, s3, s4, s5, 0, 0, s8, 0, 0, 0, 0, s13, s14, s15, s16, s17, s18, s19, s20, s21, s22, s23, s24, s25, s26, s27, s28, s29, s30, s31, s32, s33], A)) : hw_C pg_G pg_TT scr (hv_T kof own) (d + 1) 29 [hw_R 21] ([s0, s1, s2, s3, s4, s5, s6, s7, s8, s9, s10, s11, s12, s13, s14, s15, s16, s17, s18, s19, s20, s21, s22, s23, s24, s25, s26, s27, s28, s29, s30, s31, s32, s33], A) K E := by
  refine hw_meth hU hv_DG ⟨rfl, rfl⟩ (fun w X hs hX hF => ?_)
  repeat' (first | apply hK | refine And.intro ?_ ?_ | intro _ | apply hs)
  all_goals omega
end C42
