/-! the world at the law's entry -/
def pg_gv : List Jvm.Cond := flatC (Jvm.Cond.and given_1 narrow_1)
def pg_ghas (i : Nat) (w : Jvm.Cond) : Bool := decide (pg_gv[i]? = some w)
theorem pg_ghas_in {i : Nat} {w : Jvm.Cond} (h : pg_ghas i w = true) : w ∈ pg_gv := List.mem_of_getElem? (of_decide_eq_true h)
def pg_thas (i : Nat) (w : Jvm.Cond) : Bool := decide (lw_tbl[i]? = some w)
theorem pg_thas_in {i : Nat} {w : Jvm.Cond} (h : pg_thas i w = true) : w ∈ lw_tbl := List.mem_of_getElem? (of_decide_eq_true h)
/-- a String constant: class, index, number, text, the places of its words -/
abbrev pg_Q : Type := String × Nat × Nat × String × Nat × Nat
def pg_st : List pg_Q := [("MarkovDesk$Tokens", 74, 1, "mdp const int bool module endmodule init target true false min max mod ", 976, 121), ("MarkovDesk$Tokens", 95, 2, "->..=>!=<=>=", 1045, 196), ("MarkovDesk$Tokens", 97, 3, "=<>+-*/!&|?:;,'()[]", 1046, 212), ("MarkovDeskModel", 9, 4, "mdp", 1671, 235), ("MarkovDeskModel", 11, 5, "const", 1672, 242), ("MarkovDeskModel", 13, 6, "int", 1673, 251), ("MarkovDeskModel", 15, 7, "bool", 1674, 258), ("MarkovDeskModel", 17, 8, "module", 1675, 266), ("MarkovDeskModel", 19, 9, "endmodule", 1676, 276), ("MarkovDeskModel", 21, 10, "init", 1677, 289), ("MarkovDeskModel", 23, 11, "target", 1678, 297), ("MarkovDeskModel", 25, 12, "true", 1679, 307), ("MarkovDeskModel", 27, 13, "false", 1680, 315), ("MarkovDeskModel", 29, 14, "min", 1681, 324), ("MarkovDeskModel", 31, 15, "max", 1682, 331), ("MarkovDeskModel", 33, 16, "mod", 1683, 338), ("MarkovDeskModel", 41, 17, "->", 1684, 345), ("MarkovDeskModel", 43, 18, "..", 1685, 351), ("MarkovDeskModel", 45, 19, "=>", 1686, 357), ("MarkovDeskModel", 47, 20, "!=", 1687, 363), ("MarkovDeskModel", 49, 21, "<=", 1688, 369), ("MarkovDeskModel", 51, 22, ">=", 1689, 375), ("MarkovDeskModel", 53, 23, "=", 1690, 381), ("MarkovDeskModel", 55, 24, "<", 1691, 386), ("MarkovDeskModel", 57, 25, ">", 1692, 391), ("MarkovDeskModel", 59, 26, "+", 1693, 396), ("MarkovDeskModel", 61, 27, "-", 1694, 401), ("MarkovDeskModel", 63, 28, "*", 1695, 406), ("MarkovDeskModel", 65, 29, "/", 1696, 411), ("MarkovDeskModel", 67, 30, "!", 1697, 416), ("MarkovDeskModel", 69, 31, "&", 1698, 421), ("MarkovDeskModel", 71, 32, "|", 1699, 426), ("MarkovDeskModel", 73, 33, "?", 1700, 431), ("MarkovDeskModel", 75, 34, ":", 1701, 436), ("MarkovDeskModel", 77, 35, ";", 1702, 441), ("MarkovDeskModel", 79, 36, ",", 1703, 446), ("MarkovDeskModel", 81, 37, "'", 1704, 451), ("MarkovDeskModel", 83, 38, "(", 1705, 456), ("MarkovDeskModel", 85, 39, ")", 1706, 461), ("MarkovDeskModel", 87, 40, "[", 1707, 466), ("MarkovDeskModel", 89, 41, "]", 1708, 471)]
def pg_sr : List (String × Nat × Nat) := pg_st.map (fun q => (q.1, q.2.1, q.2.2.1))
def pg_sok (q : pg_Q) : Bool := pg_thas q.2.2.2.2.1 (.stringRef q.1 q.2.1 q.2.2.2.1) && pg_ghas q.2.2.2.2.2 (.exactly (.string q.1 q.2.1) "java/lang/String")
theorem pg_sts : pg_st.all pg_sok = true := by decide +kernel
theorem pg_sti : pg_st.all (fun q => decide (pg_st[q.2.2.1 - 1]? = some q) && decide (1 ≤ q.2.2.1) && decide (q.2.2.1 ≤ 41)) = true := by decide +kernel
theorem pg_stn : pg_st.length = 41 := by decide +kernel
def pg_sws : List (Nat × Nat × Nat × List Nat) := [(122, 123, 124, [125, 126, 127, 128, 129, 130, 131, 132, 133, 134, 135, 136, 137, 138, 139, 140, 141, 142, 143, 144, 145, 146, 147, 148, 149, 150, 151, 152, 153, 154, 155, 156, 157, 158, 159, 160, 161, 162, 163, 164, 165, 166, 167, 168, 169, 170, 171, 172, 173, 174, 175, 176, 177, 178, 179, 180, 181, 182, 183, 184, 185, 186, 187, 188, 189, 190, 191, 192, 193, 194, 195]), (197, 198, 199, [200, 201, 202, 203, 204, 205, 206, 207, 208, 209, 210, 211]), (213, 214, 215, [216, 217, 218, 219, 220, 221, 222, 223, 224, 225, 226, 227, 228, 229, 230, 231, 232, 233, 234]), (236, 237, 238, [239, 240, 241]), (243, 244, 245, [246, 247, 248, 249, 250]), (252, 253, 254, [255, 256, 257]), (259, 260, 261, [262, 263, 264, 265]), (267, 268, 269, [270, 271, 272, 273, 274, 275]), (277, 278, 279, [280, 281, 282, 283, 284, 285, 286, 287, 288]), (290, 291, 292, [293, 294, 295, 296]), (298, 299, 300, [301, 302, 303, 304, 305, 306]), (308, 309, 310, [311, 312, 313, 314]), (316, 317, 318, [319, 320, 321, 322, 323]), (325, 326, 327, [328, 329, 330]), (332, 333, 334, [335, 336, 337]), (339, 340, 341, [342, 343, 344]), (346, 347, 348, [349, 350]), (352, 353, 354, [355, 356]), (358, 359, 360, [361, 362]), (364, 365, 366, [367, 368]), (370, 371, 372, [373, 374]), (376, 377, 378, [379, 380]), (382, 383, 384, [385]), (387, 388, 389, [390]), (392, 393, 394, [395]), (397, 398, 399, [400]), (402, 403, 404, [405]), (407, 408, 409, [410]), (412, 413, 414, [415]), (417, 418, 419, [420]), (422, 423, 424, [425]), (427, 428, 429, [430]), (432, 433, 434, [435]), (437, 438, 439, [440]), (442, 443, 444, [445]), (447, 448, 449, [450]), (452, 453, 454, [455]), (457, 458, 459, [460]), (462, 463, 464, [465]), (467, 468, 469, [470]), (472, 473, 474, [475])]
def pg_tm (i : Nat) : Jvm.Term := match pg_st[i]? with
  | some q => .string q.1 q.2.1
  | none => .string "" 0
def pg_sv (i : Nat) : Jvm.Term := .field (pg_tm i) "java/lang/String" "value" "[B"
def pg_swk (i : Nat) (w : Nat × Nat × Nat × List Nat) : Bool := pg_ghas ((pg_st.getD i ("", 0, 0, "", 0, 0)).2.2.2.2.2) (.exactly (pg_tm i) "java/lang/String") && (pg_ghas w.1 (.eq (.field (pg_tm i) "java/lang/String" "coder" "B") (.int 0)) && (pg_ghas w.2.1 (.arrayOf (pg_sv i) .byte) && (pg_ghas w.2.2.1 (.eq (.length (pg_sv i)) (.int (Int32.ofNat (pg_sb (i + 1)).length))) && ((List.range (pg_sb (i + 1)).length).all (fun j => pg_ghas (w.2.2.2.getD j 0) (.eq (.elem (pg_sv i) (.int (Int32.ofNat j))) (.int ((pg_sb (i + 1)).getD j 0)))) && decide ((pg_sb (i + 1)).length < 1000)))))
theorem pg_swa : (List.range 41).all (fun i => pg_swk i (pg_sws.getD i (0, 0, 0, []))) = true := by decide +kernel
theorem pg_sbi : (List.range 41).all (fun i => (List.range 41).all (fun j => decide (pg_sb (i + 1) = pg_sb (j + 1) → i = j))) = true := by decide +kernel
theorem pg_str1 {s : State} {b : Nat} (hgv : ∀ w ∈ pg_gv, w.before #[Value.ref b] s = true) (i : Nat) : ∃ q : Nat × Nat, i < 41 → (pg_tm i).eval #[Value.ref b] s none [] s = some (.ref q.1) ∧ va_O "java/lang/String" q.1 (fun a => s.heap.size ≤ a) s s.heap ∧ va_OF "java/lang/String" "coder" "B" (.int 0) q.1 (fun a => s.heap.size ≤ a) s s.heap ∧ va_OF "java/lang/String" "value" "[B" (.ref q.2) q.1 (fun a => s.heap.size ≤ a) s s.heap ∧ va_T .byte q.2 (pg_sb (i + 1)).length (fun j => .int ((pg_sb (i + 1)).getD j 0)) (fun a => s.heap.size ≤ a) s s.heap := by
  by_cases hi : i < 41
  · have hs := List.all_eq_true.mp pg_swa i (List.mem_range.mpr hi)
    unfold pg_swk at hs
    simp only [Bool.and_eq_true] at hs
    obtain ⟨h1, h2, h3, h4, h5, h6⟩ := hs
    have hA : ∀ a : Nat, a < s.heap.size → ¬ (fun a => s.heap.size ≤ a) a := fun a h => Nat.not_le_of_lt h
    obtain ⟨a, c, cA, kA, q1, q2, q3, q4, q5, q6, -⟩ := Cond.exactly_spec (args := #[Value.ref b]) (first := s) (o := none) (s := s) (idx := []) (t := pg_tm i) (cls := "java/lang/String") (hgv _ (pg_ghas_in h1))
    obtain ⟨t, ht, hT⟩ := va_Tof (f := fun j => .int ((pg_sb (i + 1)).getD j 0)) (A := fun a => s.heap.size ≤ a) (Nat.lt_trans (of_decide_eq_true h6) (by decide)) (hgv _ (pg_ghas_in h3)) (va_eqt (hgv _ (pg_ghas_in h4))) (fun j hj => va_eqt (hgv _ (pg_ghas_in (List.all_eq_true.mp h5 j (List.mem_range.mpr hj))))) hA
    exact ⟨(a, t), fun _ => ⟨q1, ⟨cA, q3, q5, by rw [q6]; exact q2, hA a (Array.getElem?_eq_some_iff.mp q3).1⟩, vk_OFof q1 (va_eqt (hgv _ (pg_ghas_in h2))) hA, vk_OFof q1 ht hA, hT⟩⟩
  · exact ⟨(0, 0), fun h => absurd h hi⟩
theorem pg_stri {s : State} {A : Nat → Prop} {a t u i j : Nat} (hi : i < 41) (hj : j < 41) (h1 : va_OF "java/lang/String" "value" "[B" (.ref t) a A s s.heap) (h2 : va_OF "java/lang/String" "value" "[B" (.ref u) a A s s.heap) (h3 : va_T .byte t (pg_sb (i + 1)).length (fun k => .int ((pg_sb (i + 1)).getD k 0)) A s s.heap) (h4 : va_T .byte u (pg_sb (j + 1)).length (fun k => .int ((pg_sb (j + 1)).getD k 0)) A s s.heap) : i = j := by
  obtain ⟨cf, k, x, f, cell, a1, a2, a3, a4, a5, a6⟩ := h1
  obtain ⟨cf', k', x', f', cell', b1, b2, b3, b4, b5, b6⟩ := h2
  rw [a1] at b1
  cases b1
  rw [a3] at b3
  cases b3
  rw [a5] at b5
  cases b5
  obtain ⟨c, c1, c2, c3, c4, c5, c6, c7⟩ := h3
  obtain ⟨d, d1, d2, d3, d4, d5, d6, d7⟩ := h4
  rw [c1] at d1
  cases d1
  have g1 := List.all_eq_true.mp pg_swa i (List.mem_range.mpr hi)
  have g2 := List.all_eq_true.mp pg_swa j (List.mem_range.mpr hj)
  unfold pg_swk at g1 g2
  simp only [Bool.and_eq_true] at g1 g2
  have l1 := of_decide_eq_true g1.2.2.2.2.2
  have l2 := of_decide_eq_true g2.2.2.2.2.2
  have e : (pg_sb (i + 1)).length = (pg_sb (j + 1)).length := by
    rw [c5] at d5
    have e1 := congrArg Int32.toInt d5
    have t1 : ∀ m : Nat, m < 1000 → (Int32.ofNat m).toInt = m := fun m hm => Int32.toInt_ofNat_of_lt (by omega)
    rw [t1 _ l1, t1 _ l2] at e1
    omega
  have e2 : pg_sb (i + 1) = pg_sb (j + 1) := by
    refine List.ext_getElem e (fun k hk1 hk2 => ?_)
    have z1 := c6 k hk1
    have z2 := d6 k hk2
    rw [z1] at z2
    have z3 := Option.some.inj z2
    have z4 : (pg_sb (i + 1)).getD k 0 = (pg_sb (j + 1)).getD k 0 := by
      injection z3
    rw [List.getD_eq_getElem?_getD, List.getD_eq_getElem?_getD, List.getElem?_eq_getElem hk1, List.getElem?_eq_getElem hk2] at z4
    exact z4
  exact of_decide_eq_true (List.all_eq_true.mp (List.all_eq_true.mp pg_sbi i (List.mem_range.mpr hi)) j (List.mem_range.mpr hj)) e2
theorem pg_arrP {s : State} {ty : FieldType} (hty : ty = .int ∨ ty = .long ∨ ty = .boolean) {a : Array Value} (h : (Jvm.Cond.arrayClass ty).before a s = true) : ∃ cA : ClassId, ArrOfT s cA ty ∧ va_RA s cA ty := by
  obtain ⟨c, k, comp, h1, h2, h3⟩ := Cond.arrayClass_spec h
  refine ⟨c, fun n z => ⟨fun k hk => (by cases hk), k, h2, comp, h3⟩, ?_⟩
  rcases hty with rfl | rfl | rfl <;> exact h1
theorem pg_arrO {s : State} {C : String} {a : Array Value} (h : (Jvm.Cond.arrayOver (.object C)).before a s = true) : ∃ cA : ClassId, ArrOfT s cA (.object C) ∧ va_RA s cA (.object C) := by
  obtain ⟨comp, c, k, h1, h2, h3, h4, h5⟩ := Cond.arrayOver_spec h
  exact ⟨c, fun n z => ⟨fun k hk => (by cases hk), k, h3, comp, h4⟩, k, comp, h3, h4, h1, h5⟩
def pg_AO : List String := ["MarkovDesk$Nat", "MarkovDeskModel$Whole", "java/lang/String"]
def pg_ik (i : Nat) : Bool := match pg_cl[i]? with
  | some r => pg_has (pg_wc i).2.1 (.instantiable r.1 (if r.2.2 = 0 then 6 else r.2.2))
  | none => true
theorem pg_iks : (List.range 19).all pg_ik = true := by decide +kernel
theorem pg_cll : pg_cl.length = 19 := by decide +kernel
theorem pg_cls {s : State} {a : Array Value} (hts : ∀ w ∈ pg_Ts, w.before a s = true) (c : Nat) : ∃ x : ClassId × (Nat → Nat), ∀ q, pg_cl[c]? = some q → u_Kn s q.1 q.2.1 q.2.2 x.1 x.2 := by
  cases hc : pg_cl[c]? with
  | none => exact ⟨(0, fun _ => 0), fun q hq => by cases hq⟩
  | some r =>
    have hlt : c < 19 := by rw [← pg_cll]; exact (List.getElem?_eq_some_iff.mp hc).1
    have hi := List.all_eq_true.mp pg_iks c (List.mem_range.mpr hlt)
    unfold pg_ik at hi
    rw [hc] at hi
    obtain ⟨cC, iS, h⟩ := u_known hts (pg_clOK c r hc).1 (hts _ (pg_has_in hi))
    exact ⟨(cC, iS), fun q hq => by cases hq; exact h⟩
def pg_ncp : List (Nat × String × String) := [(27, "java/lang/ArithmeticException", "java/lang/IndexOutOfBoundsException"), (45, "java/lang/ArithmeticException", "java/lang/IllegalArgumentException"), (63, "java/lang/ArithmeticException", "java/lang/IllegalStateException"), (100, "java/lang/ArithmeticException", "java/lang/UnsupportedOperationException"), (79, "java/lang/IndexOutOfBoundsException", "java/lang/ArithmeticException"), (43, "java/lang/IndexOutOfBoundsException", "java/lang/IllegalArgumentException"), (61, "java/lang/IndexOutOfBoundsException", "java/lang/IllegalStateException"), (97, "java/lang/IndexOutOfBoundsException", "java/lang/UnsupportedOperationException"), (80, "java/lang/IllegalArgumentException", "java/lang/ArithmeticException"), (25, "java/lang/IllegalArgumentException", "java/lang/IndexOutOfBoundsException"), (62, "java/lang/IllegalArgumentException", "java/lang/IllegalStateException"), (98, "java/lang/IllegalArgumentException", "java/lang/UnsupportedOperationException"), (81, "java/lang/IllegalStateException", "java/lang/ArithmeticException"), (26, "java/lang/IllegalStateException", "java/lang/IndexOutOfBoundsException"), (44, "java/lang/IllegalStateException", "java/lang/IllegalArgumentException"), (99, "java/lang/IllegalStateException", "java/lang/UnsupportedOperationException"), (82, "java/lang/UnsupportedOperationException", "java/lang/ArithmeticException"), (28, "java/lang/UnsupportedOperationException", "java/lang/IndexOutOfBoundsException"), (46, "java/lang/UnsupportedOperationException", "java/lang/IllegalArgumentException"), (64, "java/lang/UnsupportedOperationException", "java/lang/IllegalStateException")]
theorem pg_ncpo : pg_ncp.all (fun q => pg_ghas q.1 (.not (.castable q.2.1 q.2.2))) = true := by decide +kernel
theorem pg_ncs_in : pg_ncs.all (fun p => pg_ncp.any (fun q => decide (q.2 = p))) = true := by decide +kernel
set_option maxHeartbeats 4000000 in
theorem pg_start {s : State} {b L : Nat} {xs : Nat → Int32} (hts : ∀ w ∈ lw_tbl, w.before #[Value.ref b] s = true) (hgv : (Jvm.Cond.and given_1 narrow_1).before #[Value.ref b] s = true) (hX : va_X b L xs s s.heap) (hL : L ≤ 3072) :
    ∃ (D : va_G) (tys : List (ClassId × FieldType)) (ex : Nat → Nat) (fm : Int32), ex 0 = b ∧ (∀ k ty, pg_aT[k]? = some ty → tys[k]? = some (mm_aC tys k, ty)) ∧ pg_E D pg_cl tys s.heap.size ex (L, fun j => if j = mm_big then fm else xs j) pg_AO pg_sr 41 pg_nc s := by
  have hg : ∀ w ∈ pg_gv, w.before #[Value.ref b] s = true := flat_of_before _ hgv
  have hT : ∀ w ∈ pg_Ts, w.before #[Value.ref b] s = true := fun w hw => hts w (List.mem_filter.mp hw).1
  obtain ⟨gD, hD⟩ := Classical.axiomOfChoice (pg_cls hT)
  obtain ⟨ad, had⟩ := Classical.axiomOfChoice (pg_str1 hg)
  have key : ∀ q ∈ pg_st, pg_st[q.2.2.1 - 1]? = some q ∧ 1 ≤ q.2.2.1 ∧ q.2.2.1 ≤ 41 := fun q hq => by
    have := List.all_eq_true.mp pg_sti q hq
    simp only [Bool.and_eq_true, decide_eq_true_eq] at this
    exact ⟨this.1.1, this.1.2, this.2⟩
  have hA0 : ∀ a : Nat, a < s.heap.size → ¬ (fun q => s.heap.size ≤ q) a := fun a h => Nat.not_le_of_lt h
  have zc := va_Zof (A := fun q => s.heap.size ≤ q) (hts _ (pg_thas_in (i := 986) (w := .laysStatic "java/lang/String" "COMPACT_STRINGS" "Z") (by decide +kernel))) (hts _ (pg_thas_in (i := 197) (w := .initialized "java/lang/String") (by decide +kernel))) (va_eqt (hg _ (pg_ghas_in (i := 6) (w := .eq (.static "java/lang/String" "COMPACT_STRINGS" "Z") (.int 1)) (by decide +kernel)))) hA0
  have zf := va_Zqof (A := fun q => s.heap.size ≤ q) (hts _ (pg_thas_in (i := 1002) (w := .laysStatic "jdk/internal/util/Preconditions" "SIOOBE_FORMATTER" "Ljava/util/function/BiFunction;") (by decide +kernel))) (hts _ (pg_thas_in (i := 199) (w := .initialized "jdk/internal/util/Preconditions") (by decide +kernel))) (hg _ (pg_ghas_in (i := 7) (w := .isRef (.static "jdk/internal/util/Preconditions" "SIOOBE_FORMATTER" "Ljava/util/function/BiFunction;")) (by decide +kernel))) hA0
  obtain ⟨fm, ft, hfm⟩ : ∃ (fm : Int32) (ft : Nat), (fm = 0 ∧ va_Z "jdk/internal/util/Preconditions" "SIOOBE_FORMATTER" "Ljava/util/function/BiFunction;" .null (fun q => s.heap.size ≤ q) s s.heap) ∨ (¬ fm = 0 ∧ va_Z "jdk/internal/util/Preconditions" "SIOOBE_FORMATTER" "Ljava/util/function/BiFunction;" (.ref ft) (fun q => s.heap.size ≤ q) s s.heap) := by
    rcases zf with h | ⟨t, h⟩
    · exact ⟨0, 0, Or.inl ⟨rfl, h⟩⟩
    · exact ⟨1, t, Or.inr ⟨by decide, h⟩⟩
  let ex : Nat → Nat := fun j => if j = 0 then b else if j ≤ 41 then (ad (j - 1)).1 else if j = 3000 then ft else (ad (j - 1001)).2
  have ex0 : ex 0 = b := rfl
  have ex1 : ∀ j, 1 ≤ j → j ≤ 41 → ex j = (ad (j - 1)).1 := fun j h1 h2 => by
    show (if j = 0 then b else if j ≤ 41 then (ad (j - 1)).1 else if j = 3000 then ft else (ad (j - 1001)).2) = _
    rw [if_neg (by omega), if_pos h2]
  have ex2 : ∀ j, 1 ≤ j → j ≤ 41 → ex (1000 + j) = (ad (j - 1)).2 := fun j h1 h2 => by
    show (if 1000 + j = 0 then b else if 1000 + j ≤ 41 then (ad (1000 + j - 1)).1 else if 1000 + j = 3000 then ft else (ad (1000 + j - 1001)).2) = _
    rw [if_neg (by omega), if_neg (by omega), if_neg (by omega), show 1000 + j - 1001 = j - 1 by omega]
  have ex3 : ex 3000 = ft := rfl
  have a0 := hts (.arrayClass .int) (pg_thas_in (i := 240) (by decide +kernel))
  have a1 := hts (.arrayClass .long) (pg_thas_in (i := 389) (by decide +kernel))
  have a2 := hts (.arrayClass .boolean) (pg_thas_in (i := 549) (by decide +kernel))
  have a3 := hts (.arrayOver (.object "MarkovDesk$Nat")) (pg_thas_in (i := 563) (by decide +kernel))
  have a4 := hts (.arrayOver (.object "MarkovDeskModel$Whole")) (pg_thas_in (i := 1724) (by decide +kernel))
  have a5 := hts (.arrayOver (.object "java/lang/String")) (pg_thas_in (i := 1670) (by decide +kernel))
  have z1 := hg _ (pg_ghas_in (i := 4) (w := .isRef (.static Bundle.tN "UNASSIGNED_STACK" Bundle.steD)) (by decide +kernel))
  have z2 := hg _ (pg_ghas_in (i := 5) (w := .isRef (.static Bundle.tN "SUPPRESSED_SENTINEL" Bundle.listD)) (by decide +kernel))
  have z3 := hts _ (pg_thas_in (i := 853) (w := .laysStatic Bundle.tN "UNASSIGNED_STACK" Bundle.steD) (by decide +kernel))
  have z4 := hts _ (pg_thas_in (i := 855) (w := .laysStatic Bundle.tN "SUPPRESSED_SENTINEL" Bundle.listD) (by decide +kernel))
  have z5 := hts _ (pg_thas_in (i := 192) (w := .initialized Bundle.tN) (by decide +kernel))
  obtain ⟨c0, p0⟩ := pg_arrP (Or.inl rfl) a0
  obtain ⟨c1, p1⟩ := pg_arrP (Or.inr (Or.inl rfl)) a1
  obtain ⟨c2, p2⟩ := pg_arrP (Or.inr (Or.inr rfl)) a2
  obtain ⟨c3, p3⟩ := pg_arrO a3
  obtain ⟨c4, p4⟩ := pg_arrO a4
  obtain ⟨c5, p5⟩ := pg_arrO a5
  have hA : ∀ a : Nat, a < s.heap.size → ¬ (fun q => s.heap.size ≤ q) a := fun a h => Nat.not_le_of_lt h
  refine ⟨(fun c => (gD c).1, fun c => (gD c).2), [(c0, .int), (c1, .long), (c2, .boolean), (c3, .object "MarkovDesk$Nat"), (c4, .object "MarkovDeskModel$Whole"), (c5, .object "java/lang/String")], ex, fm, ex0, ?_, ?_⟩
  · intro k ty hk
    match k, hk with
    | 0, hk => cases hk; rfl
    | 1, hk => cases hk; rfl
    | 2, hk => cases hk; rfl
    | 3, hk => cases hk; rfl
    | 4, hk => cases hk; rfl
    | 5, hk => cases hk; rfl
    | k + 6, hk => cases hk
  · refine ⟨fun w hw => va_Nw.of (pg_ts_gd hw).1 (hT w hw), ⟨fun c q hq => hD c q hq, ?_⟩, ?_, ?_, ?_, ?_, ⟨fun j h1 h2 => by rw [ex1 j h1 h2]; exact (had (j - 1) (by omega)).2.1, fun cC _ => Vm.assignable_self _ _⟩, ⟨va_Zqof z3 z5 z1 hA, va_Zqof z4 z5 z2 hA, pg_ls.of z3, pg_ls.of z4⟩, ?_, ?_⟩
    · intro k q hk
      match k, hk with
      | 0, hk => cases hk; exact p0
      | 1, hk => cases hk; exact p1
      | 2, hk => cases hk; exact p2
      | 3, hk => cases hk; exact p3
      | 4, hk => cases hk; exact p4
      | 5, hk => cases hk; exact p5
      | k + 6, hk => cases hk
    · intro ty ht
      rcases ht with rfl | rfl | rfl
      · exact a0
      · exact a1
      · exact a2
    · intro C hC
      simp only [pg_AO, List.mem_cons, List.not_mem_nil, or_false] at hC
      rcases hC with rfl | rfl | rfl
      · exact va_AO.of a3
      · exact va_AO.of a4
      · exact va_AO.of a5
    · show va_X (ex 0) L (fun j => if j = mm_big then fm else xs j) s s.heap
      rw [ex0]
      obtain ⟨scr, x1, x2, x3, x4, x5⟩ := hX
      refine ⟨scr, x1, x2, x3, x4, fun j hj => ?_⟩
      have : ¬ j = mm_big := by
        unfold mm_big
        omega
      dsimp only
      rw [if_neg this]
      exact x5 j hj
    · intro q hq
      obtain ⟨q, hm, rfl⟩ := List.mem_map.mp hq
      have k := key q hm
      have hs := List.all_eq_true.mp pg_sts q hm
      unfold pg_sok at hs
      rw [Bool.and_eq_true] at hs
      have h1 := hts _ (pg_thas_in hs.1)
      have e1 := (had (q.2.2.1 - 1) (by omega)).1
      have e2 : pg_tm (q.2.2.1 - 1) = .string q.1 q.2.1 := by
        unfold pg_tm
        rw [k.1]
      rw [e2] at e1
      refine ⟨q.2.2.2.1, ?_⟩
      show vk_R q.1 q.2.1 q.2.2.2.1 (ex q.2.2.1) s
      rw [ex1 _ k.2.1 k.2.2]
      exact vk_R.of h1 e1
    · intro x y hn
      have h1 := List.all_eq_true.mp pg_ncs_in _ hn
      obtain ⟨q, hq, he⟩ := List.any_eq_true.mp h1
      have he := of_decide_eq_true he
      have h2 := hg _ (pg_ghas_in (List.all_eq_true.mp pg_ncpo q hq))
      rw [he] at h2
      exact va_Nc.of h2
    · refine ⟨fun j h1 h2 => ?_, fun j k h1 h2 h3 h4 he => ?_, zc, ?_⟩
      · have h2 : j ≤ 41 := h2
        rw [ex1 j h1 h2, ex2 j h1 h2]
        obtain ⟨k, rfl⟩ : ∃ k, j = k + 1 := ⟨j - 1, by omega⟩
        have z := (had k (by omega)).2
        exact z
      · have h2 : j ≤ 41 := h2
        have h4 : k ≤ 41 := h4
        rw [ex1 j h1 h2, ex1 k h3 h4] at he
        have z1 := (had (j - 1) (by omega)).2
        have z2 := (had (k - 1) (by omega)).2
        have r := z2.2.2.1
        rw [← he] at r
        have := pg_stri (i := j - 1) (j := k - 1) (by omega) (by omega) z1.2.2.1 r z1.2.2.2 z2.2.2.2
        omega
      · show ((if mm_big = mm_big then fm else xs mm_big) = 0 ∧ _) ∨ (¬ (if mm_big = mm_big then fm else xs mm_big) = 0 ∧ _)
        rw [if_pos rfl, ex3]
        exact hfm
