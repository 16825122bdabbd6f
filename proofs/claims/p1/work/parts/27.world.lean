/-! the world at the law's entry -/
def pg_gv : List Jvm.Cond := flatC (Jvm.Cond.and given_1 narrow_1)
def pg_ghas (i : Nat) (w : Jvm.Cond) : Bool := decide (pg_gv[i]? = some w)
theorem pg_ghas_in {i : Nat} {w : Jvm.Cond} (h : pg_ghas i w = true) : w ∈ pg_gv := List.mem_of_getElem? (of_decide_eq_true h)
def pg_thas (i : Nat) (w : Jvm.Cond) : Bool := decide (lw_tbl[i]? = some w)
theorem pg_thas_in {i : Nat} {w : Jvm.Cond} (h : pg_thas i w = true) : w ∈ lw_tbl := List.mem_of_getElem? (of_decide_eq_true h)
/-- a String constant: class, index, number, text, the places of its words -/
abbrev pg_Q : Type := String × Nat × Nat × String × Nat × Nat
def pg_st : List pg_Q := [("MarkovDesk$Tokens", 74, 1, "mdp const int bool module endmodule init target true false min max mod ", 976, 121), ("MarkovDesk$Tokens", 95, 2, "->..=>!=<=>=", 1045, 196), ("MarkovDesk$Tokens", 97, 3, "=<>+-*/!&|?:;,'()[]", 1046, 212), ("MarkovDeskModel", 9, 4, "mdp", 1671, 235), ("MarkovDeskModel", 11, 5, "const", 1672, 242), ("MarkovDeskModel", 13, 6, "int", 1673, 251), ("MarkovDeskModel", 15, 7, "bool", 1674, 258), ("MarkovDeskModel", 17, 8, "module", 1675, 266), ("MarkovDeskModel", 19, 9, "endmodule", 1676, 276), ("MarkovDeskModel", 21, 10, "init", 1677, 289), ("MarkovDeskModel", 23, 11, "target", 1678, 297), ("MarkovDeskModel", 25, 12, "true", 1679, 307), ("MarkovDeskModel", 27, 13, "false", 1680, 315), ("MarkovDeskModel", 29, 14, "min", 1681, 324), ("MarkovDeskModel", 31, 15, "max", 1682, 331), ("MarkovDeskModel", 33, 16, "mod", 1683, 338), ("MarkovDeskModel", 41, 17, "->", 1684, 345), ("MarkovDeskModel", 43, 18, "..", 1685, 351), ("MarkovDeskModel", 45, 19, "=>", 1686, 357), ("MarkovDeskModel", 47, 20, "!=", 1687, 363), ("MarkovDeskModel", 49, 21, "<=", 1688, 369), ("MarkovDeskModel", 51, 22, ">=", 1689, 375), ("MarkovDeskModel", 53, 23, "=", 1690, 381), ("MarkovDeskModel", 55, 24, "<", 1691, 386), ("MarkovDeskModel", 57, 25, ">", 1692, 391), ("MarkovDeskModel", 59, 26, "+", 1693, 396), ("MarkovDeskModel", 61, 27, "-", 1694, 401), ("MarkovDeskModel", 63, 28, "*", 1695, 406), ("MarkovDeskModel", 65, 29, "/", 1696, 411), ("MarkovDeskModel", 67, 30, "!", 1697, 416), ("MarkovDeskModel", 69, 31, "&", 1698, 421), ("MarkovDeskModel", 71, 32, "|", 1699, 426), ("MarkovDeskModel", 73, 33, "?", 1700, 431), ("MarkovDeskModel", 75, 34, ":", 1701, 436), ("MarkovDeskModel", 77, 35, ";", 1702, 441), ("MarkovDeskModel", 79, 36, ",", 1703, 446), ("MarkovDeskModel", 81, 37, "'", 1704, 451), ("MarkovDeskModel", 83, 38, "(", 1705, 456), ("MarkovDeskModel", 85, 39, ")", 1706, 461), ("MarkovDeskModel", 87, 40, "[", 1707, 466), ("MarkovDeskModel", 89, 41, "]", 1708, 471)]
def pg_sr : List (String × Nat × Nat) := pg_st.map (fun q => (q.1, q.2.1, q.2.2.1))
def pg_sok (q : pg_Q) : Bool := pg_thas q.2.2.2.2.1 (.stringRef q.1 q.2.1 q.2.2.2.1) && pg_ghas q.2.2.2.2.2 (.exactly (.string q.1 q.2.1) "java/lang/String")
theorem pg_sts : pg_st.all pg_sok = true := by decide +kernel
theorem pg_sti : pg_st.all (fun q => decide (pg_st[q.2.2.1 - 1]? = some q) && decide (1 ≤ q.2.2.1) && decide (q.2.2.1 ≤ 41)) = true := by decide +kernel
theorem pg_stn : pg_st.length = 41 := by decide +kernel
theorem pg_exs {s : State} {b : Nat} (hts : ∀ w ∈ lw_tbl, w.before #[Value.ref b] s = true) (hgv : ∀ w ∈ pg_gv, w.before #[Value.ref b] s = true) (j : Nat) :
    ∃ a : Nat, (j = 0 → a = b) ∧ (1 ≤ j → j ≤ 41 → va_O "java/lang/String" a (fun q => s.heap.size ≤ q) s s.heap) ∧ ∀ q ∈ pg_st, q.2.2.1 = j → ∃ tx, vk_R q.1 q.2.1 tx a s := by
  have key : ∀ q ∈ pg_st, pg_st[q.2.2.1 - 1]? = some q ∧ 1 ≤ q.2.2.1 ∧ q.2.2.1 ≤ 41 := fun q hq => by
    have := List.all_eq_true.mp pg_sti q hq
    simp only [Bool.and_eq_true, decide_eq_true_eq] at this
    exact ⟨this.1.1, this.1.2, this.2⟩
  by_cases hj : 1 ≤ j ∧ j ≤ 41
  · have hlt : j - 1 < pg_st.length := by rw [pg_stn]; omega
    have hq : pg_st[j - 1]? = some pg_st[j - 1] := List.getElem?_eq_getElem hlt
    generalize pg_st[j - 1] = q at hq
    have hm : q ∈ pg_st := List.mem_of_getElem? hq
    have hs := List.all_eq_true.mp pg_sts q hm
    unfold pg_sok at hs
    rw [Bool.and_eq_true] at hs
    have h1 := hts _ (pg_thas_in hs.1)
    obtain ⟨a, c, cell, k, e1, e2, e3, e4, e5, e6, -⟩ := Cond.exactly_spec (hgv _ (pg_ghas_in hs.2))
    refine ⟨a, fun h => by omega, fun _ _ => ⟨cell, e3, e5, by rw [e6]; exact e2, ?_⟩, fun q' hq' he => ⟨q.2.2.2.1, ?_⟩⟩
    · have : a < s.heap.size := (Array.getElem?_eq_some_iff.mp e3).1
      exact Nat.not_le_of_lt this
    · have := (key q' hq').1
      rw [he, hq] at this
      cases this
      exact vk_R.of h1 e1
  · refine ⟨b, fun _ => rfl, fun h1 h2 => absurd ⟨h1, h2⟩ hj, fun q hq he => ?_⟩
    have := (key q hq).2
    rw [he] at this
    exact absurd this hj
theorem pg_arrP {s : State} {ty : FieldType} (hty : ty = .int ∨ ty = .long ∨ ty = .boolean) {a : Array Value} (h : (Jvm.Cond.arrayClass ty).before a s = true) : ∃ cA : ClassId, ArrOfT s cA ty ∧ va_RA s cA ty := by
  obtain ⟨c, k, comp, h1, h2, h3⟩ := Cond.arrayClass_spec h
  refine ⟨c, fun n z => ⟨fun k hk => (by cases hk), k, h2, comp, h3⟩, ?_⟩
  rcases hty with rfl | rfl | rfl <;> exact h1
theorem pg_arrO {s : State} {C : String} {a : Array Value} (h : (Jvm.Cond.arrayOver (.object C)).before a s = true) : ∃ cA : ClassId, ArrOfT s cA (.object C) ∧ va_RA s cA (.object C) := by
  obtain ⟨comp, c, k, h1, h2, h3, h4, h5⟩ := Cond.arrayOver_spec h
  exact ⟨c, fun n z => ⟨fun k hk => (by cases hk), k, h3, comp, h4⟩, k, comp, h3, h4, h1, h5⟩
def pg_AO : List String := ["MarkovDesk$Nat", "MarkovDeskModel$Whole", "java/lang/String"]
def pg_ik (i : Nat) : Bool := match pg_cl[i]? with
  | some r => pg_has (pg_wc i).2.1 (.instantiable r.1 (if r.2.2 = 0 then 6 else r.2.2))
  | none => true
theorem pg_iks : (List.range 19).all pg_ik = true := by decide +kernel
theorem pg_cll : pg_cl.length = 19 := by decide +kernel
theorem pg_cls {s : State} {a : Array Value} (hts : ∀ w ∈ pg_Ts, w.before a s = true) (c : Nat) : ∃ x : ClassId × (Nat → Nat), ∀ q, pg_cl[c]? = some q → u_Kn s q.1 q.2.1 q.2.2 x.1 x.2 := by
  cases hc : pg_cl[c]? with
  | none => exact ⟨(0, fun _ => 0), fun q hq => by cases hq⟩
  | some r =>
    have hlt : c < 19 := by rw [← pg_cll]; exact (List.getElem?_eq_some_iff.mp hc).1
    have hi := List.all_eq_true.mp pg_iks c (List.mem_range.mpr hlt)
    unfold pg_ik at hi
    rw [hc] at hi
    obtain ⟨cC, iS, h⟩ := u_known hts (pg_clOK c r hc).1 (hts _ (pg_has_in hi))
    exact ⟨(cC, iS), fun q hq => by cases hq; exact h⟩
def pg_ncp : List (Nat × String × String) := [(27, "java/lang/ArithmeticException", "java/lang/IndexOutOfBoundsException"), (45, "java/lang/ArithmeticException", "java/lang/IllegalArgumentException"), (63, "java/lang/ArithmeticException", "java/lang/IllegalStateException"), (100, "java/lang/ArithmeticException", "java/lang/UnsupportedOperationException"), (79, "java/lang/IndexOutOfBoundsException", "java/lang/ArithmeticException"), (43, "java/lang/IndexOutOfBoundsException", "java/lang/IllegalArgumentException"), (61, "java/lang/IndexOutOfBoundsException", "java/lang/IllegalStateException"), (97, "java/lang/IndexOutOfBoundsException", "java/lang/UnsupportedOperationException"), (80, "java/lang/IllegalArgumentException", "java/lang/ArithmeticException"), (25, "java/lang/IllegalArgumentException", "java/lang/IndexOutOfBoundsException"), (62, "java/lang/IllegalArgumentException", "java/lang/IllegalStateException"), (98, "java/lang/IllegalArgumentException", "java/lang/UnsupportedOperationException"), (81, "java/lang/IllegalStateException", "java/lang/ArithmeticException"), (26, "java/lang/IllegalStateException", "java/lang/IndexOutOfBoundsException"), (44, "java/lang/IllegalStateException", "java/lang/IllegalArgumentException"), (99, "java/lang/IllegalStateException", "java/lang/UnsupportedOperationException"), (82, "java/lang/UnsupportedOperationException", "java/lang/ArithmeticException"), (28, "java/lang/UnsupportedOperationException", "java/lang/IndexOutOfBoundsException"), (46, "java/lang/UnsupportedOperationException", "java/lang/IllegalArgumentException"), (64, "java/lang/UnsupportedOperationException", "java/lang/IllegalStateException")]
theorem pg_ncpo : pg_ncp.all (fun q => pg_ghas q.1 (.not (.castable q.2.1 q.2.2))) = true := by decide +kernel
theorem pg_ncs_in : pg_ncs.all (fun p => pg_ncp.any (fun q => decide (q.2 = p))) = true := by decide +kernel
set_option maxHeartbeats 4000000 in
theorem pg_start {s : State} {b L : Nat} {xs : Nat → Int32} (hts : ∀ w ∈ lw_tbl, w.before #[Value.ref b] s = true) (hgv : (Jvm.Cond.and given_1 narrow_1).before #[Value.ref b] s = true) (hX : va_X b L xs s s.heap) :
    ∃ (D : va_G) (tys : List (ClassId × FieldType)) (ex : Nat → Nat), ex 0 = b ∧ (∀ k ty, pg_aT[k]? = some ty → tys[k]? = some (mm_aC tys k, ty)) ∧ pg_E D pg_cl tys s.heap.size ex (L, xs) pg_AO pg_sr 41 pg_nc s := by
  have hg : ∀ w ∈ pg_gv, w.before #[Value.ref b] s = true := flat_of_before _ hgv
  have hT : ∀ w ∈ pg_Ts, w.before #[Value.ref b] s = true := fun w hw => hts w (List.mem_filter.mp hw).1
  obtain ⟨gD, hD⟩ := Classical.axiomOfChoice (pg_cls hT)
  obtain ⟨ex, hex⟩ := Classical.axiomOfChoice (pg_exs hts hg)
  have a0 := hts (.arrayClass .int) (pg_thas_in (i := 240) (by decide +kernel))
  have a1 := hts (.arrayClass .long) (pg_thas_in (i := 389) (by decide +kernel))
  have a2 := hts (.arrayClass .boolean) (pg_thas_in (i := 549) (by decide +kernel))
  have a3 := hts (.arrayOver (.object "MarkovDesk$Nat")) (pg_thas_in (i := 563) (by decide +kernel))
  have a4 := hts (.arrayOver (.object "MarkovDeskModel$Whole")) (pg_thas_in (i := 1724) (by decide +kernel))
  have a5 := hts (.arrayOver (.object "java/lang/String")) (pg_thas_in (i := 1670) (by decide +kernel))
  have z1 := hg _ (pg_ghas_in (i := 4) (w := .isRef (.static Bundle.tN "UNASSIGNED_STACK" Bundle.steD)) (by decide +kernel))
  have z2 := hg _ (pg_ghas_in (i := 5) (w := .isRef (.static Bundle.tN "SUPPRESSED_SENTINEL" Bundle.listD)) (by decide +kernel))
  have z3 := hts _ (pg_thas_in (i := 853) (w := .laysStatic Bundle.tN "UNASSIGNED_STACK" Bundle.steD) (by decide +kernel))
  have z4 := hts _ (pg_thas_in (i := 855) (w := .laysStatic Bundle.tN "SUPPRESSED_SENTINEL" Bundle.listD) (by decide +kernel))
  have z5 := hts _ (pg_thas_in (i := 192) (w := .initialized Bundle.tN) (by decide +kernel))
  obtain ⟨c0, p0⟩ := pg_arrP (Or.inl rfl) a0
  obtain ⟨c1, p1⟩ := pg_arrP (Or.inr (Or.inl rfl)) a1
  obtain ⟨c2, p2⟩ := pg_arrP (Or.inr (Or.inr rfl)) a2
  obtain ⟨c3, p3⟩ := pg_arrO a3
  obtain ⟨c4, p4⟩ := pg_arrO a4
  obtain ⟨c5, p5⟩ := pg_arrO a5
  have hA : ∀ a : Nat, a < s.heap.size → ¬ (fun q => s.heap.size ≤ q) a := fun a h => Nat.not_le_of_lt h
  refine ⟨(fun c => (gD c).1, fun c => (gD c).2), [(c0, .int), (c1, .long), (c2, .boolean), (c3, .object "MarkovDesk$Nat"), (c4, .object "MarkovDeskModel$Whole"), (c5, .object "java/lang/String")], ex, (hex 0).1 rfl, ?_, ?_⟩
  · intro k ty hk
    match k, hk with
    | 0, hk => cases hk; rfl
    | 1, hk => cases hk; rfl
    | 2, hk => cases hk; rfl
    | 3, hk => cases hk; rfl
    | 4, hk => cases hk; rfl
    | 5, hk => cases hk; rfl
    | k + 6, hk => cases hk
  · refine ⟨fun w hw => va_Nw.of (pg_ts_gd hw).1 (hT w hw), ⟨fun c q hq => hD c q hq, ?_⟩, ?_, ?_, ?_, ?_, ⟨fun j h1 h2 => (hex j).2.1 h1 h2, fun cC _ => Vm.assignable_self _ _⟩, ⟨va_Zqof z3 z5 z1 hA, va_Zqof z4 z5 z2 hA, pg_ls.of z3, pg_ls.of z4⟩, ?_⟩
    · intro k q hk
      match k, hk with
      | 0, hk => cases hk; exact p0
      | 1, hk => cases hk; exact p1
      | 2, hk => cases hk; exact p2
      | 3, hk => cases hk; exact p3
      | 4, hk => cases hk; exact p4
      | 5, hk => cases hk; exact p5
      | k + 6, hk => cases hk
    · intro ty ht
      rcases ht with rfl | rfl | rfl
      · exact a0
      · exact a1
      · exact a2
    · intro C hC
      simp only [pg_AO, List.mem_cons, List.not_mem_nil, or_false] at hC
      rcases hC with rfl | rfl | rfl
      · exact va_AO.of a3
      · exact va_AO.of a4
      · exact va_AO.of a5
    · show va_X (ex 0) L xs s s.heap
      rw [(hex 0).1 rfl]
      exact hX
    · intro q hq
      obtain ⟨q, hm, rfl⟩ := List.mem_map.mp hq
      exact (hex _).2.2 q hm rfl
    · intro x y hn
      have h1 := List.all_eq_true.mp pg_ncs_in _ hn
      obtain ⟨q, hq, he⟩ := List.any_eq_true.mp h1
      have he := of_decide_eq_true he
      have h2 := hg _ (pg_ghas_in (List.all_eq_true.mp pg_ncpo q hq))
      rw [he] at h2
      exact va_Nc.of h2
