/-! where the program throws and where it catches -/
def pg_nms : List String := ["java/lang/RuntimeException", "java/lang/Exception"]
def pg_hasL : List Nat → List Jvm.Cond → Bool
  | _, [] => true
  | i :: is, w :: ws => (if i = 99999 then decide (w ∈ mm_zw) else pg_has i w) && pg_hasL is ws
  | [], _ :: _ => false
theorem pg_hasL_ok : ∀ {is : List Nat} {ws : List Jvm.Cond}, pg_hasL is ws = true → ∀ w ∈ ws, w ∈ pg_Ts ∨ w ∈ mm_zw := by
  intro is ws
  induction ws generalizing is with
  | nil => intro _ w hw; cases hw
  | cons v ws ih =>
    intro h w hw
    cases is with
    | nil => cases h
    | cons i is =>
      replace h : ((if i = 99999 then decide (v ∈ mm_zw) else pg_has i v) && pg_hasL is ws) = true := h
      rw [Bool.and_eq_true] at h
      rcases List.mem_cons.mp hw with rfl | hw
      · have h1 := h.1
        split at h1
        · exact Or.inr (of_decide_eq_true h1)
        · exact Or.inl (pg_has_in h1)
      · exact ih h.2 w hw
def pg_tok (own : String) (x ic : Nat) (X : String) (wx w6 wi : Nat) (is : List Nat) : Bool :=
  pg_has wx (.classLink own x X) && pg_has w6 (.instantiable X 6) && pg_has wi (.initialized X) && Bundle.fit X && pg_nms.all Bundle.fit && pg_hasL is (Bundle.ownAtoms0 own ic X pg_nms)
def pg_td (cc : ByteArray) (pc x ic : Nat) : Bool := decide (decode cc pc = .ok (.new x, 3)) && decide (decode cc (pc + 3) = .ok (.dup, 1)) && decide (decode cc (pc + 4) = .ok (.invokespecial ic, 3)) && decide (decode cc (pc + 7) = .ok (.athrow, 1))
theorem pg_th1 {cl : List vw_C} {cc : ByteArray} {own : String} {pc ec x ic wx w6 wi : Nat} {is : List Nat} {r : vw_C} (hr : cl[ec]? = some r) (h0 : r.2.2 = 0) (hd : pg_td cc pc x ic = true) (ht : pg_tok own x ic r.1 wx w6 wi is = true) :
    ∃ (x ic : Nat) (r : vw_C) (names : List String), (decode cc pc = .ok (.new x, 3) ∧ decode cc (pc + 3) = .ok (.dup, 1) ∧ decode cc (pc + 4) = .ok (.invokespecial ic, 3) ∧ decode cc (pc + 7) = .ok (.athrow, 1)) ∧
    (cl[ec]? = some r ∧ r.2.2 = 0) ∧ (Jvm.Cond.classLink own x r.1 ∈ pg_Ts ∧ Jvm.Cond.instantiable r.1 6 ∈ pg_Ts ∧ Jvm.Cond.initialized r.1 ∈ pg_Ts) ∧ (Bundle.fit r.1 = true ∧ (∀ n ∈ names, Bundle.fit n = true) ∧ names.length ≤ 3) ∧
    ∀ w ∈ Bundle.ownAtoms0 own ic r.1 names, w ∈ pg_Ts ∨ w ∈ mm_zw := by
  unfold pg_td at hd
  unfold pg_tok at ht
  simp only [Bool.and_eq_true, decide_eq_true_eq] at hd ht
  obtain ⟨⟨⟨d1, d2⟩, d3⟩, d4⟩ := hd
  obtain ⟨⟨⟨⟨⟨t1, t2⟩, t3⟩, t4⟩, t5⟩, t6⟩ := ht
  exact ⟨x, ic, r, pg_nms, ⟨d1, d2, d3, d4⟩, ⟨hr, h0⟩, ⟨pg_has_in t1, pg_has_in t2, pg_has_in t3⟩, ⟨t4, fun n hn => List.all_eq_true.mp t5 n hn, by decide⟩, pg_hasL_ok t6⟩
theorem pgt_0 : pg_tok "MarkovDesk" 102 104 "java/lang/IndexOutOfBoundsException" 826 827 195 [192, 848, 857, 863, 866, 868, 849, 850, 213, 214, 851, 856, 864, 880, 838, 881, 840, 882, 842, 852, 99999, 854, 99999, 844, 870, 871, 872, 873, 829, 873, 874, 875, 876, 831, 876, 877, 878, 849, 833, 869, 827, 828, 835, 836, 837, 839, 841, 843, 99999, 99999, 847, 846, 845] = true := by decide +kernel
theorem pgt_1 : pg_tok "MarkovDesk$Reader" 282 284 "java/lang/IllegalArgumentException" 928 929 196 [192, 848, 857, 863, 866, 868, 849, 850, 213, 214, 851, 856, 864, 880, 838, 881, 840, 882, 842, 852, 99999, 854, 99999, 844, 938, 939, 940, 873, 829, 873, 874, 875, 876, 831, 876, 877, 878, 849, 833, 937, 929, 930, 931, 860, 932, 933, 934, 935, 99999, 99999, 847, 846, 936] = true := by decide +kernel
theorem pgt_2 : pg_tok "MarkovDesk" 147 149 "java/lang/IllegalStateException" 1267 1268 202 [192, 848, 857, 863, 866, 868, 849, 850, 213, 214, 851, 856, 864, 880, 838, 881, 840, 882, 842, 852, 99999, 854, 99999, 844, 1277, 1278, 1279, 873, 829, 873, 874, 875, 876, 831, 876, 877, 878, 849, 833, 1276, 1268, 1269, 1270, 861, 1271, 1272, 1273, 1274, 99999, 99999, 847, 846, 1275] = true := by decide +kernel
theorem pgt_3 : pg_tok "MarkovDesk$Space" 120 122 "java/lang/ArithmeticException" 1298 1299 204 [192, 848, 857, 863, 866, 868, 849, 850, 213, 214, 851, 856, 864, 880, 838, 881, 840, 882, 842, 852, 99999, 854, 99999, 844, 1308, 1309, 1310, 873, 829, 873, 874, 875, 876, 831, 876, 877, 878, 849, 833, 1307, 1299, 1300, 1301, 859, 1302, 1303, 1304, 1305, 99999, 99999, 847, 846, 1306] = true := by decide +kernel
theorem pgt_4 : pg_tok "MarkovDesk$Space" 152 154 "java/lang/UnsupportedOperationException" 1325 1326 205 [192, 848, 857, 863, 866, 868, 849, 850, 213, 214, 851, 856, 864, 880, 838, 881, 840, 882, 842, 852, 99999, 854, 99999, 844, 1335, 1336, 1337, 873, 829, 873, 874, 875, 876, 831, 876, 877, 878, 849, 833, 1334, 1326, 1327, 1328, 862, 1329, 1330, 1331, 1332, 99999, 99999, 847, 846, 1333] = true := by decide +kernel
theorem pgt_5 : pg_tok "MarkovDesk" 156 158 "java/lang/IllegalArgumentException" 1369 929 196 [192, 848, 857, 863, 866, 868, 849, 850, 213, 214, 851, 856, 864, 880, 838, 881, 840, 882, 842, 852, 99999, 854, 99999, 844, 938, 939, 940, 873, 829, 873, 874, 875, 876, 831, 876, 877, 878, 849, 833, 1370, 929, 930, 931, 860, 932, 933, 934, 935, 99999, 99999, 847, 846, 936] = true := by decide +kernel
theorem pgt_6 : pg_tok "MarkovDesk" 254 256 "java/lang/UnsupportedOperationException" 1633 1326 205 [192, 848, 857, 863, 866, 868, 849, 850, 213, 214, 851, 856, 864, 880, 838, 881, 840, 882, 842, 852, 99999, 854, 99999, 844, 1335, 1336, 1337, 873, 829, 873, 874, 875, 876, 831, 876, 877, 878, 849, 833, 1634, 1326, 1327, 1328, 862, 1329, 1330, 1331, 1332, 99999, 99999, 847, 846, 1333] = true := by decide +kernel
theorem pg_th : ∀ f, mm_thOK pg_Ts pg_cl pg_G pg_cc pg_own f := by
  intro f pc ec h
  replace h : (pg_thr f).lookup pc = some ec := h
  unfold pg_thr at h
  split at h
  · have hm := pg_look h
    simp only [List.mem_cons, Prod.mk.injEq, List.not_mem_nil, or_false] at hm
    obtain ⟨rfl, rfl⟩ := hm
    · exact pg_th1 (r := ("java/lang/IndexOutOfBoundsException", pgF_17, 0)) rfl rfl (by decide +kernel) pgt_0
  · have hm := pg_look h
    simp only [List.mem_cons, Prod.mk.injEq, List.not_mem_nil, or_false] at hm
    obtain ⟨rfl, rfl⟩ := hm
    · exact pg_th1 (r := ("java/lang/IndexOutOfBoundsException", pgF_17, 0)) rfl rfl (by decide +kernel) pgt_0
  · have hm := pg_look h
    simp only [List.mem_cons, Prod.mk.injEq, List.not_mem_nil, or_false] at hm
    obtain ⟨rfl, rfl⟩ := hm
    · exact pg_th1 (r := ("java/lang/IllegalArgumentException", pgF_15, 0)) rfl rfl (by decide +kernel) pgt_1
  · have hm := pg_look h
    simp only [List.mem_cons, Prod.mk.injEq, List.not_mem_nil, or_false] at hm
    obtain ⟨rfl, rfl⟩ := hm
    · exact pg_th1 (r := ("java/lang/IllegalStateException", pgF_16, 0)) rfl rfl (by decide +kernel) pgt_2
  · have hm := pg_look h
    simp only [List.mem_cons, Prod.mk.injEq, List.not_mem_nil, or_false] at hm
    obtain ⟨rfl, rfl⟩ := hm
    · exact pg_th1 (r := ("java/lang/ArithmeticException", pgF_14, 0)) rfl rfl (by decide +kernel) pgt_3
  · have hm := pg_look h
    simp only [List.mem_cons, Prod.mk.injEq, List.not_mem_nil, or_false] at hm
    obtain ⟨rfl, rfl⟩ := hm
    · exact pg_th1 (r := ("java/lang/UnsupportedOperationException", pgF_18, 0)) rfl rfl (by decide +kernel) pgt_4
  · have hm := pg_look h
    simp only [List.mem_cons, Prod.mk.injEq, List.not_mem_nil, or_false] at hm
    obtain ⟨rfl, rfl⟩ := hm
    · exact pg_th1 (r := ("java/lang/ArithmeticException", pgF_14, 0)) rfl rfl (by decide +kernel) pgt_3
  · have hm := pg_look h
    simp only [List.mem_cons, Prod.mk.injEq, List.not_mem_nil, or_false] at hm
    obtain ⟨rfl, rfl⟩ := hm
    · exact pg_th1 (r := ("java/lang/UnsupportedOperationException", pgF_18, 0)) rfl rfl (by decide +kernel) pgt_4
  · have hm := pg_look h
    simp only [List.mem_cons, Prod.mk.injEq, List.not_mem_nil, or_false] at hm
    rcases hm with ⟨rfl, rfl⟩ | ⟨rfl, rfl⟩ | ⟨rfl, rfl⟩ | ⟨rfl, rfl⟩
    · exact pg_th1 (r := ("java/lang/IllegalArgumentException", pgF_15, 0)) rfl rfl (by decide +kernel) pgt_5
    · exact pg_th1 (r := ("java/lang/IllegalStateException", pgF_16, 0)) rfl rfl (by decide +kernel) pgt_2
    · exact pg_th1 (r := ("java/lang/IndexOutOfBoundsException", pgF_17, 0)) rfl rfl (by decide +kernel) pgt_0
    · exact pg_th1 (r := ("java/lang/IndexOutOfBoundsException", pgF_17, 0)) rfl rfl (by decide +kernel) pgt_0
  · have hm := pg_look h
    simp only [List.mem_cons, Prod.mk.injEq, List.not_mem_nil, or_false] at hm
    obtain ⟨rfl, rfl⟩ := hm
    · exact pg_th1 (r := ("java/lang/IndexOutOfBoundsException", pgF_17, 0)) rfl rfl (by decide +kernel) pgt_0
  · have hm := pg_look h
    simp only [List.mem_cons, Prod.mk.injEq, List.not_mem_nil, or_false] at hm
    obtain ⟨rfl, rfl⟩ := hm
    · exact pg_th1 (r := ("java/lang/IllegalStateException", pgF_16, 0)) rfl rfl (by decide +kernel) pgt_2
  · have hm := pg_look h
    simp only [List.mem_cons, Prod.mk.injEq, List.not_mem_nil, or_false] at hm
    obtain ⟨rfl, rfl⟩ := hm
    · exact pg_th1 (r := ("java/lang/IllegalStateException", pgF_16, 0)) rfl rfl (by decide +kernel) pgt_2
  · have hm := pg_look h
    simp only [List.mem_cons, Prod.mk.injEq, List.not_mem_nil, or_false] at hm
    obtain ⟨rfl, rfl⟩ := hm
    · exact pg_th1 (r := ("java/lang/IndexOutOfBoundsException", pgF_17, 0)) rfl rfl (by decide +kernel) pgt_0
  · have hm := pg_look h
    simp only [List.mem_cons, Prod.mk.injEq, List.not_mem_nil, or_false] at hm
    obtain ⟨rfl, rfl⟩ := hm
    · exact pg_th1 (r := ("java/lang/IllegalArgumentException", pgF_15, 0)) rfl rfl (by decide +kernel) pgt_5
  · have hm := pg_look h
    simp only [List.mem_cons, Prod.mk.injEq, List.not_mem_nil, or_false] at hm
    obtain ⟨rfl, rfl⟩ := hm
    · exact pg_th1 (r := ("java/lang/IllegalArgumentException", pgF_15, 0)) rfl rfl (by decide +kernel) pgt_5
  · have hm := pg_look h
    simp only [List.mem_cons, Prod.mk.injEq, List.not_mem_nil, or_false] at hm
    obtain ⟨rfl, rfl⟩ := hm
    · exact pg_th1 (r := ("java/lang/UnsupportedOperationException", pgF_18, 0)) rfl rfl (by decide +kernel) pgt_6
  · have hm := pg_look h
    simp only [List.mem_cons, Prod.mk.injEq, List.not_mem_nil, or_false] at hm
    obtain ⟨rfl, rfl⟩ := hm
    · exact pg_th1 (r := ("java/lang/IndexOutOfBoundsException", pgF_17, 0)) rfl rfl (by decide +kernel) pgt_0
  · have hm := pg_look h
    simp only [List.mem_cons, Prod.mk.injEq, List.not_mem_nil, or_false] at hm
    obtain ⟨rfl, rfl⟩ := hm
    · exact pg_th1 (r := ("java/lang/IllegalArgumentException", pgF_15, 0)) rfl rfl (by decide +kernel) pgt_5
  · cases h
def pg_ncs : List (String × String) := [("java/lang/ArithmeticException", "java/lang/IndexOutOfBoundsException"), ("java/lang/ArithmeticException", "java/lang/IllegalArgumentException"), ("java/lang/ArithmeticException", "java/lang/IllegalStateException"), ("java/lang/ArithmeticException", "java/lang/UnsupportedOperationException"), ("java/lang/IndexOutOfBoundsException", "java/lang/ArithmeticException"), ("java/lang/IndexOutOfBoundsException", "java/lang/IllegalArgumentException"), ("java/lang/IndexOutOfBoundsException", "java/lang/IllegalStateException"), ("java/lang/IndexOutOfBoundsException", "java/lang/UnsupportedOperationException"), ("java/lang/IllegalArgumentException", "java/lang/ArithmeticException"), ("java/lang/IllegalArgumentException", "java/lang/IndexOutOfBoundsException"), ("java/lang/IllegalArgumentException", "java/lang/IllegalStateException"), ("java/lang/IllegalArgumentException", "java/lang/UnsupportedOperationException"), ("java/lang/IllegalStateException", "java/lang/ArithmeticException"), ("java/lang/IllegalStateException", "java/lang/IndexOutOfBoundsException"), ("java/lang/IllegalStateException", "java/lang/IllegalArgumentException"), ("java/lang/IllegalStateException", "java/lang/UnsupportedOperationException"), ("java/lang/UnsupportedOperationException", "java/lang/ArithmeticException"), ("java/lang/UnsupportedOperationException", "java/lang/IndexOutOfBoundsException"), ("java/lang/UnsupportedOperationException", "java/lang/IllegalArgumentException"), ("java/lang/UnsupportedOperationException", "java/lang/IllegalStateException")]
def pg_nc (x y : String) : Prop := (x, y) ∈ pg_ncs
def pg_hrow (own X : String) (pc h : Nat) (pre : List ((Nat × Nat × Nat × Nat) × String × Nat)) (y : Nat × Nat × Nat × Nat) (nm : String) (wl wc : Nat) : Bool :=
  mk_cov y pc && decide (y.2.2.1 = h) && decide (y.2.2.2 ≠ 0) && pg_has wl (.classLink own y.2.2.2 nm) && pg_has wc (.castable X nm) && pre.all (fun z => decide (z.1.2.2.2 ≠ 0) && pg_has z.2.2 (.classLink own z.1.2.2.2 z.2.1) && decide ((X, z.2.1) ∈ pg_ncs))
theorem pg_ct1 {cl : List vw_C} {own nm : String} {hh post : List (Nat × Nat × Nat × Nat)} {pc ec h wl wc : Nat} {y : Nat × Nat × Nat × Nat} {r : vw_C} (pre : List ((Nat × Nat × Nat × Nat) × String × Nat)) (he : hh = pre.map Prod.fst ++ y :: post) (hr : cl[ec]? = some r) (hd : pg_hrow own r.1 pc h pre y nm wl wc = true) :
    ∃ (pre : List (Nat × Nat × Nat × Nat)) (y : Nat × Nat × Nat × Nat) (post : List (Nat × Nat × Nat × Nat)) (r : vw_C), hh = pre ++ y :: post ∧ cl[ec]? = some r ∧ (mk_cov y pc = true ∧ y.2.2.1 = h ∧ y.2.2.2 ≠ 0 ∧ ∃ nm, Jvm.Cond.classLink own y.2.2.2 nm ∈ pg_Ts ∧ Jvm.Cond.castable r.1 nm ∈ pg_Ts) ∧
    ∀ z ∈ pre, mk_cov z pc = false ∨ (z.2.2.2 ≠ 0 ∧ ∃ nm, Jvm.Cond.classLink own z.2.2.2 nm ∈ pg_Ts ∧ pg_nc r.1 nm) := by
  unfold pg_hrow at hd
  simp only [Bool.and_eq_true, decide_eq_true_eq] at hd
  obtain ⟨⟨⟨⟨⟨d1, d2⟩, d3⟩, d4⟩, d5⟩, d6⟩ := hd
  refine ⟨pre.map Prod.fst, y, post, r, he, hr, ⟨d1, d2, d3, nm, pg_has_in d4, pg_has_in d5⟩, fun z hz => Or.inr ?_⟩
  obtain ⟨zz, hzz, rfl⟩ := List.mem_map.mp hz
  have := List.all_eq_true.mp d6 zz hzz
  simp only [Bool.and_eq_true, decide_eq_true_eq] at this
  exact ⟨this.1.1, zz.2.1, pg_has_in this.1.2, this.2⟩
theorem pg_look2 {α : Type} {x : Nat × Nat} {b : α} : ∀ {l : List ((Nat × Nat) × α)}, l.lookup x = some b → (x, b) ∈ l := by
  intro l
  induction l with
  | nil => intro h; cases h
  | cons q l ih =>
    intro h
    obtain ⟨y, c⟩ := q
    rw [List.lookup_cons] at h
    by_cases he : x = y
    · subst he
      simp at h
      subst h
      exact List.mem_cons_self
    · have : (x == y) = false := by simpa using he
      rw [this] at h
      exact List.mem_cons_of_mem _ (ih h)
theorem pg_ct : ∀ f, mm_ctOK pg_Ts pg_cl pg_nc pg_G pg_hh pg_own f := by
  intro f
  refine ⟨fun pc ec h => ?_, fun pc ec h hq => ?_⟩
  · replace h : pg_hnd f pc ec = some none := h
    unfold pg_hnd at h
    split at h
    · rename_i he
      rw [he]
      intro y hy
      cases hy
    · cases hq : (pg_hn f).lookup (pc, ec) with
      | none => rw [hq] at h; cases h
      | some v => rw [hq] at h; cases h
  · replace hq : pg_hnd f pc ec = some (some h) := hq
    unfold pg_hnd at hq
    split at hq
    · cases hq
    · have hl : (pg_hn f).lookup (pc, ec) = some h := by
        cases hl : (pg_hn f).lookup (pc, ec) with
        | none => rw [hl] at hq; cases hq
        | some v => rw [hl] at hq; cases hq; rfl
      unfold pg_hn at hl
      split at hl
      · have hm := pg_look2 hl
        simp only [List.mem_cons, Prod.mk.injEq, List.not_mem_nil, or_false] at hm
        obtain ⟨⟨rfl, rfl⟩, rfl⟩ := hm
        · exact pg_ct1 (r := ("java/lang/IndexOutOfBoundsException", pgF_17, 0)) (y := (0, 16, 19, 13)) (post := []) (nm := "java/lang/IndexOutOfBoundsException") (wl := 821) (wc := 828) [] rfl rfl (by decide +kernel)
      · have hm := pg_look2 hl
        simp only [List.mem_cons, Prod.mk.injEq, List.not_mem_nil, or_false] at hm
        rcases hm with ⟨⟨rfl, rfl⟩, rfl⟩ | ⟨⟨rfl, rfl⟩, rfl⟩
        · exact pg_ct1 (r := ("java/lang/IllegalArgumentException", pgF_15, 0)) (y := (0, 9, 15, 19)) (post := []) (nm := "java/lang/IllegalArgumentException") (wl := 898) (wc := 930) [((0, 9, 12, 13), "java/lang/IndexOutOfBoundsException", 821)] rfl rfl (by decide +kernel)
        · exact pg_ct1 (r := ("java/lang/IndexOutOfBoundsException", pgF_17, 0)) (y := (0, 9, 12, 13)) (post := [(0, 9, 15, 19)]) (nm := "java/lang/IndexOutOfBoundsException") (wl := 821) (wc := 828) [] rfl rfl (by decide +kernel)
      · have hm := pg_look2 hl
        simp only [List.mem_cons, Prod.mk.injEq, List.not_mem_nil, or_false] at hm
        rcases hm with ⟨⟨rfl, rfl⟩, rfl⟩ | ⟨⟨rfl, rfl⟩, rfl⟩ | ⟨⟨rfl, rfl⟩, rfl⟩
        · exact pg_ct1 (r := ("java/lang/ArithmeticException", pgF_14, 0)) (y := (0, 8, 14, 27)) (post := [(0, 8, 17, 29)]) (nm := "java/lang/ArithmeticException") (wl := 1261) (wc := 1300) [((0, 8, 11, 25), "java/lang/IllegalStateException", 1260)] rfl rfl (by decide +kernel)
        · exact pg_ct1 (r := ("java/lang/IllegalStateException", pgF_16, 0)) (y := (0, 8, 11, 25)) (post := [(0, 8, 14, 27), (0, 8, 17, 29)]) (nm := "java/lang/IllegalStateException") (wl := 1260) (wc := 1269) [] rfl rfl (by decide +kernel)
        · exact pg_ct1 (r := ("java/lang/UnsupportedOperationException", pgF_18, 0)) (y := (0, 8, 17, 29)) (post := []) (nm := "java/lang/UnsupportedOperationException") (wl := 1262) (wc := 1327) [((0, 8, 11, 25), "java/lang/IllegalStateException", 1260), ((0, 8, 14, 27), "java/lang/ArithmeticException", 1261)] rfl rfl (by decide +kernel)
      · have hm := pg_look2 hl
        simp only [List.mem_cons, Prod.mk.injEq, List.not_mem_nil, or_false] at hm
        rcases hm with ⟨⟨rfl, rfl⟩, rfl⟩ | ⟨⟨rfl, rfl⟩, rfl⟩ | ⟨⟨rfl, rfl⟩, rfl⟩
        · exact pg_ct1 (r := ("java/lang/IllegalArgumentException", pgF_15, 0)) (y := (0, 12, 15, 19)) (post := [(0, 12, 19, 25), (0, 12, 23, 13)]) (nm := "java/lang/IllegalArgumentException") (wl := 898) (wc := 930) [] rfl rfl (by decide +kernel)
        · exact pg_ct1 (r := ("java/lang/IllegalStateException", pgF_16, 0)) (y := (0, 12, 19, 25)) (post := [(0, 12, 23, 13)]) (nm := "java/lang/IllegalStateException") (wl := 1260) (wc := 1269) [((0, 12, 15, 19), "java/lang/IllegalArgumentException", 898)] rfl rfl (by decide +kernel)
        · exact pg_ct1 (r := ("java/lang/IndexOutOfBoundsException", pgF_17, 0)) (y := (0, 12, 23, 13)) (post := []) (nm := "java/lang/IndexOutOfBoundsException") (wl := 821) (wc := 828) [((0, 12, 15, 19), "java/lang/IllegalArgumentException", 898), ((0, 12, 19, 25), "java/lang/IllegalStateException", 1260)] rfl rfl (by decide +kernel)
      · have hm := pg_look2 hl
        simp only [List.mem_cons, Prod.mk.injEq, List.not_mem_nil, or_false] at hm
        rcases hm with ⟨⟨rfl, rfl⟩, rfl⟩ | ⟨⟨rfl, rfl⟩, rfl⟩
        · exact pg_ct1 (r := ("java/lang/IllegalStateException", pgF_16, 0)) (y := (0, 12, 15, 25)) (post := [(0, 12, 19, 13)]) (nm := "java/lang/IllegalStateException") (wl := 1260) (wc := 1269) [] rfl rfl (by decide +kernel)
        · exact pg_ct1 (r := ("java/lang/IndexOutOfBoundsException", pgF_17, 0)) (y := (0, 12, 19, 13)) (post := []) (nm := "java/lang/IndexOutOfBoundsException") (wl := 821) (wc := 828) [((0, 12, 15, 25), "java/lang/IllegalStateException", 1260)] rfl rfl (by decide +kernel)
      · have hm := pg_look2 hl
        simp only [List.mem_cons, Prod.mk.injEq, List.not_mem_nil, or_false] at hm
        obtain ⟨⟨rfl, rfl⟩, rfl⟩ := hm
        · exact pg_ct1 (r := ("java/lang/IllegalStateException", pgF_16, 0)) (y := (0, 9, 12, 25)) (post := []) (nm := "java/lang/IllegalStateException") (wl := 1260) (wc := 1269) [] rfl rfl (by decide +kernel)
      · have hm := pg_look2 hl
        simp only [List.mem_cons, Prod.mk.injEq, List.not_mem_nil, or_false] at hm
        rcases hm with ⟨⟨rfl, rfl⟩, rfl⟩ | ⟨⟨rfl, rfl⟩, rfl⟩
        · exact pg_ct1 (r := ("java/lang/IllegalStateException", pgF_16, 0)) (y := (0, 17, 20, 25)) (post := [(0, 17, 24, 13)]) (nm := "java/lang/IllegalStateException") (wl := 1260) (wc := 1269) [] rfl rfl (by decide +kernel)
        · exact pg_ct1 (r := ("java/lang/IndexOutOfBoundsException", pgF_17, 0)) (y := (0, 17, 24, 13)) (post := []) (nm := "java/lang/IndexOutOfBoundsException") (wl := 821) (wc := 828) [((0, 17, 20, 25), "java/lang/IllegalStateException", 1260)] rfl rfl (by decide +kernel)
      · have hm := pg_look2 hl
        simp only [List.mem_cons, Prod.mk.injEq, List.not_mem_nil, or_false] at hm
        rcases hm with ⟨⟨rfl, rfl⟩, rfl⟩ | ⟨⟨rfl, rfl⟩, rfl⟩ | ⟨⟨rfl, rfl⟩, rfl⟩
        · exact pg_ct1 (r := ("java/lang/IllegalArgumentException", pgF_15, 0)) (y := (0, 19, 22, 19)) (post := [(0, 19, 26, 25), (0, 19, 30, 13)]) (nm := "java/lang/IllegalArgumentException") (wl := 898) (wc := 930) [] rfl rfl (by decide +kernel)
        · exact pg_ct1 (r := ("java/lang/IllegalStateException", pgF_16, 0)) (y := (0, 19, 26, 25)) (post := [(0, 19, 30, 13)]) (nm := "java/lang/IllegalStateException") (wl := 1260) (wc := 1269) [((0, 19, 22, 19), "java/lang/IllegalArgumentException", 898)] rfl rfl (by decide +kernel)
        · exact pg_ct1 (r := ("java/lang/IndexOutOfBoundsException", pgF_17, 0)) (y := (0, 19, 30, 13)) (post := []) (nm := "java/lang/IndexOutOfBoundsException") (wl := 821) (wc := 828) [((0, 19, 22, 19), "java/lang/IllegalArgumentException", 898), ((0, 19, 26, 25), "java/lang/IllegalStateException", 1260)] rfl rfl (by decide +kernel)
      · have hm := pg_look2 hl
        simp only [List.mem_cons, Prod.mk.injEq, List.not_mem_nil, or_false] at hm
        rcases hm with ⟨⟨rfl, rfl⟩, rfl⟩ | ⟨⟨rfl, rfl⟩, rfl⟩ | ⟨⟨rfl, rfl⟩, rfl⟩
        · exact pg_ct1 (r := ("java/lang/IllegalArgumentException", pgF_15, 0)) (y := (0, 8, 11, 19)) (post := [(0, 8, 15, 25), (0, 8, 19, 13)]) (nm := "java/lang/IllegalArgumentException") (wl := 898) (wc := 930) [] rfl rfl (by decide +kernel)
        · exact pg_ct1 (r := ("java/lang/IllegalStateException", pgF_16, 0)) (y := (0, 8, 15, 25)) (post := [(0, 8, 19, 13)]) (nm := "java/lang/IllegalStateException") (wl := 1260) (wc := 1269) [((0, 8, 11, 19), "java/lang/IllegalArgumentException", 898)] rfl rfl (by decide +kernel)
        · exact pg_ct1 (r := ("java/lang/IndexOutOfBoundsException", pgF_17, 0)) (y := (0, 8, 19, 13)) (post := []) (nm := "java/lang/IndexOutOfBoundsException") (wl := 821) (wc := 828) [((0, 8, 11, 19), "java/lang/IllegalArgumentException", 898), ((0, 8, 15, 25), "java/lang/IllegalStateException", 1260)] rfl rfl (by decide +kernel)
      · have hm := pg_look2 hl
        simp only [List.mem_cons, Prod.mk.injEq, List.not_mem_nil, or_false] at hm
        rcases hm with ⟨⟨rfl, rfl⟩, rfl⟩ | ⟨⟨rfl, rfl⟩, rfl⟩ | ⟨⟨rfl, rfl⟩, rfl⟩
        · exact pg_ct1 (r := ("java/lang/IllegalStateException", pgF_16, 0)) (y := (0, 5, 8, 25)) (post := [(0, 5, 11, 13), (0, 5, 14, 29)]) (nm := "java/lang/IllegalStateException") (wl := 1260) (wc := 1269) [] rfl rfl (by decide +kernel)
        · exact pg_ct1 (r := ("java/lang/IndexOutOfBoundsException", pgF_17, 0)) (y := (0, 5, 11, 13)) (post := [(0, 5, 14, 29)]) (nm := "java/lang/IndexOutOfBoundsException") (wl := 821) (wc := 828) [((0, 5, 8, 25), "java/lang/IllegalStateException", 1260)] rfl rfl (by decide +kernel)
        · exact pg_ct1 (r := ("java/lang/UnsupportedOperationException", pgF_18, 0)) (y := (0, 5, 14, 29)) (post := []) (nm := "java/lang/UnsupportedOperationException") (wl := 1262) (wc := 1327) [((0, 5, 8, 25), "java/lang/IllegalStateException", 1260), ((0, 5, 11, 13), "java/lang/IndexOutOfBoundsException", 821)] rfl rfl (by decide +kernel)
      · have hm := pg_look2 hl
        simp only [List.mem_cons, Prod.mk.injEq, List.not_mem_nil, or_false] at hm
        obtain ⟨⟨rfl, rfl⟩, rfl⟩ := hm
        · exact pg_ct1 (r := ("java/lang/IllegalStateException", pgF_16, 0)) (y := (0, 16, 19, 25)) (post := []) (nm := "java/lang/IllegalStateException") (wl := 1260) (wc := 1269) [] rfl rfl (by decide +kernel)
      · have hm := pg_look2 hl
        simp only [List.mem_cons, Prod.mk.injEq, List.not_mem_nil, or_false] at hm
        obtain ⟨⟨rfl, rfl⟩, rfl⟩ := hm
        · exact pg_ct1 (r := ("java/lang/IndexOutOfBoundsException", pgF_17, 0)) (y := (0, 10, 13, 13)) (post := []) (nm := "java/lang/IndexOutOfBoundsException") (wl := 821) (wc := 828) [] rfl rfl (by decide +kernel)
      · have hm := pg_look2 hl
        simp only [List.mem_cons, Prod.mk.injEq, List.not_mem_nil, or_false] at hm
        obtain ⟨⟨rfl, rfl⟩, rfl⟩ := hm
        · exact pg_ct1 (r := ("java/lang/IllegalArgumentException", pgF_15, 0)) (y := (0, 9, 12, 19)) (post := []) (nm := "java/lang/IllegalArgumentException") (wl := 898) (wc := 930) [] rfl rfl (by decide +kernel)
      · cases hl
