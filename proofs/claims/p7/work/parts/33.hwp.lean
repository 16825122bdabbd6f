/-! the abstract machine's instructions without cells are the small machine's -/
def hw_v (T : hw_T) (v : hw_V) (u : Value) : Prop := match v with
  | .inl x => ∃ i : Int32, u = .int i ∧ i.toInt = x
  | .inr (.inl x) => ∃ i : Int64, u = .long i ∧ i.toInt = x
  | .inr (.inr k) => ∃ a, u = .ref a ∧ ((T.2.2.1 a ∧ T.2.1 a = k ∧ k.1 < 1000000) ∨ (k.1 = 1000000 ∧ ∃ j : Nat, k.2 = j ∧ a = mm_big + j) ∨ (k.1 = 1000001 ∧ ∃ j : Nat, k.2 = j ∧ a = mm_big + 1000 + j))
def hw_st (T : hw_T) : List hw_V → List Value → Prop
  | [], us => us = []
  | v :: r, us => ∃ u us', us = u :: us' ∧ hw_v T v u ∧ hw_st T r us'
def hw_ls (T : hw_T) (L : hw_L) (M : mm_L) : Prop := M.length = L.length ∧ ∀ i v, hw_ld L i = some v → ∃ u, mm_ld M i = some u ∧ hw_v T v u
theorem hw_v_cat {T : hw_T} {v : hw_V} {u : Value} (h : hw_v T v u) : u.category = hw_cat v := by
  rcases v with x | x | k
  · obtain ⟨i, rfl, -⟩ := h; rfl
  · obtain ⟨i, rfl, -⟩ := h; rfl
  · obtain ⟨a, rfl, -⟩ := h; rfl
theorem hw_nl_eq {α : Type} (l : List α) : ∀ g : List α → Prop, hw_nl l g = g l := by
  induction l with
  | nil => intro g; rfl
  | cons a r ih => intro g; exact ih (fun r => g (a :: r))
theorem hw_nl_of {α : Type} {l : List α} {g : List α → Prop} (h : hw_nl l g) : g l := by rw [hw_nl_eq] at h; exact h
theorem hw_bif {b : Bool} {P : Prop} (h : bif b then P else False) : b = true ∧ P := by
  cases b with
  | true => exact ⟨rfl, h⟩
  | false => exact h.elim
theorem hw_ib_of {lo hi n : Int} {k : Prop} (h : hw_ib lo hi n k) : lo ≤ n ∧ n ≤ hi ∧ k := by
  obtain ⟨h1, h2⟩ := hw_bif h
  rw [Bool.and_eq_true, decide_eq_true_eq, decide_eq_true_eq] at h1
  exact ⟨h1.1, h1.2, h2⟩
theorem hw_set_ld {L : List (Option hw_V)} {i j : Nat} {v : Option hw_V} : hw_ld (L.set i v) j = if i = j ∧ j < L.length then v else hw_ld L j := by
  unfold hw_ld
  rw [List.getElem?_set]
  by_cases h : i = j
  · subst h
    by_cases hl : i < L.length
    · simp [hl]
    · simp [hl, List.getElem?_eq_none (Nat.le_of_not_lt hl)]
  · simp [h]
theorem mm_set_ld {L : mm_L} {i j : Nat} {v : Option Value} : mm_ld (L.set i v) j = if i = j ∧ j < L.length then v else mm_ld L j := by
  unfold mm_ld
  rw [List.getElem?_set]
  by_cases h : i = j
  · subst h
    by_cases hl : i < L.length
    · simp [hl]
    · simp [hl, List.getElem?_eq_none (Nat.le_of_not_lt hl)]
  · simp [h]
theorem hw_cut_s (L : hw_L) (i : Nat) : hw_cut L (i + 1) = (match hw_ld L i with
    | some (.inr (.inl _)) => L.set i none
    | _ => L) := rfl
theorem mm_cut_s (L : mm_L) (i : Nat) : mm_cut L (i + 1) = (match mm_ld L i with
    | some (.long _) => L.set i none
    | some (.double _) => L.set i none
    | _ => L) := rfl
theorem mm_cut_len (L : mm_L) (i : Nat) : (mm_cut L i).length = L.length := by
  cases i with
  | zero => rfl
  | succ i =>
    rw [mm_cut_s]
    split
    · rw [List.length_set]
    · rw [List.length_set]
    · rfl
theorem hw_cut_len (L : hw_L) (i : Nat) : (hw_cut L i).length = L.length := by
  cases i with
  | zero => rfl
  | succ i =>
    rw [hw_cut_s]
    split
    · rw [List.length_set]
    · rfl
theorem hw_ls_cut {T : hw_T} {L : hw_L} {M : mm_L} (h : hw_ls T L M) (i : Nat) : hw_ls T (hw_cut L i) (mm_cut M i) := by
  refine ⟨by rw [mm_cut_len, hw_cut_len, h.1], fun j v hj => ?_⟩
  cases i with
  | zero => exact h.2 j v hj
  | succ i =>
    have hL : hw_ld L j = some v ∧ (j = i → ∀ x, v ≠ .inr (.inl x)) := by
      rw [hw_cut_s] at hj
      split at hj
      · rename_i x hx
        rw [hw_set_ld] at hj
        split at hj
        · cases hj
        · rename_i hc
          refine ⟨hj, fun e => ?_⟩
          subst e
          exfalso
          apply hc
          refine ⟨rfl, ?_⟩
          unfold hw_ld at hx
          rcases Nat.lt_or_ge j L.length with q | q
          · exact q
          · rw [List.getElem?_eq_none q] at hx
            cases hx
      · rename_i hx
        refine ⟨hj, fun e x q => ?_⟩
        subst e
        subst q
        exact hx x hj
    obtain ⟨u, hu, hv⟩ := h.2 j v hL.1
    refine ⟨u, ?_, hv⟩
    have hne : j = i → u.category ≠ 2 := by
      intro e
      rw [hw_v_cat hv]
      rcases v with x | x | k
      · exact fun q => by cases q
      · exact absurd rfl (hL.2 e x)
      · exact fun q => by cases q
    rw [mm_cut_s]
    split
    · rename_i x hx
      rw [mm_set_ld, if_neg]
      · exact hu
      · intro q
        obtain ⟨q, -⟩ := q
        subst q
        rw [hu] at hx
        cases hx
        exact hne rfl rfl
    · rename_i x hx
      rw [mm_set_ld, if_neg]
      · exact hu
      · intro q
        obtain ⟨q, -⟩ := q
        subst q
        rw [hu] at hx
        cases hx
        exact hne rfl rfl
    · exact hu
theorem hw_ls_set {T : hw_T} {L : hw_L} {M : mm_L} (h : hw_ls T L M) {v : hw_V} {u : Value} (hv : hw_v T v u) (i : Nat) : hw_ls T (L.set i (some v)) (M.set i (some u)) := by
  refine ⟨by simp [h.1], fun j x hj => ?_⟩
  rw [hw_set_ld] at hj
  rw [mm_set_ld, h.1]
  split at hj
  · rename_i hc
    cases hj
    rw [if_pos hc]
    exact ⟨_, rfl, hv⟩
  · rename_i hc
    rw [if_neg hc]
    exact h.2 j x hj
theorem hw_ls_setn {T : hw_T} {L : hw_L} {M : mm_L} (h : hw_ls T L M) (i : Nat) : hw_ls T (L.set i none) (M.set i none) := by
  refine ⟨by simp [h.1], fun j x hj => ?_⟩
  rw [hw_set_ld] at hj
  rw [mm_set_ld, h.1]
  split at hj
  · cases hj
  · rename_i hc
    rw [if_neg hc]
    exact h.2 j x hj
theorem hw_ls_s1 {T : hw_T} {L : hw_L} {M : mm_L} (h : hw_ls T L M) {v : hw_V} {u : Value} (hv : hw_v T v u) (i : Nat) : hw_ls T (hw_s1 L i v) (mm_s1 M i u) := hw_ls_set (hw_ls_cut h i) hv i
theorem hw_ls_s2 {T : hw_T} {L : hw_L} {M : mm_L} (h : hw_ls T L M) {v : hw_V} {u : Value} (hv : hw_v T v u) (i : Nat) : hw_ls T (hw_s2 L i v) (mm_s2 M i u) := hw_ls_setn (hw_ls_set (hw_ls_cut h i) hv i) (i + 1)
theorem hw_st_v {T : hw_T} {v : hw_V} {u : Value} {r : List hw_V} {us : List Value} (hv : hw_v T v u) (hr : hw_st T r us) : hw_st T (v :: r) (u :: us) := ⟨_, _, rfl, hv, hr⟩
theorem hw_st_i {T : hw_T} {a : Int32} {r : List hw_V} {us : List Value} (hr : hw_st T r us) : hw_st T (hw_I a.toInt :: r) (.int a :: us) := ⟨_, _, rfl, ⟨_, rfl, rfl⟩, hr⟩
theorem hw_st_j {T : hw_T} {a : Int64} {r : List hw_V} {us : List Value} (hr : hw_st T r us) : hw_st T (hw_J a.toInt :: r) (.long a :: us) := ⟨_, _, rfl, ⟨_, rfl, rfl⟩, hr⟩
theorem hw_st_ie {T : hw_T} {a : Int32} {x : Int} {r : List hw_V} {us : List Value} (e : a.toInt = x) (hr : hw_st T r us) : hw_st T (hw_I x :: r) (.int a :: us) := ⟨_, _, rfl, ⟨_, rfl, e⟩, hr⟩
theorem hw_st_je {T : hw_T} {a : Int64} {x : Int} {r : List hw_V} {us : List Value} (e : a.toInt = x) (hr : hw_st T r us) : hw_st T (hw_J x :: r) (.long a :: us) := ⟨_, _, rfl, ⟨_, rfl, e⟩, hr⟩
theorem hw_i1_inv {st : List hw_V} {k : Int → List hw_V → Prop} (h : hw_i1 st k) : ∃ x r, st = .inl x :: r ∧ k x r := by
  unfold hw_i1 at h
  split at h
  · exact ⟨_, _, rfl, h⟩
  · exact h.elim
theorem hw_i2_inv {st : List hw_V} {k : Int → Int → List hw_V → Prop} (h : hw_i2 st k) : ∃ x y r, st = .inl y :: .inl x :: r ∧ k x y r := by
  unfold hw_i2 at h
  split at h
  · exact ⟨_, _, _, rfl, h⟩
  · exact h.elim
theorem hw_j1_inv {st : List hw_V} {k : Int → List hw_V → Prop} (h : hw_j1 st k) : ∃ x r, st = .inr (.inl x) :: r ∧ k x r := by
  unfold hw_j1 at h
  split at h
  · exact ⟨_, _, rfl, h⟩
  · exact h.elim
theorem hw_j2_inv {st : List hw_V} {k : Int → Int → List hw_V → Prop} (h : hw_j2 st k) : ∃ x y r, st = .inr (.inl y) :: .inr (.inl x) :: r ∧ k x y r := by
  unfold hw_j2 at h
  split at h
  · exact ⟨_, _, _, rfl, h⟩
  · exact h.elim
theorem hw_ji_inv {st : List hw_V} {k : Int → Int → List hw_V → Prop} (h : hw_ji st k) : ∃ x y r, st = .inl y :: .inr (.inl x) :: r ∧ k x y r := by
  unfold hw_ji at h
  split at h
  · exact ⟨_, _, _, rfl, h⟩
  · exact h.elim
theorem hw_cb_br {o : ClassFile.Cond} {x y : Int} {a b : Prop} (h : hw_cb o x y a b) : hw_br (hw_cn o x y) a b := by
  cases o
  · exact h
  · exact ⟨h.1, fun q => h.2 (Decidable.of_not_not q)⟩
  · exact ⟨h.1, fun q => h.2 (Int.not_lt.mp q)⟩
  · exact ⟨h.1, fun q => h.2 (Int.not_le.mp q)⟩
  · exact ⟨h.1, fun q => h.2 (Int.not_lt.mp q)⟩
  · exact ⟨h.1, fun q => h.2 (Int.not_le.mp q)⟩
theorem hw_cn_ok (o : ClassFile.Cond) (x y : Int32) : mm_icmp o x y = true ↔ hw_cn o x.toInt y.toInt := by
  cases o <;> simp only [mm_icmp, hw_cn, decide_eq_true_eq, Int32.toInt_inj, Int32.lt_iff_toInt_lt, Int32.le_iff_toInt_le]
/-- one step: the small machine takes it, its cells stay, it comes to a state that the abstract one goes on with -/
def hw_to (T : hw_T) (S : mm_S) (Z : hw_Z) (w : hw_K → Prop) (o : Option mm_Kf) : Prop := ∃ pc M us L st, o = some (pc, M, us, S) ∧ hw_ls T L M ∧ hw_st T st us ∧ w (pc, L, st, Z)
section HW0
variable {T : hw_T} {pc nx tg : Nat} {L : hw_L} {st : List hw_V} {Z : hw_Z} {w : hw_K → Prop} {M : mm_L} {us : List Value} {S : mm_S}
theorem hw0_iadd (h : hw_i0 (.iadd) pc nx tg L st Z w) (hL : hw_ls T L M) (hs : hw_st T st us) : hw_to T S Z w (mm_st0 (.iadd) pc nx tg M us S) := by
  obtain ⟨x, y, r, rfl, h⟩ := hw_i2_inv h
  obtain ⟨_, _, rfl, ⟨b, rfl, rfl⟩, _, _, rfl, ⟨a, rfl, rfl⟩, hr⟩ := hs
  obtain ⟨q, hq⟩ := hw_wr32 (a.toInt + b.toInt)
  exact ⟨_, _, _, L, _, rfl, hL, hw_st_i hr, h _ q (hw_i32 _) (by rw [Int32.toInt_add, hq])⟩
theorem hw0_isub (h : hw_i0 (.isub) pc nx tg L st Z w) (hL : hw_ls T L M) (hs : hw_st T st us) : hw_to T S Z w (mm_st0 (.isub) pc nx tg M us S) := by
  obtain ⟨x, y, r, rfl, h⟩ := hw_i2_inv h
  obtain ⟨_, _, rfl, ⟨b, rfl, rfl⟩, _, _, rfl, ⟨a, rfl, rfl⟩, hr⟩ := hs
  obtain ⟨q, hq⟩ := hw_wr32 (a.toInt - b.toInt)
  exact ⟨_, _, _, L, _, rfl, hL, hw_st_i hr, h _ q (hw_i32 _) (by rw [Int32.toInt_sub, hq])⟩
theorem hw0_imul (h : hw_i0 (.imul) pc nx tg L st Z w) (hL : hw_ls T L M) (hs : hw_st T st us) : hw_to T S Z w (mm_st0 (.imul) pc nx tg M us S) := by
  obtain ⟨x, y, r, rfl, h⟩ := hw_i2_inv h
  obtain ⟨_, _, rfl, ⟨b, rfl, rfl⟩, _, _, rfl, ⟨a, rfl, rfl⟩, hr⟩ := hs
  obtain ⟨q, hq⟩ := hw_wr32 (a.toInt * b.toInt)
  exact ⟨_, _, _, L, _, rfl, hL, hw_st_i hr, h _ q (hw_i32 _) (by rw [Int32.toInt_mul, hq])⟩
theorem hw0_iand (h : hw_i0 (.iand) pc nx tg L st Z w) (hL : hw_ls T L M) (hs : hw_st T st us) : hw_to T S Z w (mm_st0 (.iand) pc nx tg M us S) := by
  obtain ⟨x, y, r, rfl, h⟩ := hw_i2_inv h
  obtain ⟨_, _, rfl, ⟨b, rfl, rfl⟩, _, _, rfl, ⟨a, rfl, rfl⟩, hr⟩ := hs
  exact ⟨_, _, _, L, _, rfl, hL, hw_st_i hr, h _ (hw_i32 _) (hb_and_eq a b) (hw_and32 a b).2⟩
theorem hw0_ior (h : hw_i0 (.ior) pc nx tg L st Z w) (hL : hw_ls T L M) (hs : hw_st T st us) : hw_to T S Z w (mm_st0 (.ior) pc nx tg M us S) := by
  obtain ⟨x, y, r, rfl, h⟩ := hw_i2_inv h
  obtain ⟨_, _, rfl, ⟨b, rfl, rfl⟩, _, _, rfl, ⟨a, rfl, rfl⟩, hr⟩ := hs
  exact ⟨_, _, _, L, _, rfl, hL, hw_st_i hr, h _ (hw_i32 _) (hb_or_eq a b)⟩
theorem hw0_ixor (h : hw_i0 (.ixor) pc nx tg L st Z w) (hL : hw_ls T L M) (hs : hw_st T st us) : hw_to T S Z w (mm_st0 (.ixor) pc nx tg M us S) := by
  obtain ⟨x, y, r, rfl, h⟩ := hw_i2_inv h
  obtain ⟨_, _, rfl, ⟨b, rfl, rfl⟩, _, _, rfl, ⟨a, rfl, rfl⟩, hr⟩ := hs
  exact ⟨_, _, _, L, _, rfl, hL, hw_st_i hr, h _ (hw_i32 _) (hb_xor_eq a b)⟩
theorem hw0_ishl (h : hw_i0 (.ishl) pc nx tg L st Z w) (hL : hw_ls T L M) (hs : hw_st T st us) : hw_to T S Z w (mm_st0 (.ishl) pc nx tg M us S) := by
  obtain ⟨x, y, r, rfl, h⟩ := hw_i2_inv h
  obtain ⟨_, _, rfl, ⟨b, rfl, rfl⟩, _, _, rfl, ⟨a, rfl, rfl⟩, hr⟩ := hs
  exact ⟨_, _, _, L, _, rfl, hL, hw_st_i hr, h _ (hw_i32 _) (hb_shl_eq a b)⟩
theorem hw0_ishr (h : hw_i0 (.ishr) pc nx tg L st Z w) (hL : hw_ls T L M) (hs : hw_st T st us) : hw_to T S Z w (mm_st0 (.ishr) pc nx tg M us S) := by
  obtain ⟨x, y, r, rfl, h⟩ := hw_i2_inv h
  obtain ⟨_, _, rfl, ⟨b, rfl, rfl⟩, _, _, rfl, ⟨a, rfl, rfl⟩, hr⟩ := hs
  exact ⟨_, _, _, L, _, rfl, hL, hw_st_i hr, h _ (hw_i32 _) (hb_shr_eq a b)⟩
theorem hw0_iushr (h : hw_i0 (.iushr) pc nx tg L st Z w) (hL : hw_ls T L M) (hs : hw_st T st us) : hw_to T S Z w (mm_st0 (.iushr) pc nx tg M us S) := by
  obtain ⟨x, y, r, rfl, h⟩ := hw_i2_inv h
  obtain ⟨_, _, rfl, ⟨b, rfl, rfl⟩, _, _, rfl, ⟨a, rfl, rfl⟩, hr⟩ := hs
  exact ⟨_, _, _, L, _, rfl, hL, hw_st_i hr, h _ (hw_i32 _) (hb_ushr_eq a b)⟩
theorem hw0_ladd (h : hw_i0 (.ladd) pc nx tg L st Z w) (hL : hw_ls T L M) (hs : hw_st T st us) : hw_to T S Z w (mm_st0 (.ladd) pc nx tg M us S) := by
  obtain ⟨x, y, r, rfl, h⟩ := hw_j2_inv h
  obtain ⟨_, _, rfl, ⟨b, rfl, rfl⟩, _, _, rfl, ⟨a, rfl, rfl⟩, hr⟩ := hs
  obtain ⟨q, hq⟩ := hw_wr64 (a.toInt + b.toInt)
  exact ⟨_, _, _, L, _, rfl, hL, hw_st_j hr, h _ q (hw_i64 _) (by rw [Int64.toInt_add, hq])⟩
theorem hw0_lsub (h : hw_i0 (.lsub) pc nx tg L st Z w) (hL : hw_ls T L M) (hs : hw_st T st us) : hw_to T S Z w (mm_st0 (.lsub) pc nx tg M us S) := by
  obtain ⟨x, y, r, rfl, h⟩ := hw_j2_inv h
  obtain ⟨_, _, rfl, ⟨b, rfl, rfl⟩, _, _, rfl, ⟨a, rfl, rfl⟩, hr⟩ := hs
  obtain ⟨q, hq⟩ := hw_wr64 (a.toInt - b.toInt)
  exact ⟨_, _, _, L, _, rfl, hL, hw_st_j hr, h _ q (hw_i64 _) (by rw [Int64.toInt_sub, hq])⟩
theorem hw0_lmul (h : hw_i0 (.lmul) pc nx tg L st Z w) (hL : hw_ls T L M) (hs : hw_st T st us) : hw_to T S Z w (mm_st0 (.lmul) pc nx tg M us S) := by
  obtain ⟨x, y, r, rfl, h⟩ := hw_j2_inv h
  obtain ⟨_, _, rfl, ⟨b, rfl, rfl⟩, _, _, rfl, ⟨a, rfl, rfl⟩, hr⟩ := hs
  obtain ⟨q, hq⟩ := hw_wr64 (a.toInt * b.toInt)
  exact ⟨_, _, _, L, _, rfl, hL, hw_st_j hr, h _ q (hw_i64 _) (by rw [Int64.toInt_mul, hq])⟩
theorem hw0_land (h : hw_i0 (.land) pc nx tg L st Z w) (hL : hw_ls T L M) (hs : hw_st T st us) : hw_to T S Z w (mm_st0 (.land) pc nx tg M us S) := by
  obtain ⟨x, y, r, rfl, h⟩ := hw_j2_inv h
  obtain ⟨_, _, rfl, ⟨b, rfl, rfl⟩, _, _, rfl, ⟨a, rfl, rfl⟩, hr⟩ := hs
  exact ⟨_, _, _, L, _, rfl, hL, hw_st_j hr, h _ (hw_i64 _) (hb_land_eq a b) (hw_and64 a b).2⟩
theorem hw0_lor (h : hw_i0 (.lor) pc nx tg L st Z w) (hL : hw_ls T L M) (hs : hw_st T st us) : hw_to T S Z w (mm_st0 (.lor) pc nx tg M us S) := by
  obtain ⟨x, y, r, rfl, h⟩ := hw_j2_inv h
  obtain ⟨_, _, rfl, ⟨b, rfl, rfl⟩, _, _, rfl, ⟨a, rfl, rfl⟩, hr⟩ := hs
  exact ⟨_, _, _, L, _, rfl, hL, hw_st_j hr, h _ (hw_i64 _) (hb_lor_eq a b)⟩
theorem hw0_lshl (h : hw_i0 (.lshl) pc nx tg L st Z w) (hL : hw_ls T L M) (hs : hw_st T st us) : hw_to T S Z w (mm_st0 (.lshl) pc nx tg M us S) := by
  obtain ⟨x, y, r, rfl, h⟩ := hw_ji_inv h
  obtain ⟨_, _, rfl, ⟨b, rfl, rfl⟩, _, _, rfl, ⟨a, rfl, rfl⟩, hr⟩ := hs
  exact ⟨_, _, _, L, _, rfl, hL, hw_st_j hr, h _ (hw_i64 _) (hb_lshl_eq a b)⟩
theorem hw0_lshr (h : hw_i0 (.lshr) pc nx tg L st Z w) (hL : hw_ls T L M) (hs : hw_st T st us) : hw_to T S Z w (mm_st0 (.lshr) pc nx tg M us S) := by
  obtain ⟨x, y, r, rfl, h⟩ := hw_ji_inv h
  obtain ⟨_, _, rfl, ⟨b, rfl, rfl⟩, _, _, rfl, ⟨a, rfl, rfl⟩, hr⟩ := hs
  exact ⟨_, _, _, L, _, rfl, hL, hw_st_j hr, h _ (hw_i64 _) (hb_lshr_eq a b)⟩
theorem hw0_lushr (h : hw_i0 (.lushr) pc nx tg L st Z w) (hL : hw_ls T L M) (hs : hw_st T st us) : hw_to T S Z w (mm_st0 (.lushr) pc nx tg M us S) := by
  obtain ⟨x, y, r, rfl, h⟩ := hw_ji_inv h
  obtain ⟨_, _, rfl, ⟨b, rfl, rfl⟩, _, _, rfl, ⟨a, rfl, rfl⟩, hr⟩ := hs
  exact ⟨_, _, _, L, _, rfl, hL, hw_st_j hr, h _ (hw_i64 _) (hb_lushr_eq a b)⟩
theorem hw0_idiv (h : hw_i0 (.idiv) pc nx tg L st Z w) (hL : hw_ls T L M) (hs : hw_st T st us) : hw_to T S Z w (mm_st0 (.idiv) pc nx tg M us S) := by
  obtain ⟨x, y, r, rfl, hne, h⟩ := hw_i2_inv h
  obtain ⟨_, _, rfl, ⟨b, rfl, rfl⟩, _, _, rfl, ⟨a, rfl, rfl⟩, hr⟩ := hs
  have hb : ¬ b = 0 := fun q => hne (by rw [q]; rfl)
  exact ⟨_, _, _, L, _, if_neg hb, hL, hw_st_i hr, h _ (hw_i32 _) (hb_div_eq a b) (fun q1 q2 => ⟨(hw_div32 a b q1 q2).1, (hw_div32 a b q1 q2).2.1, (hw_div32 a b q1 q2).2.2.1⟩)⟩
theorem hw0_irem (h : hw_i0 (.irem) pc nx tg L st Z w) (hL : hw_ls T L M) (hs : hw_st T st us) : hw_to T S Z w (mm_st0 (.irem) pc nx tg M us S) := by
  obtain ⟨x, y, r, rfl, hne, h⟩ := hw_i2_inv h
  obtain ⟨_, _, rfl, ⟨b, rfl, rfl⟩, _, _, rfl, ⟨a, rfl, rfl⟩, hr⟩ := hs
  have hb : ¬ b = 0 := fun q => hne (by rw [q]; rfl)
  exact ⟨_, _, _, L, _, if_neg hb, hL, hw_st_i hr, h _ (hw_i32 _) (hb_rem_eq a b) (fun q1 q2 => ⟨(hw_rem32 a b q1 q2).1, (hw_rem32 a b q1 q2).2.1, (hw_rem32 a b q1 q2).2.2.1⟩)⟩
theorem hw0_ldiv (h : hw_i0 (.ldiv) pc nx tg L st Z w) (hL : hw_ls T L M) (hs : hw_st T st us) : hw_to T S Z w (mm_st0 (.ldiv) pc nx tg M us S) := by
  obtain ⟨x, y, r, rfl, hne, h⟩ := hw_j2_inv h
  obtain ⟨_, _, rfl, ⟨b, rfl, rfl⟩, _, _, rfl, ⟨a, rfl, rfl⟩, hr⟩ := hs
  have hb : ¬ b = 0 := fun q => hne (by rw [q]; rfl)
  exact ⟨_, _, _, L, _, if_neg hb, hL, hw_st_j hr, h _ (hw_i64 _) (hb_ldiv_eq a b) (fun q1 q2 => ⟨(hw_div64 a b q1 q2).1, (hw_div64 a b q1 q2).2.1, (hw_div64 a b q1 q2).2.2.1⟩)⟩
theorem hw0_lrem (h : hw_i0 (.lrem) pc nx tg L st Z w) (hL : hw_ls T L M) (hs : hw_st T st us) : hw_to T S Z w (mm_st0 (.lrem) pc nx tg M us S) := by
  obtain ⟨x, y, r, rfl, hne, h⟩ := hw_j2_inv h
  obtain ⟨_, _, rfl, ⟨b, rfl, rfl⟩, _, _, rfl, ⟨a, rfl, rfl⟩, hr⟩ := hs
  have hb : ¬ b = 0 := fun q => hne (by rw [q]; rfl)
  exact ⟨_, _, _, L, _, if_neg hb, hL, hw_st_j hr, h _ (hw_i64 _) (hb_lrem_eq a b) (fun q1 q2 => ⟨(hw_rem64 a b q1 q2).1, (hw_rem64 a b q1 q2).2.1, (hw_rem64 a b q1 q2).2.2.1⟩)⟩
theorem hw0_lcmp (h : hw_i0 (.lcmp) pc nx tg L st Z w) (hL : hw_ls T L M) (hs : hw_st T st us) : hw_to T S Z w (mm_st0 (.lcmp) pc nx tg M us S) := by
  obtain ⟨x, y, r, rfl, h⟩ := hw_j2_inv h
  obtain ⟨_, _, rfl, ⟨b, rfl, rfl⟩, _, _, rfl, ⟨a, rfl, rfl⟩, hr⟩ := hs
  exact ⟨_, _, _, L, _, rfl, hL, hw_st_i hr, h _ (hw_cmp a b)⟩
theorem hw0_lneg (h : hw_i0 (.lneg) pc nx tg L st Z w) (hL : hw_ls T L M) (hs : hw_st T st us) : hw_to T S Z w (mm_st0 (.lneg) pc nx tg M us S) := by
  obtain ⟨x, r, rfl, h⟩ := hw_j1_inv h
  obtain ⟨_, _, rfl, ⟨a, rfl, rfl⟩, hr⟩ := hs
  obtain ⟨q, hq⟩ := hw_wr64 (-a.toInt)
  exact ⟨_, _, _, L, _, rfl, hL, hw_st_j hr, h _ q (hw_i64 _) (by rw [Int64.toInt_neg, hq])⟩
theorem hw0_l2i (h : hw_i0 (.l2i) pc nx tg L st Z w) (hL : hw_ls T L M) (hs : hw_st T st us) : hw_to T S Z w (mm_st0 (.l2i) pc nx tg M us S) := by
  obtain ⟨x, r, rfl, h⟩ := hw_j1_inv h
  obtain ⟨_, _, rfl, ⟨a, rfl, rfl⟩, hr⟩ := hs
  obtain ⟨q, hq⟩ := hw_wr32 a.toInt
  exact ⟨_, _, _, L, _, rfl, hL, hw_st_i hr, h _ q (hw_i32 _) (by rw [Int64.toInt_toInt32, hq])⟩
theorem hw0_i2c (h : hw_i0 (.i2c) pc nx tg L st Z w) (hL : hw_ls T L M) (hs : hw_st T st us) : hw_to T S Z w (mm_st0 (.i2c) pc nx tg M us S) := by
  obtain ⟨x, r, rfl, h⟩ := hw_i1_inv h
  obtain ⟨_, _, rfl, ⟨a, rfl, rfl⟩, hr⟩ := hs
  exact ⟨_, _, _, L, _, rfl, hL, hw_st_i hr, h _ (hw_i32 _) (hb_i2c_eq a) (hw_i2c a).1⟩
theorem hw0_i2b (h : hw_i0 (.i2b) pc nx tg L st Z w) (hL : hw_ls T L M) (hs : hw_st T st us) : hw_to T S Z w (mm_st0 (.i2b) pc nx tg M us S) := by
  obtain ⟨x, r, rfl, h⟩ := hw_i1_inv h
  obtain ⟨_, _, rfl, ⟨a, rfl, rfl⟩, hr⟩ := hs
  exact ⟨_, _, _, L, _, rfl, hL, hw_st_i hr, h _ (hw_i2b a) (hb_i2b_eq a)⟩
theorem hw0_i2l (h : hw_i0 (.i2l) pc nx tg L st Z w) (hL : hw_ls T L M) (hs : hw_st T st us) : hw_to T S Z w (mm_st0 (.i2l) pc nx tg M us S) := by
  obtain ⟨x, r, rfl, h⟩ := hw_i1_inv h
  obtain ⟨_, _, rfl, ⟨a, rfl, rfl⟩, hr⟩ := hs
  exact ⟨_, _, _, L, _, rfl, hL, hw_st_je a.toInt_toInt64 hr, h⟩
theorem hw0_iconst {n : Int} (h : hw_i0 (.iconst n) pc nx tg L st Z w) (hL : hw_ls T L M) (hs : hw_st T st us) : hw_to T S Z w (mm_st0 (.iconst n) pc nx tg M us S) := by
  obtain ⟨h1, h2, h⟩ := hw_ib_of h
  exact ⟨_, _, _, L, _, rfl, hL, hw_st_ie (Int32.toInt_ofInt_of_le (by omega) (by omega)) hs, h⟩
theorem hw0_bipush {n : Int} (h : hw_i0 (.bipush n) pc nx tg L st Z w) (hL : hw_ls T L M) (hs : hw_st T st us) : hw_to T S Z w (mm_st0 (.bipush n) pc nx tg M us S) := by
  obtain ⟨h1, h2, h⟩ := hw_ib_of h
  exact ⟨_, _, _, L, _, rfl, hL, hw_st_ie (by rw [Int8.toInt_toInt32]; exact Int8.toInt_ofInt_of_le (by omega) (by omega)) hs, h⟩
theorem hw0_sipush {n : Int} (h : hw_i0 (.sipush n) pc nx tg L st Z w) (hL : hw_ls T L M) (hs : hw_st T st us) : hw_to T S Z w (mm_st0 (.sipush n) pc nx tg M us S) := by
  obtain ⟨h1, h2, h⟩ := hw_ib_of h
  exact ⟨_, _, _, L, _, rfl, hL, hw_st_ie (by rw [Int16.toInt_toInt32]; exact Int16.toInt_ofInt_of_le (by omega) (by omega)) hs, h⟩
theorem hw0_lconst {n : Fin 2} (h : hw_i0 (.lconst n) pc nx tg L st Z w) (hL : hw_ls T L M) (hs : hw_st T st us) : hw_to T S Z w (mm_st0 (.lconst n) pc nx tg M us S) := by
  match n, h with
  | 0, h => exact ⟨_, _, _, L, _, rfl, hL, hw_st_je (by decide) hs, h⟩
  | 1, h => exact ⟨_, _, _, L, _, rfl, hL, hw_st_je (by decide) hs, h⟩
theorem hw0_iload {j : Nat} (h : hw_i0 (.iload j) pc nx tg L st Z w) (hL : hw_ls T L M) (hs : hw_st T st us) : hw_to T S Z w (mm_st0 (.iload j) pc nx tg M us S) := by
  have h : hw_lI L j (fun v => w (nx, L, v :: st, Z)) := h
  unfold hw_lI at h
  split at h
  · rename_i x hx
    obtain ⟨u, hu, hv⟩ := hL.2 _ _ hx
    have hv0 := hv
    obtain ⟨a, rfl, ha⟩ := hv0
    refine ⟨nx, M, _, L, _, ?_, hL, hw_st_v hv hs, h⟩
    show mm_lI M j nx us S = _
    unfold mm_lI
    rw [hu]
  · exact h.elim
theorem hw0_iload_n {j : Fin 4} (h : hw_i0 (.iload_n j) pc nx tg L st Z w) (hL : hw_ls T L M) (hs : hw_st T st us) : hw_to T S Z w (mm_st0 (.iload_n j) pc nx tg M us S) := by
  have h : hw_lI L j.val (fun v => w (nx, L, v :: st, Z)) := h
  unfold hw_lI at h
  split at h
  · rename_i x hx
    obtain ⟨u, hu, hv⟩ := hL.2 _ _ hx
    have hv0 := hv
    obtain ⟨a, rfl, ha⟩ := hv0
    refine ⟨nx, M, _, L, _, ?_, hL, hw_st_v hv hs, h⟩
    show mm_lI M j.val nx us S = _
    unfold mm_lI
    rw [hu]
  · exact h.elim
theorem hw0_lload {j : Nat} (h : hw_i0 (.lload j) pc nx tg L st Z w) (hL : hw_ls T L M) (hs : hw_st T st us) : hw_to T S Z w (mm_st0 (.lload j) pc nx tg M us S) := by
  have h : hw_lJ L j (fun v => w (nx, L, v :: st, Z)) := h
  unfold hw_lJ at h
  split at h
  · rename_i x hx
    obtain ⟨u, hu, hv⟩ := hL.2 _ _ hx
    have hv0 := hv
    obtain ⟨a, rfl, ha⟩ := hv0
    refine ⟨nx, M, _, L, _, ?_, hL, hw_st_v hv hs, h⟩
    show mm_lJ M j nx us S = _
    unfold mm_lJ
    rw [hu]
  · exact h.elim
theorem hw0_lload_n {j : Fin 4} (h : hw_i0 (.lload_n j) pc nx tg L st Z w) (hL : hw_ls T L M) (hs : hw_st T st us) : hw_to T S Z w (mm_st0 (.lload_n j) pc nx tg M us S) := by
  have h : hw_lJ L j.val (fun v => w (nx, L, v :: st, Z)) := h
  unfold hw_lJ at h
  split at h
  · rename_i x hx
    obtain ⟨u, hu, hv⟩ := hL.2 _ _ hx
    have hv0 := hv
    obtain ⟨a, rfl, ha⟩ := hv0
    refine ⟨nx, M, _, L, _, ?_, hL, hw_st_v hv hs, h⟩
    show mm_lJ M j.val nx us S = _
    unfold mm_lJ
    rw [hu]
  · exact h.elim
theorem hw0_aload {j : Nat} (h : hw_i0 (.aload j) pc nx tg L st Z w) (hL : hw_ls T L M) (hs : hw_st T st us) : hw_to T S Z w (mm_st0 (.aload j) pc nx tg M us S) := by
  have h : hw_lA L j (fun v => w (nx, L, v :: st, Z)) := h
  unfold hw_lA at h
  split at h
  · rename_i x hx
    obtain ⟨u, hu, hv⟩ := hL.2 _ _ hx
    have hv0 := hv
    obtain ⟨a, rfl, ha⟩ := hv0
    refine ⟨nx, M, _, L, _, ?_, hL, hw_st_v hv hs, h⟩
    show mm_lA M j nx us S = _
    unfold mm_lA
    rw [hu]
  · exact h.elim
theorem hw0_aload_n {j : Fin 4} (h : hw_i0 (.aload_n j) pc nx tg L st Z w) (hL : hw_ls T L M) (hs : hw_st T st us) : hw_to T S Z w (mm_st0 (.aload_n j) pc nx tg M us S) := by
  have h : hw_lA L j.val (fun v => w (nx, L, v :: st, Z)) := h
  unfold hw_lA at h
  split at h
  · rename_i x hx
    obtain ⟨u, hu, hv⟩ := hL.2 _ _ hx
    have hv0 := hv
    obtain ⟨a, rfl, ha⟩ := hv0
    refine ⟨nx, M, _, L, _, ?_, hL, hw_st_v hv hs, h⟩
    show mm_lA M j.val nx us S = _
    unfold mm_lA
    rw [hu]
  · exact h.elim
theorem hw0_istore {j : Nat} (h : hw_i0 (.istore j) pc nx tg L st Z w) (hL : hw_ls T L M) (hs : hw_st T st us) : hw_to T S Z w (mm_st0 (.istore j) pc nx tg M us S) := by
  have h : hw_sI L j st (fun L r => w (nx, L, r, Z)) := h
  unfold hw_sI at h
  split at h
  · obtain ⟨h1, h⟩ := hw_bif h
    replace h := hw_nl_of h
    obtain ⟨_, _, rfl, hv, hr⟩ := hs
    have hv0 := hv
    obtain ⟨a, rfl, ha⟩ := hv0
    have h1 : j < M.length := by rw [hL.1]; exact Nat.blt_eq.mp h1
    refine ⟨nx, _, _, _, _, ?_, hw_ls_s1 hL hv j, hr, h⟩
    exact if_pos h1
  · exact h.elim
theorem hw0_istore_n {j : Fin 4} (h : hw_i0 (.istore_n j) pc nx tg L st Z w) (hL : hw_ls T L M) (hs : hw_st T st us) : hw_to T S Z w (mm_st0 (.istore_n j) pc nx tg M us S) := by
  have h : hw_sI L j.val st (fun L r => w (nx, L, r, Z)) := h
  unfold hw_sI at h
  split at h
  · obtain ⟨h1, h⟩ := hw_bif h
    replace h := hw_nl_of h
    obtain ⟨_, _, rfl, hv, hr⟩ := hs
    have hv0 := hv
    obtain ⟨a, rfl, ha⟩ := hv0
    have h1 : j.val < M.length := by rw [hL.1]; exact Nat.blt_eq.mp h1
    refine ⟨nx, _, _, _, _, ?_, hw_ls_s1 hL hv j.val, hr, h⟩
    exact if_pos h1
  · exact h.elim
theorem hw0_lstore {j : Nat} (h : hw_i0 (.lstore j) pc nx tg L st Z w) (hL : hw_ls T L M) (hs : hw_st T st us) : hw_to T S Z w (mm_st0 (.lstore j) pc nx tg M us S) := by
  have h : hw_sJ L j st (fun L r => w (nx, L, r, Z)) := h
  unfold hw_sJ at h
  split at h
  · obtain ⟨h1, h⟩ := hw_bif h
    replace h := hw_nl_of h
    obtain ⟨_, _, rfl, hv, hr⟩ := hs
    have hv0 := hv
    obtain ⟨a, rfl, ha⟩ := hv0
    have h1 : j + 1 < M.length := by rw [hL.1]; exact Nat.blt_eq.mp h1
    refine ⟨nx, _, _, _, _, ?_, hw_ls_s2 hL hv j, hr, h⟩
    exact if_pos h1
  · exact h.elim
theorem hw0_lstore_n {j : Fin 4} (h : hw_i0 (.lstore_n j) pc nx tg L st Z w) (hL : hw_ls T L M) (hs : hw_st T st us) : hw_to T S Z w (mm_st0 (.lstore_n j) pc nx tg M us S) := by
  have h : hw_sJ L j.val st (fun L r => w (nx, L, r, Z)) := h
  unfold hw_sJ at h
  split at h
  · obtain ⟨h1, h⟩ := hw_bif h
    replace h := hw_nl_of h
    obtain ⟨_, _, rfl, hv, hr⟩ := hs
    have hv0 := hv
    obtain ⟨a, rfl, ha⟩ := hv0
    have h1 : j.val + 1 < M.length := by rw [hL.1]; exact Nat.blt_eq.mp h1
    refine ⟨nx, _, _, _, _, ?_, hw_ls_s2 hL hv j.val, hr, h⟩
    exact if_pos h1
  · exact h.elim
theorem hw0_astore {j : Nat} (h : hw_i0 (.astore j) pc nx tg L st Z w) (hL : hw_ls T L M) (hs : hw_st T st us) : hw_to T S Z w (mm_st0 (.astore j) pc nx tg M us S) := by
  have h : hw_sA L j st (fun L r => w (nx, L, r, Z)) := h
  unfold hw_sA at h
  split at h
  · obtain ⟨h1, h⟩ := hw_bif h
    replace h := hw_nl_of h
    obtain ⟨_, _, rfl, hv, hr⟩ := hs
    have hv0 := hv
    obtain ⟨a, rfl, ha⟩ := hv0
    have h1 : j < M.length := by rw [hL.1]; exact Nat.blt_eq.mp h1
    refine ⟨nx, _, _, _, _, ?_, hw_ls_s1 hL hv j, hr, h⟩
    exact if_pos h1
  · exact h.elim
theorem hw0_astore_n {j : Fin 4} (h : hw_i0 (.astore_n j) pc nx tg L st Z w) (hL : hw_ls T L M) (hs : hw_st T st us) : hw_to T S Z w (mm_st0 (.astore_n j) pc nx tg M us S) := by
  have h : hw_sA L j.val st (fun L r => w (nx, L, r, Z)) := h
  unfold hw_sA at h
  split at h
  · obtain ⟨h1, h⟩ := hw_bif h
    replace h := hw_nl_of h
    obtain ⟨_, _, rfl, hv, hr⟩ := hs
    have hv0 := hv
    obtain ⟨a, rfl, ha⟩ := hv0
    have h1 : j.val < M.length := by rw [hL.1]; exact Nat.blt_eq.mp h1
    refine ⟨nx, _, _, _, _, ?_, hw_ls_s1 hL hv j.val, hr, h⟩
    exact if_pos h1
  · exact h.elim
theorem hw0_iinc {j : Nat} {n : Int} (h : hw_i0 (.iinc j n) pc nx tg L st Z w) (hL : hw_ls T L M) (hs : hw_st T st us) : hw_to T S Z w (mm_st0 (.iinc j n) pc nx tg M us S) := by
  obtain ⟨g1, g2, h⟩ := hw_ib_of h
  unfold hw_inc at h
  split at h
  · rename_i x hx
    obtain ⟨h1, h⟩ := hw_bif h
    obtain ⟨u, hu, hv⟩ := hL.2 _ _ hx
    obtain ⟨a, rfl, rfl⟩ := hv
    have h1 : j < M.length := by rw [hL.1]; exact Nat.blt_eq.mp h1
    have hn : (Int32.ofInt n).toInt = n := Int32.toInt_ofInt_of_le (by omega) (by omega)
    have h2 := hw_nl_of (h (a + Int32.ofInt n).toInt (hw_wr32 (a.toInt + n)).choose (hw_i32 _) (by rw [Int32.toInt_add, hn]; exact (hw_wr32 (a.toInt + n)).choose_spec))
    refine ⟨nx, _, us, _, st, ?_, hw_ls_s1 hL (v := .inl (a + Int32.ofInt n).toInt) (u := .int (a + Int32.ofInt n)) ⟨_, rfl, rfl⟩ j, hs, h2⟩
    show mm_inc M j n nx us S = _
    unfold mm_inc
    rw [hu]
    exact if_pos h1
  · exact h.elim
theorem hw0_ifCond {o : ClassFile.Cond} {off : Int} (h : hw_i0 (.ifCond o off) pc nx tg L st Z w) (hL : hw_ls T L M) (hs : hw_st T st us) : hw_to T S Z w (mm_st0 (.ifCond o off) pc nx tg M us S) := by
  obtain ⟨x, r, rfl, h⟩ := hw_i1_inv h
  obtain ⟨_, _, rfl, ⟨a, rfl, rfl⟩, hr⟩ := hs
  replace h := hw_cb_br h
  by_cases hc : hw_cn o a.toInt 0
  · refine ⟨tg, M, _, L, r, ?_, hL, hr, h.1 hc⟩
    exact congrArg (fun t => some (t, M, _, S)) (if_pos ((hw_cn_ok o a 0).mpr hc))
  · refine ⟨nx, M, _, L, r, ?_, hL, hr, h.2 hc⟩
    exact congrArg (fun t => some (t, M, _, S)) (if_neg (fun q => hc ((hw_cn_ok o a 0).mp q)))
theorem hw0_if_icmp {o : ClassFile.Cond} {off : Int} (h : hw_i0 (.if_icmp o off) pc nx tg L st Z w) (hL : hw_ls T L M) (hs : hw_st T st us) : hw_to T S Z w (mm_st0 (.if_icmp o off) pc nx tg M us S) := by
  obtain ⟨x, y, r, rfl, h⟩ := hw_i2_inv h
  obtain ⟨_, _, rfl, ⟨b, rfl, rfl⟩, _, _, rfl, ⟨a, rfl, rfl⟩, hr⟩ := hs
  replace h := hw_cb_br h
  by_cases hc : hw_cn o a.toInt b.toInt
  · refine ⟨tg, M, _, L, r, ?_, hL, hr, h.1 hc⟩
    exact congrArg (fun t => some (t, M, _, S)) (if_pos ((hw_cn_ok o a b).mpr hc))
  · refine ⟨nx, M, _, L, r, ?_, hL, hr, h.2 hc⟩
    exact congrArg (fun t => some (t, M, _, S)) (if_neg (fun q => hc ((hw_cn_ok o a b).mp q)))
theorem hw0_goto {off : Int} (h : hw_i0 (.goto off) pc nx tg L st Z w) (hL : hw_ls T L M) (hs : hw_st T st us) : hw_to T S Z w (mm_st0 (.goto off) pc nx tg M us S) := by
  exact ⟨tg, M, us, L, st, rfl, hL, hs, h⟩
theorem hw0_dup (h : hw_i0 (.dup) pc nx tg L st Z w) (hL : hw_ls T L M) (hs : hw_st T st us) : hw_to T S Z w (mm_st0 (.dup) pc nx tg M us S) := by
  have h : hw_dp st (fun st => w (nx, L, st, Z)) := h
  unfold hw_dp at h
  split at h
  · obtain ⟨h1, h⟩ := hw_bif h
    obtain ⟨_, _, rfl, hv, hr⟩ := hs
    have c1 := Nat.eq_of_beq_eq_true h1
    refine ⟨nx, M, _, L, _, ?_, hL, (hw_st_v hv (hw_st_v hv (hr))), h⟩
    exact if_pos ((hw_v_cat hv).trans (Nat.eq_of_beq_eq_true h1))
  · exact h.elim
theorem hw0_pop (h : hw_i0 (.pop) pc nx tg L st Z w) (hL : hw_ls T L M) (hs : hw_st T st us) : hw_to T S Z w (mm_st0 (.pop) pc nx tg M us S) := by
  have h : hw_pp st (fun st => w (nx, L, st, Z)) := h
  unfold hw_pp at h
  split at h
  · obtain ⟨h1, h⟩ := hw_bif h
    obtain ⟨_, _, rfl, hv, hr⟩ := hs
    have c1 := Nat.eq_of_beq_eq_true h1
    refine ⟨nx, M, _, L, _, ?_, hL, (hr), h⟩
    exact if_pos ((hw_v_cat hv).trans (Nat.eq_of_beq_eq_true h1))
  · exact h.elim
theorem hw0_pop2 (h : hw_i0 (.pop2) pc nx tg L st Z w) (hL : hw_ls T L M) (hs : hw_st T st us) : hw_to T S Z w (mm_st0 (.pop2) pc nx tg M us S) := by
  have h : hw_pp2 st (fun st => w (nx, L, st, Z)) := h
  unfold hw_pp2 at h
  split at h
  · obtain ⟨h1, h⟩ := hw_bif h
    obtain ⟨_, _, rfl, hv, hr⟩ := hs
    have c1 := Nat.eq_of_beq_eq_true h1
    refine ⟨nx, M, _, L, _, ?_, hL, (hr), h⟩
    exact if_pos ((hw_v_cat hv).trans (Nat.eq_of_beq_eq_true h1))
  · exact h.elim
theorem hw0_dup_x1 (h : hw_i0 (.dup_x1) pc nx tg L st Z w) (hL : hw_ls T L M) (hs : hw_st T st us) : hw_to T S Z w (mm_st0 (.dup_x1) pc nx tg M us S) := by
  have h : hw_dx1 st (fun st => w (nx, L, st, Z)) := h
  unfold hw_dx1 at h
  split at h
  · obtain ⟨h1, h⟩ := hw_bif h
    obtain ⟨_, _, rfl, hv, _, _, rfl, hu, hr⟩ := hs
    simp only [Bool.and_eq_true] at h1
    refine ⟨nx, M, _, L, _, ?_, hL, (hw_st_v hv (hw_st_v hu (hw_st_v hv (hr)))), h⟩
    exact if_pos ⟨(hw_v_cat hv).trans (Nat.eq_of_beq_eq_true h1.1), (hw_v_cat hu).trans (Nat.eq_of_beq_eq_true h1.2)⟩
  · exact h.elim
theorem hw0_dup2 (h : hw_i0 (.dup2) pc nx tg L st Z w) (hL : hw_ls T L M) (hs : hw_st T st us) : hw_to T S Z w (mm_st0 (.dup2) pc nx tg M us S) := by
  have h : hw_dp2 st (fun st => w (nx, L, st, Z)) := h
  unfold hw_dp2 at h
  split at h
  · obtain ⟨h1, h⟩ := hw_bif h
    obtain ⟨_, _, rfl, hv, _, _, rfl, hu, hr⟩ := hs
    simp only [Bool.and_eq_true] at h1
    refine ⟨nx, M, _, L, _, ?_, hL, (hw_st_v hv (hw_st_v hu (hw_st_v hv (hw_st_v hu (hr))))), h⟩
    exact if_pos ⟨(hw_v_cat hv).trans (Nat.eq_of_beq_eq_true h1.1), (hw_v_cat hu).trans (Nat.eq_of_beq_eq_true h1.2)⟩
  · exact h.elim
theorem hw0_dup_x2 (h : hw_i0 (.dup_x2) pc nx tg L st Z w) (hL : hw_ls T L M) (hs : hw_st T st us) : hw_to T S Z w (mm_st0 (.dup_x2) pc nx tg M us S) := by
  have h : hw_dx2 st (fun st => w (nx, L, st, Z)) := h
  unfold hw_dx2 at h
  split at h
  · obtain ⟨h1, h⟩ := hw_bif h
    obtain ⟨_, _, rfl, hv, _, _, rfl, hu, _, _, rfl, ht, hr⟩ := hs
    simp only [Bool.and_eq_true] at h1
    refine ⟨nx, M, _, L, _, ?_, hL, (hw_st_v hv (hw_st_v hu (hw_st_v ht (hw_st_v hv (hr))))), h⟩
    exact if_pos ⟨(hw_v_cat hv).trans (Nat.eq_of_beq_eq_true h1.1), (hw_v_cat hu).trans (Nat.eq_of_beq_eq_true h1.2.1), (hw_v_cat ht).trans (Nat.eq_of_beq_eq_true h1.2.2)⟩
  · exact h.elim
set_option maxHeartbeats 4000000 in
theorem hw_i0_ok {i : Instr} (h : hw_i0 i pc nx tg L st Z w) (hL : hw_ls T L M) (hs : hw_st T st us) : hw_to T S Z w (mm_st0 i pc nx tg M us S) := by
  cases i
  case iconst => exact hw0_iconst h hL hs
  case bipush => exact hw0_bipush h hL hs
  case sipush => exact hw0_sipush h hL hs
  case lconst => exact hw0_lconst h hL hs
  case iload => exact hw0_iload h hL hs
  case iload_n => exact hw0_iload_n h hL hs
  case lload => exact hw0_lload h hL hs
  case lload_n => exact hw0_lload_n h hL hs
  case aload => exact hw0_aload h hL hs
  case aload_n => exact hw0_aload_n h hL hs
  case istore => exact hw0_istore h hL hs
  case istore_n => exact hw0_istore_n h hL hs
  case lstore => exact hw0_lstore h hL hs
  case lstore_n => exact hw0_lstore_n h hL hs
  case astore => exact hw0_astore h hL hs
  case astore_n => exact hw0_astore_n h hL hs
  case iinc => exact hw0_iinc h hL hs
  case iadd => exact hw0_iadd h hL hs
  case isub => exact hw0_isub h hL hs
  case imul => exact hw0_imul h hL hs
  case iand => exact hw0_iand h hL hs
  case ior => exact hw0_ior h hL hs
  case ixor => exact hw0_ixor h hL hs
  case ishl => exact hw0_ishl h hL hs
  case ishr => exact hw0_ishr h hL hs
  case iushr => exact hw0_iushr h hL hs
  case idiv => exact hw0_idiv h hL hs
  case irem => exact hw0_irem h hL hs
  case ladd => exact hw0_ladd h hL hs
  case lsub => exact hw0_lsub h hL hs
  case lmul => exact hw0_lmul h hL hs
  case land => exact hw0_land h hL hs
  case lor => exact hw0_lor h hL hs
  case lshl => exact hw0_lshl h hL hs
  case lshr => exact hw0_lshr h hL hs
  case lushr => exact hw0_lushr h hL hs
  case ldiv => exact hw0_ldiv h hL hs
  case lrem => exact hw0_lrem h hL hs
  case lneg => exact hw0_lneg h hL hs
  case lcmp => exact hw0_lcmp h hL hs
  case i2l => exact hw0_i2l h hL hs
  case l2i => exact hw0_l2i h hL hs
  case i2c => exact hw0_i2c h hL hs
  case i2b => exact hw0_i2b h hL hs
  case ifCond => exact hw0_ifCond h hL hs
  case if_icmp => exact hw0_if_icmp h hL hs
  case goto => exact hw0_goto h hL hs
  case dup => exact hw0_dup h hL hs
  case pop => exact hw0_pop h hL hs
  case pop2 => exact hw0_pop2 h hL hs
  case dup_x1 => exact hw0_dup_x1 h hL hs
  case dup_x2 => exact hw0_dup_x2 h hL hs
  case dup2 => exact hw0_dup2 h hL hs
  all_goals exact h.elim
end HW0
