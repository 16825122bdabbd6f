/-! how the small machine's cells, locals and values lie in the real one -/
def mm_phi (B : Nat) (ex : Nat → Nat) (k : Nat) : Nat := if k < mm_big then B + k else ex (k - mm_big)
def mm_tv (φ : Nat → Nat) : Value → Value
  | .ref k => .ref (φ k)
  | v => v
def mm_aC (tys : List (ClassId × FieldType)) (k : Nat) : ClassId := (tys.getD k (0, .int)).1
def mm_te (φ : Nat → Nat) (tys : List (ClassId × FieldType)) : mm_E → va_E
  | .inl (k, n, .inl f) => .inl (mm_aC tys k, n, .inl f)
  | .inl (k, n, .inr (.inl f)) => .inl (mm_aC tys k, n, .inr (.inl f))
  | .inl (k, n, .inr (.inr (.inl f))) => .inl (mm_aC tys k, n, .inr (.inr (.inl f)))
  | .inl (k, n, .inr (.inr (.inr (.inl f)))) => .inl (mm_aC tys k, n, .inr (.inr (.inr (.inl f))))
  | .inl (k, n, .inr (.inr (.inr (.inr f)))) => .inl (mm_aC tys k, n, .inr (.inr (.inr (.inr (fun j => (f j).map φ)))))
  | .inr (c, fs) => .inr (c, fs.map (mm_tv φ))
def mm_ws (φ : Nat → Nat) (tys : List (ClassId × FieldType)) (S : mm_S) : va_W := (List.range S.1).map (fun k => (φ k, mm_te φ tys (S.2.2 k)))
theorem mm_ws_at {φ : Nat → Nat} {tys : List (ClassId × FieldType)} {S : mm_S} {k : Nat} (hk : k < S.1) : (mm_ws φ tys S)[k]? = some (φ k, mm_te φ tys (S.2.2 k)) := by
  simp [mm_ws, hk]
theorem mm_ws_len {φ : Nat → Nat} {tys : List (ClassId × FieldType)} {S : mm_S} : (mm_ws φ tys S).length = S.1 := by simp [mm_ws]
theorem mm_ws_up {φ : Nat → Nat} {tys : List (ClassId × FieldType)} {S : mm_S} {k : Nat} (e : mm_E) (hk : k < S.1) : (mm_ws φ tys S).set k (φ k, mm_te φ tys e) = mm_ws φ tys (mm_up S k e) := by
  refine List.ext_getElem? fun j => ?_
  rw [List.getElem?_set]
  by_cases hj : j < S.1
  · have h2 : (mm_ws φ tys (mm_up S k e))[j]? = some (φ j, mm_te φ tys ((mm_up S k e).2.2 j)) := mm_ws_at (S := mm_up S k e) hj
    rw [h2]
    by_cases hjk : k = j
    · subst hjk
      simp [mm_ws_len, hk, mm_up, va_up]
    · rw [if_neg hjk, mm_ws_at hj]
      simp [mm_up, va_up, Ne.symm hjk]
  · have h2 : (mm_ws φ tys (mm_up S k e))[j]? = none := by
      rw [List.getElem?_eq_none_iff, mm_ws_len]
      exact Nat.le_of_not_lt hj
    have h1 : (mm_ws φ tys S)[j]? = none := by
      rw [List.getElem?_eq_none_iff, mm_ws_len]
      exact Nat.le_of_not_lt hj
    have hjk : ¬ k = j := by omega
    rw [h2, if_neg hjk, h1]
theorem mm_ws_add {φ : Nat → Nat} {tys : List (ClassId × FieldType)} {S : mm_S} (n : Nat) (e : mm_E) : mm_ws φ tys S ++ [(φ S.1, mm_te φ tys e)] = mm_ws φ tys (mm_add S n e) := by
  have h1 : (mm_add S n e).1 = S.1 + 1 := rfl
  have h2 : mm_ws φ tys (mm_add S n e) = (List.range (S.1 + 1)).map (fun k => (φ k, mm_te φ tys ((mm_add S n e).2.2 k))) := rfl
  rw [h2, List.range_succ, List.map_append]
  congr 1
  · refine List.map_congr_left fun k hk => ?_
    have hk' : k < S.1 := List.mem_range.mp hk
    have : k ≠ S.1 := by omega
    simp [mm_add, va_up, this]
  · simp [mm_add, va_up]
theorem mm_phi_lt {B : Nat} {ex : Nat → Nat} {k : Nat} (h : k < mm_big) : mm_phi B ex k = B + k := by simp [mm_phi, h]
theorem mm_ws_D {B : Nat} {ex : Nat → Nat} {tys : List (ClassId × FieldType)} {S : mm_S} (hS : S.1 ≤ mm_big) : va_D (fun q => B ≤ q) (mm_ws (mm_phi B ex) tys S) := by
  have key : ∀ (i : Nat) (p : Nat × va_E), (mm_ws (mm_phi B ex) tys S)[i]? = some p → i < S.1 ∧ p.1 = B + i := by
    intro i p h
    have hi : i < S.1 := by
      have := (List.getElem?_eq_some_iff.mp h).1
      rwa [mm_ws_len] at this
    rw [mm_ws_at hi] at h
    cases h
    exact ⟨hi, mm_phi_lt (by omega)⟩
  refine ⟨fun i j p q hp hq he => ?_, fun k q hq => ?_⟩
  · have h1 := (key i p hp).2
    have h2 := (key j q hq).2
    omega
  · have h1 := (key k q hq).2
    show B ≤ q.1
    omega
/-- the locals as the kit lists them -/
def mm_prs (φ : Nat → Nat) (L : mm_L) : List (Nat × Value) := (List.range L.length).filterMap (fun i => (mm_ld L i).map (fun v => (i, mm_tv φ v)))
theorem mm_prs_in {φ : Nat → Nat} {L : mm_L} {i : Nat} {v : Value} (h : mm_ld L i = some v) : (i, mm_tv φ v) ∈ mm_prs φ L := by
  refine List.mem_filterMap.mpr ⟨i, ?_, by rw [h]; rfl⟩
  rw [List.mem_range]
  unfold mm_ld at h
  cases hq : L[i]? with
  | none => rw [hq] at h; cases h
  | some x => exact (List.getElem?_eq_some_iff.mp hq).1
theorem mm_prs_of {φ : Nat → Nat} {L : mm_L} {q : Nat × Value} (h : q ∈ mm_prs φ L) : ∃ v, mm_ld L q.1 = some v ∧ q.2 = mm_tv φ v := by
  obtain ⟨i, -, hi⟩ := List.mem_filterMap.mp h
  cases hv : mm_ld L i with
  | none => rw [hv] at hi; cases hi
  | some v => rw [hv] at hi; cases hi; exact ⟨v, hv, rfl⟩
theorem mm_lv_at {φ : Nat → Nat} {ls : Array Slot} {nL : Nat} {L : mm_L} (h : lv_has ls nL (mm_prs φ L)) {i : Nat} {v : Value} (hi : mm_ld L i = some v) : ls[i]? = some (.val (mm_tv φ v)) := h.2.2 _ (mm_prs_in hi)
theorem mm_tv_cat (φ : Nat → Nat) (v : Value) : (mm_tv φ v).category = v.category := by cases v <;> rfl
theorem mm_lv_mono {ls : Array Slot} {nL : Nat} {l l' : List (Nat × Value)} (h : lv_has ls nL l) (hs : ∀ q ∈ l', q ∈ l) : lv_has ls nL l' := ⟨h.1, h.2.1, fun q hq => h.2.2 q (hs q hq)⟩
theorem mm_ld_set {L : mm_L} {i j : Nat} {x : Option Value} {w : Value} (h : mm_ld (L.set i x) j = some w) : (j = i ∧ x = some w) ∨ (j ≠ i ∧ mm_ld L j = some w) := by
  unfold mm_ld at h ⊢
  rw [List.getElem?_set] at h
  by_cases hij : i = j
  · subst hij
    by_cases hl : i < L.length
    · rw [if_pos rfl, if_pos hl] at h
      exact Or.inl ⟨rfl, by simpa using h⟩
    · rw [if_pos rfl, if_neg hl] at h
      cases h
  · rw [if_neg hij] at h
    exact Or.inr ⟨Ne.symm hij, h⟩
theorem mm_ld_cut {L : mm_L} {i j : Nat} {w : Value} (h : mm_ld (mm_cut L i) j = some w) : mm_ld L j = some w ∧ ¬ (j + 1 = i ∧ w.category = 2) := by
  cases i with
  | zero => exact ⟨h, by omega⟩
  | succ i =>
    simp only [mm_cut] at h
    split at h
    · rcases mm_ld_set h with ⟨-, h2⟩ | ⟨h1, h2⟩
      · cases h2
      · exact ⟨h2, by omega⟩
    · rcases mm_ld_set h with ⟨-, h2⟩ | ⟨h1, h2⟩
      · cases h2
      · exact ⟨h2, by omega⟩
    · rename_i n1 n2
      refine ⟨h, fun ⟨e1, e2⟩ => ?_⟩
      have : j = i := by omega
      subst this
      cases w with
      | long x => exact n1 x h
      | double x => exact n2 x h
      | int x => simp [Value.category] at e2
      | float x => simp [Value.category] at e2
      | null => simp [Value.category] at e2
      | ref x => simp [Value.category] at e2
      | retAddr x => simp [Value.category] at e2
theorem mm_lv_s1 {φ : Nat → Nat} {ls : Array Slot} {nL : Nat} {L : mm_L} {i : Nat} {v : Value} (h : lv_has ls nL ((i, mm_tv φ v) :: (mm_prs φ L).filter (fun q => !(q.1 == i) && !(q.1 + 1 == i && q.2.category == 2)))) : lv_has ls nL (mm_prs φ (mm_s1 L i v)) := by
  refine mm_lv_mono h fun q hq => ?_
  obtain ⟨w, hw, hq2⟩ := mm_prs_of hq
  obtain ⟨j, x⟩ := q
  dsimp only at hw hq2
  subst hq2
  unfold mm_s1 at hw
  rcases mm_ld_set hw with ⟨h1, h2⟩ | ⟨h1, h2⟩
  · cases h2
    subst h1
    exact List.mem_cons_self
  · obtain ⟨h3, h4⟩ := mm_ld_cut h2
    refine List.mem_cons_of_mem _ (List.mem_filter.mpr ⟨mm_prs_in h3, ?_⟩)
    simp only [mm_tv_cat, Bool.and_eq_true, Bool.not_eq_true', beq_eq_false_iff_ne, ne_eq, Bool.and_eq_false_iff]
    refine ⟨h1, ?_⟩
    by_cases e : j + 1 = i
    · exact Or.inr fun z => h4 ⟨e, z⟩
    · exact Or.inl e
theorem mm_lv_s2 {φ : Nat → Nat} {ls : Array Slot} {nL : Nat} {L : mm_L} {i : Nat} {v : Value} (h : lv_has ls nL ((i, mm_tv φ v) :: (mm_prs φ L).filter (fun q => !(q.1 == i) && (!(q.1 == i + 1) && !(q.1 + 1 == i && q.2.category == 2))))) : lv_has ls nL (mm_prs φ (mm_s2 L i v)) := by
  refine mm_lv_mono h fun q hq => ?_
  obtain ⟨w, hw, hq2⟩ := mm_prs_of hq
  obtain ⟨j, x⟩ := q
  dsimp only at hw hq2
  subst hq2
  unfold mm_s2 at hw
  rcases mm_ld_set hw with ⟨-, h2⟩ | ⟨h0, hw⟩
  · cases h2
  rcases mm_ld_set hw with ⟨h1, h2⟩ | ⟨h1, h2⟩
  · cases h2
    subst h1
    exact List.mem_cons_self
  · obtain ⟨h3, h4⟩ := mm_ld_cut h2
    refine List.mem_cons_of_mem _ (List.mem_filter.mpr ⟨mm_prs_in h3, ?_⟩)
    simp only [mm_tv_cat, Bool.and_eq_true, Bool.not_eq_true', beq_eq_false_iff_ne, ne_eq, Bool.and_eq_false_iff]
    refine ⟨h1, h0, ?_⟩
    by_cases e : j + 1 = i
    · exact Or.inr fun z => h4 ⟨e, z⟩
    · exact Or.inl e
