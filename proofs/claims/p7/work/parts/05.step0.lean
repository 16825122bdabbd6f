section MB5
variable {p : Program} {l : Launch} {e : Env} {R : Room} {s : State} {m : MethodId} {args : Array Value} {below : List Frame} {meth : Method} {c : Code} {Q : State → Prop}
variable {D : va_G} {cl : List vw_C} {tys : List (ClassId × FieldType)} {φ : Nat → Nat} {B : Nat} {S0 : mm_S} {nL : Nat} {cc : ByteArray}
theorem ms_aconst_null (hx : p.tables.exec = Jvm.exec) (hb : c.code = cc) {pc nx tg : Nat} {L : mm_L} {st : List Value} {S : mm_S} {k : mm_Kf} (ho : mm_ok cc pc (.aconst_null) nx tg) (h : mm_st0 (.aconst_null) pc nx tg L st S = some k) (kk : mm_At p l e R s m args below meth c Q D cl tys φ B S0 nL k) : mm_At p l e R s m args below meth c Q D cl tys φ B S0 nL (pc, L, st, S) := by
  obtain ⟨⟨len, hd, rfl, hl⟩, ht⟩ := ho
  have hl : len = 1 := hl (fun _ _ _ _ q => by cases q) (fun _ _ q => by cases q)
  subst hl
  cases h
  exact mm_pure (fun ls H locs _ _ _ q => lv_null hx hb hd q) kk
theorem ms_iconst (hx : p.tables.exec = Jvm.exec) (hb : c.code = cc) {pc nx tg : Nat} {L : mm_L} {st : List Value} {S : mm_S} {k : mm_Kf} {n : Int} (ho : mm_ok cc pc (.iconst n) nx tg) (h : mm_st0 (.iconst n) pc nx tg L st S = some k) (kk : mm_At p l e R s m args below meth c Q D cl tys φ B S0 nL k) : mm_At p l e R s m args below meth c Q D cl tys φ B S0 nL (pc, L, st, S) := by
  obtain ⟨⟨len, hd, rfl, hl⟩, ht⟩ := ho
  have hl : len = 1 := hl (fun _ _ _ _ q => by cases q) (fun _ _ q => by cases q)
  subst hl
  cases h
  exact mm_pure (fun ls H locs _ _ _ q => lv_iconst hx hb hd rfl q) kk
theorem ms_bipush (hx : p.tables.exec = Jvm.exec) (hb : c.code = cc) {pc nx tg : Nat} {L : mm_L} {st : List Value} {S : mm_S} {k : mm_Kf} {n : Int} (ho : mm_ok cc pc (.bipush n) nx tg) (h : mm_st0 (.bipush n) pc nx tg L st S = some k) (kk : mm_At p l e R s m args below meth c Q D cl tys φ B S0 nL k) : mm_At p l e R s m args below meth c Q D cl tys φ B S0 nL (pc, L, st, S) := by
  obtain ⟨⟨len, hd, rfl, hl⟩, ht⟩ := ho
  have hl : len = 2 := hl (fun _ _ _ _ q => by cases q) (fun _ _ q => by cases q)
  subst hl
  cases h
  exact mm_pure (fun ls H locs _ _ _ q => lv_bipush hx hb hd rfl q) kk
theorem ms_sipush (hx : p.tables.exec = Jvm.exec) (hb : c.code = cc) {pc nx tg : Nat} {L : mm_L} {st : List Value} {S : mm_S} {k : mm_Kf} {n : Int} (ho : mm_ok cc pc (.sipush n) nx tg) (h : mm_st0 (.sipush n) pc nx tg L st S = some k) (kk : mm_At p l e R s m args below meth c Q D cl tys φ B S0 nL k) : mm_At p l e R s m args below meth c Q D cl tys φ B S0 nL (pc, L, st, S) := by
  obtain ⟨⟨len, hd, rfl, hl⟩, ht⟩ := ho
  have hl : len = 3 := hl (fun _ _ _ _ q => by cases q) (fun _ _ q => by cases q)
  subst hl
  cases h
  exact mm_pure (fun ls H locs _ _ _ q => lv_sipush hx hb hd rfl q) kk
theorem ms_lconst (hx : p.tables.exec = Jvm.exec) (hb : c.code = cc) {pc nx tg : Nat} {L : mm_L} {st : List Value} {S : mm_S} {k : mm_Kf} {n : Fin 2} (ho : mm_ok cc pc (.lconst n) nx tg) (h : mm_st0 (.lconst n) pc nx tg L st S = some k) (kk : mm_At p l e R s m args below meth c Q D cl tys φ B S0 nL k) : mm_At p l e R s m args below meth c Q D cl tys φ B S0 nL (pc, L, st, S) := by
  obtain ⟨⟨len, hd, rfl, hl⟩, ht⟩ := ho
  have hl : len = 1 := hl (fun _ _ _ _ q => by cases q) (fun _ _ q => by cases q)
  subst hl
  cases h
  exact mm_pure (fun ls H locs _ _ _ q => lv_lconst hx hb hd rfl q) kk
theorem ms_iload (hx : p.tables.exec = Jvm.exec) (hb : c.code = cc) {pc nx tg : Nat} {L : mm_L} {st : List Value} {S : mm_S} {k : mm_Kf} {j : Nat} (ho : mm_ok cc pc (.iload j) nx tg) (h : mm_st0 (.iload j) pc nx tg L st S = some k) (kk : mm_At p l e R s m args below meth c Q D cl tys φ B S0 nL k) : mm_At p l e R s m args below meth c Q D cl tys φ B S0 nL (pc, L, st, S) := by
  obtain ⟨⟨len, hd, rfl, hl⟩, ht⟩ := ho
  have hl : len = 2 := hl (fun _ _ _ _ q => by cases q) (fun _ _ q => by cases q)
  subst hl
  have h : mm_lI L j _ st S = some k := h
  unfold mm_lI at h
  split at h
  · rename_i x hv
    cases h
    exact mm_pure (fun ls H locs _ _ hh q => lv_iload hx hb hd (mm_lv_at hh hv) q) kk
  · cases h
theorem ms_iload_n (hx : p.tables.exec = Jvm.exec) (hb : c.code = cc) {pc nx tg : Nat} {L : mm_L} {st : List Value} {S : mm_S} {k : mm_Kf} {j : Fin 4} (ho : mm_ok cc pc (.iload_n j) nx tg) (h : mm_st0 (.iload_n j) pc nx tg L st S = some k) (kk : mm_At p l e R s m args below meth c Q D cl tys φ B S0 nL k) : mm_At p l e R s m args below meth c Q D cl tys φ B S0 nL (pc, L, st, S) := by
  obtain ⟨⟨len, hd, rfl, hl⟩, ht⟩ := ho
  have hl : len = 1 := hl (fun _ _ _ _ q => by cases q) (fun _ _ q => by cases q)
  subst hl
  have h : mm_lI L (j : Nat) _ st S = some k := h
  unfold mm_lI at h
  split at h
  · rename_i x hv
    cases h
    exact mm_pure (fun ls H locs _ _ hh q => lv_iload_n hx hb hd rfl (mm_lv_at hh hv) q) kk
  · cases h
theorem ms_lload (hx : p.tables.exec = Jvm.exec) (hb : c.code = cc) {pc nx tg : Nat} {L : mm_L} {st : List Value} {S : mm_S} {k : mm_Kf} {j : Nat} (ho : mm_ok cc pc (.lload j) nx tg) (h : mm_st0 (.lload j) pc nx tg L st S = some k) (kk : mm_At p l e R s m args below meth c Q D cl tys φ B S0 nL k) : mm_At p l e R s m args below meth c Q D cl tys φ B S0 nL (pc, L, st, S) := by
  obtain ⟨⟨len, hd, rfl, hl⟩, ht⟩ := ho
  have hl : len = 2 := hl (fun _ _ _ _ q => by cases q) (fun _ _ q => by cases q)
  subst hl
  have h : mm_lJ L j _ st S = some k := h
  unfold mm_lJ at h
  split at h
  · rename_i x hv
    cases h
    exact mm_pure (fun ls H locs _ _ hh q => lv_lload hx hb hd (mm_lv_at hh hv) q) kk
  · cases h
theorem ms_lload_n (hx : p.tables.exec = Jvm.exec) (hb : c.code = cc) {pc nx tg : Nat} {L : mm_L} {st : List Value} {S : mm_S} {k : mm_Kf} {j : Fin 4} (ho : mm_ok cc pc (.lload_n j) nx tg) (h : mm_st0 (.lload_n j) pc nx tg L st S = some k) (kk : mm_At p l e R s m args below meth c Q D cl tys φ B S0 nL k) : mm_At p l e R s m args below meth c Q D cl tys φ B S0 nL (pc, L, st, S) := by
  obtain ⟨⟨len, hd, rfl, hl⟩, ht⟩ := ho
  have hl : len = 1 := hl (fun _ _ _ _ q => by cases q) (fun _ _ q => by cases q)
  subst hl
  have h : mm_lJ L (j : Nat) _ st S = some k := h
  unfold mm_lJ at h
  split at h
  · rename_i x hv
    cases h
    exact mm_pure (fun ls H locs _ _ hh q => lv_lload_n hx hb hd rfl (mm_lv_at hh hv) q) kk
  · cases h
theorem ms_aload (hx : p.tables.exec = Jvm.exec) (hb : c.code = cc) {pc nx tg : Nat} {L : mm_L} {st : List Value} {S : mm_S} {k : mm_Kf} {j : Nat} (ho : mm_ok cc pc (.aload j) nx tg) (h : mm_st0 (.aload j) pc nx tg L st S = some k) (kk : mm_At p l e R s m args below meth c Q D cl tys φ B S0 nL k) : mm_At p l e R s m args below meth c Q D cl tys φ B S0 nL (pc, L, st, S) := by
  obtain ⟨⟨len, hd, rfl, hl⟩, ht⟩ := ho
  have hl : len = 2 := hl (fun _ _ _ _ q => by cases q) (fun _ _ q => by cases q)
  subst hl
  have h : mm_lA L j _ st S = some k := h
  unfold mm_lA at h
  split at h
  · rename_i x hv
    cases h
    exact mm_pure (fun ls H locs _ _ hh q => lv_aload hx hb hd (mm_lv_at hh hv) q) kk
  · rename_i hv
    cases h
    exact mm_pure (fun ls H locs _ _ hh q => lv_aloadN hx hb hd (mm_lv_at hh hv) q) kk
  · cases h
theorem ms_aload_n (hx : p.tables.exec = Jvm.exec) (hb : c.code = cc) {pc nx tg : Nat} {L : mm_L} {st : List Value} {S : mm_S} {k : mm_Kf} {j : Fin 4} (ho : mm_ok cc pc (.aload_n j) nx tg) (h : mm_st0 (.aload_n j) pc nx tg L st S = some k) (kk : mm_At p l e R s m args below meth c Q D cl tys φ B S0 nL k) : mm_At p l e R s m args below meth c Q D cl tys φ B S0 nL (pc, L, st, S) := by
  obtain ⟨⟨len, hd, rfl, hl⟩, ht⟩ := ho
  have hl : len = 1 := hl (fun _ _ _ _ q => by cases q) (fun _ _ q => by cases q)
  subst hl
  have h : mm_lA L (j : Nat) _ st S = some k := h
  unfold mm_lA at h
  split at h
  · rename_i x hv
    cases h
    exact mm_pure (fun ls H locs _ _ hh q => lv_aload_n hx hb hd rfl (mm_lv_at hh hv) q) kk
  · rename_i hv
    cases h
    exact mm_pure (fun ls H locs _ _ hh q => lv_aload_nN hx hb hd rfl (mm_lv_at hh hv) q) kk
  · cases h
theorem mm_len_s1 (L : mm_L) (i : Nat) (v : Value) : (mm_s1 L i v).length = L.length := by
  unfold mm_s1
  rw [List.length_set]
  cases i with
  | zero => rfl
  | succ i => simp only [mm_cut]; split <;> simp
theorem mm_len_s2 (L : mm_L) (i : Nat) (v : Value) : (mm_s2 L i v).length = L.length := by
  unfold mm_s2
  rw [List.length_set, List.length_set]
  cases i with
  | zero => rfl
  | succ i => simp only [mm_cut]; split <;> simp
theorem ms_istore (hx : p.tables.exec = Jvm.exec) (hb : c.code = cc) {pc nx tg : Nat} {L : mm_L} {st : List Value} {S : mm_S} {k : mm_Kf} {j : Nat} (ho : mm_ok cc pc (.istore j) nx tg) (h : mm_st0 (.istore j) pc nx tg L st S = some k) (kk : mm_At p l e R s m args below meth c Q D cl tys φ B S0 nL k) : mm_At p l e R s m args below meth c Q D cl tys φ B S0 nL (pc, L, st, S) := by
  obtain ⟨⟨len, hd, rfl, hl⟩, ht⟩ := ho
  have hl : len = 2 := hl (fun _ _ _ _ q => by cases q) (fun _ _ q => by cases q)
  subst hl
  have h : mm_sI L j _ st S = some k := h
  unfold mm_sI at h
  split at h
  · rename_i x r
    split at h
    · rename_i hlt
      cases h
      intro ls H locs h1 h0 h2 h3 h4 h5
      have h0 : L.length = nL := h0
      exact lv_istore hx hb hd h1 (by omega) rfl (fun ls' hl' => kk ls' H locs (mm_lv_s1 hl') (by rw [mm_len_s1]; exact h0) h2 h3 h4 h5)
    · cases h
  · cases h
theorem ms_istore_n (hx : p.tables.exec = Jvm.exec) (hb : c.code = cc) {pc nx tg : Nat} {L : mm_L} {st : List Value} {S : mm_S} {k : mm_Kf} {j : Fin 4} (ho : mm_ok cc pc (.istore_n j) nx tg) (h : mm_st0 (.istore_n j) pc nx tg L st S = some k) (kk : mm_At p l e R s m args below meth c Q D cl tys φ B S0 nL k) : mm_At p l e R s m args below meth c Q D cl tys φ B S0 nL (pc, L, st, S) := by
  obtain ⟨⟨len, hd, rfl, hl⟩, ht⟩ := ho
  have hl : len = 1 := hl (fun _ _ _ _ q => by cases q) (fun _ _ q => by cases q)
  subst hl
  have h : mm_sI L (j : Nat) _ st S = some k := h
  unfold mm_sI at h
  split at h
  · rename_i x r
    split at h
    · rename_i hlt
      cases h
      intro ls H locs h1 h0 h2 h3 h4 h5
      have h0 : L.length = nL := h0
      exact lv_istore_n hx hb hd rfl h1 (by omega) rfl (fun ls' hl' => kk ls' H locs (mm_lv_s1 hl') (by rw [mm_len_s1]; exact h0) h2 h3 h4 h5)
    · cases h
  · cases h
theorem ms_lstore (hx : p.tables.exec = Jvm.exec) (hb : c.code = cc) {pc nx tg : Nat} {L : mm_L} {st : List Value} {S : mm_S} {k : mm_Kf} {j : Nat} (ho : mm_ok cc pc (.lstore j) nx tg) (h : mm_st0 (.lstore j) pc nx tg L st S = some k) (kk : mm_At p l e R s m args below meth c Q D cl tys φ B S0 nL k) : mm_At p l e R s m args below meth c Q D cl tys φ B S0 nL (pc, L, st, S) := by
  obtain ⟨⟨len, hd, rfl, hl⟩, ht⟩ := ho
  have hl : len = 2 := hl (fun _ _ _ _ q => by cases q) (fun _ _ q => by cases q)
  subst hl
  have h : mm_sJ L j _ st S = some k := h
  unfold mm_sJ at h
  split at h
  · rename_i x r
    split at h
    · rename_i hlt
      cases h
      intro ls H locs h1 h0 h2 h3 h4 h5
      have h0 : L.length = nL := h0
      exact lv_lstore hx hb hd h1 (by omega) rfl (fun ls' hl' => kk ls' H locs (mm_lv_s2 hl') (by rw [mm_len_s2]; exact h0) h2 h3 h4 h5)
    · cases h
  · cases h
theorem ms_lstore_n (hx : p.tables.exec = Jvm.exec) (hb : c.code = cc) {pc nx tg : Nat} {L : mm_L} {st : List Value} {S : mm_S} {k : mm_Kf} {j : Fin 4} (ho : mm_ok cc pc (.lstore_n j) nx tg) (h : mm_st0 (.lstore_n j) pc nx tg L st S = some k) (kk : mm_At p l e R s m args below meth c Q D cl tys φ B S0 nL k) : mm_At p l e R s m args below meth c Q D cl tys φ B S0 nL (pc, L, st, S) := by
  obtain ⟨⟨len, hd, rfl, hl⟩, ht⟩ := ho
  have hl : len = 1 := hl (fun _ _ _ _ q => by cases q) (fun _ _ q => by cases q)
  subst hl
  have h : mm_sJ L (j : Nat) _ st S = some k := h
  unfold mm_sJ at h
  split at h
  · rename_i x r
    split at h
    · rename_i hlt
      cases h
      intro ls H locs h1 h0 h2 h3 h4 h5
      have h0 : L.length = nL := h0
      exact lv_lstore_n hx hb hd rfl h1 (by omega) rfl (fun ls' hl' => kk ls' H locs (mm_lv_s2 hl') (by rw [mm_len_s2]; exact h0) h2 h3 h4 h5)
    · cases h
  · cases h
theorem ms_astore (hx : p.tables.exec = Jvm.exec) (hb : c.code = cc) {pc nx tg : Nat} {L : mm_L} {st : List Value} {S : mm_S} {k : mm_Kf} {j : Nat} (ho : mm_ok cc pc (.astore j) nx tg) (h : mm_st0 (.astore j) pc nx tg L st S = some k) (kk : mm_At p l e R s m args below meth c Q D cl tys φ B S0 nL k) : mm_At p l e R s m args below meth c Q D cl tys φ B S0 nL (pc, L, st, S) := by
  obtain ⟨⟨len, hd, rfl, hl⟩, ht⟩ := ho
  have hl : len = 2 := hl (fun _ _ _ _ q => by cases q) (fun _ _ q => by cases q)
  subst hl
  have h : mm_sA L j _ st S = some k := h
  unfold mm_sA at h
  split at h
  · rename_i x r
    split at h
    · rename_i hlt
      cases h
      intro ls H locs h1 h0 h2 h3 h4 h5
      have h0 : L.length = nL := h0
      exact lv_astore hx hb hd h1 (by omega) rfl (fun ls' hl' => kk ls' H locs (mm_lv_s1 (v := .ref _) hl') (by rw [mm_len_s1]; exact h0) h2 h3 h4 h5)
    · cases h
  · rename_i r
    split at h
    · rename_i hlt
      cases h
      intro ls H locs h1 h0 h2 h3 h4 h5
      have h0 : L.length = nL := h0
      exact lv_astoreN hx hb hd h1 (by omega) rfl (fun ls' hl' => kk ls' H locs (mm_lv_s1 (v := .null) hl') (by rw [mm_len_s1]; exact h0) h2 h3 h4 h5)
    · cases h
  · cases h
theorem ms_astore_n (hx : p.tables.exec = Jvm.exec) (hb : c.code = cc) {pc nx tg : Nat} {L : mm_L} {st : List Value} {S : mm_S} {k : mm_Kf} {j : Fin 4} (ho : mm_ok cc pc (.astore_n j) nx tg) (h : mm_st0 (.astore_n j) pc nx tg L st S = some k) (kk : mm_At p l e R s m args below meth c Q D cl tys φ B S0 nL k) : mm_At p l e R s m args below meth c Q D cl tys φ B S0 nL (pc, L, st, S) := by
  obtain ⟨⟨len, hd, rfl, hl⟩, ht⟩ := ho
  have hl : len = 1 := hl (fun _ _ _ _ q => by cases q) (fun _ _ q => by cases q)
  subst hl
  have h : mm_sA L (j : Nat) _ st S = some k := h
  unfold mm_sA at h
  split at h
  · rename_i x r
    split at h
    · rename_i hlt
      cases h
      intro ls H locs h1 h0 h2 h3 h4 h5
      have h0 : L.length = nL := h0
      exact lv_astore_n hx hb hd rfl h1 (by omega) rfl (fun ls' hl' => kk ls' H locs (mm_lv_s1 (v := .ref _) hl') (by rw [mm_len_s1]; exact h0) h2 h3 h4 h5)
    · cases h
  · rename_i r
    split at h
    · rename_i hlt
      cases h
      intro ls H locs h1 h0 h2 h3 h4 h5
      have h0 : L.length = nL := h0
      exact lv_astore_nN hx hb hd rfl h1 (by omega) rfl (fun ls' hl' => kk ls' H locs (mm_lv_s1 (v := .null) hl') (by rw [mm_len_s1]; exact h0) h2 h3 h4 h5)
    · cases h
  · cases h
theorem ms_iinc (hx : p.tables.exec = Jvm.exec) (hb : c.code = cc) {pc nx tg : Nat} {L : mm_L} {st : List Value} {S : mm_S} {k : mm_Kf} {j : Nat} {n : Int} (ho : mm_ok cc pc (.iinc j n) nx tg) (h : mm_st0 (.iinc j n) pc nx tg L st S = some k) (kk : mm_At p l e R s m args below meth c Q D cl tys φ B S0 nL k) : mm_At p l e R s m args below meth c Q D cl tys φ B S0 nL (pc, L, st, S) := by
  obtain ⟨⟨len, hd, rfl, hl⟩, ht⟩ := ho
  have hl : len = 3 := hl (fun _ _ _ _ q => by cases q) (fun _ _ q => by cases q)
  subst hl
  have h : mm_inc L j n _ st S = some k := h
  unfold mm_inc at h
  split at h
  · rename_i x hv
    split at h
    · rename_i hlt
      cases h
      intro ls H locs h1 h0 h2 h3 h4 h5
      have h0 : L.length = nL := h0
      obtain ⟨q, hq⟩ := List.getElem?_of_mem (mm_prs_in (φ := φ) hv)
      exact lv_iinc hx hb hd h1 (k := q) hq rfl (by omega) rfl (fun ls' hl' => kk ls' H locs (mm_lv_s1 (v := .int (x + Int32.ofInt n)) hl') (by rw [mm_len_s1]; exact h0) h2 h3 h4 h5)
    · cases h
  · cases h
theorem ms_ifCond (hx : p.tables.exec = Jvm.exec) (hb : c.code = cc) {pc nx tg : Nat} {L : mm_L} {st : List Value} {S : mm_S} {k : mm_Kf} {o : ClassFile.Cond} {off : Int} (ho : mm_ok cc pc (.ifCond o off) nx tg) (h : mm_st0 (.ifCond o off) pc nx tg L st S = some k) (kk : mm_At p l e R s m args below meth c Q D cl tys φ B S0 nL k) : mm_At p l e R s m args below meth c Q D cl tys φ B S0 nL (pc, L, st, S) := by
  obtain ⟨⟨len, hd, rfl, hl⟩, ht⟩ := ho
  have hl : len = 3 := hl (fun _ _ _ _ q => by cases q) (fun _ _ q => by cases q)
  subst hl
  have ht : (pc : Int) + off = (tg : Int) := ht
  have h : mm_if1 o _ tg L st S = some k := h
  unfold mm_if1 at h
  split at h
  · cases h
    intro ls H locs h1 h0 h2 h3 h4 h5
    have kk := kk ls H locs h1 h0 h2 h3 h4 h5
    cases o with
    | eq =>
      refine lv_if_eq hx hb hd ht (fun q => ?_) (fun q => ?_)
      · simpa [mm_icmp, q] using kk
      · simpa [mm_icmp, q] using kk
    | ne =>
      refine lv_if_ne hx hb hd ht (fun q => ?_) (fun q => ?_)
      · simpa [mm_icmp, q] using kk
      · simpa [mm_icmp, q] using kk
    | lt =>
      refine lv_if_lt hx hb hd ht (fun q => ?_) (fun q => ?_)
      · simpa [mm_icmp, q] using kk
      · simpa [mm_icmp, q] using kk
    | ge =>
      refine lv_if_ge hx hb hd ht (fun q => ?_) (fun q => ?_)
      · simpa [mm_icmp, q] using kk
      · simpa [mm_icmp, q] using kk
    | gt =>
      refine lv_if_gt hx hb hd ht (fun q => ?_) (fun q => ?_)
      · simpa [mm_icmp, q] using kk
      · simpa [mm_icmp, q] using kk
    | le =>
      refine lv_if_le hx hb hd ht (fun q => ?_) (fun q => ?_)
      · simpa [mm_icmp, q] using kk
      · simpa [mm_icmp, q] using kk
  · cases h
theorem ms_if_icmp (hx : p.tables.exec = Jvm.exec) (hb : c.code = cc) {pc nx tg : Nat} {L : mm_L} {st : List Value} {S : mm_S} {k : mm_Kf} {o : ClassFile.Cond} {off : Int} (ho : mm_ok cc pc (.if_icmp o off) nx tg) (h : mm_st0 (.if_icmp o off) pc nx tg L st S = some k) (kk : mm_At p l e R s m args below meth c Q D cl tys φ B S0 nL k) : mm_At p l e R s m args below meth c Q D cl tys φ B S0 nL (pc, L, st, S) := by
  obtain ⟨⟨len, hd, rfl, hl⟩, ht⟩ := ho
  have hl : len = 3 := hl (fun _ _ _ _ q => by cases q) (fun _ _ q => by cases q)
  subst hl
  have ht : (pc : Int) + off = (tg : Int) := ht
  have h : mm_if2 o _ tg L st S = some k := h
  unfold mm_if2 at h
  split at h
  · cases h
    intro ls H locs h1 h0 h2 h3 h4 h5
    have kk := kk ls H locs h1 h0 h2 h3 h4 h5
    cases o with
    | eq =>
      refine lv_icmp_eq hx hb hd ht (fun q => ?_) (fun q => ?_)
      · simpa [mm_icmp, q] using kk
      · simpa [mm_icmp, q] using kk
    | ne =>
      refine lv_icmp_ne hx hb hd ht (fun q => ?_) (fun q => ?_)
      · simpa [mm_icmp, q] using kk
      · simpa [mm_icmp, q] using kk
    | lt =>
      refine lv_icmp_lt hx hb hd ht (fun q => ?_) (fun q => ?_)
      · simpa [mm_icmp, q] using kk
      · simpa [mm_icmp, q] using kk
    | ge =>
      refine lv_icmp_ge hx hb hd ht (fun q => ?_) (fun q => ?_)
      · simpa [mm_icmp, q] using kk
      · simpa [mm_icmp, q] using kk
    | gt =>
      refine lv_icmp_gt hx hb hd ht (fun q => ?_) (fun q => ?_)
      · simpa [mm_icmp, q] using kk
      · simpa [mm_icmp, q] using kk
    | le =>
      refine lv_icmp_le hx hb hd ht (fun q => ?_) (fun q => ?_)
      · simpa [mm_icmp, q] using kk
      · simpa [mm_icmp, q] using kk
  · cases h
theorem ms_goto (hx : p.tables.exec = Jvm.exec) (hb : c.code = cc) {pc nx tg : Nat} {L : mm_L} {st : List Value} {S : mm_S} {k : mm_Kf} {off : Int} (ho : mm_ok cc pc (.goto off) nx tg) (h : mm_st0 (.goto off) pc nx tg L st S = some k) (kk : mm_At p l e R s m args below meth c Q D cl tys φ B S0 nL k) : mm_At p l e R s m args below meth c Q D cl tys φ B S0 nL (pc, L, st, S) := by
  obtain ⟨⟨len, hd, rfl, hl⟩, ht⟩ := ho
  have hl : len = 3 := hl (fun _ _ _ _ q => by cases q) (fun _ _ q => by cases q)
  subst hl
  have ht : (pc : Int) + off = (tg : Int) := ht
  cases h
  exact mm_pure (fun ls H locs _ _ _ q => lv_goto hx hb hd ht q) kk
theorem ms_dup (hx : p.tables.exec = Jvm.exec) (hb : c.code = cc) {pc nx tg : Nat} {L : mm_L} {st : List Value} {S : mm_S} {k : mm_Kf} (ho : mm_ok cc pc (.dup) nx tg) (h : mm_st0 (.dup) pc nx tg L st S = some k) (kk : mm_At p l e R s m args below meth c Q D cl tys φ B S0 nL k) : mm_At p l e R s m args below meth c Q D cl tys φ B S0 nL (pc, L, st, S) := by
  obtain ⟨⟨len, hd, rfl, hl⟩, ht⟩ := ho
  have hl : len = 1 := hl (fun _ _ _ _ q => by cases q) (fun _ _ q => by cases q)
  subst hl
  have h : mm_dup _ L st S = some k := h
  unfold mm_dup at h
  split at h
  · split at h
    · rename_i v r hc
      cases h
      exact mm_pure (fun ls H locs _ _ _ q => lv_dup hx hb hd (by rw [mm_tv_cat]; exact hc) q) kk
    · cases h
  · cases h
theorem ms_pop (hx : p.tables.exec = Jvm.exec) (hb : c.code = cc) {pc nx tg : Nat} {L : mm_L} {st : List Value} {S : mm_S} {k : mm_Kf} (ho : mm_ok cc pc (.pop) nx tg) (h : mm_st0 (.pop) pc nx tg L st S = some k) (kk : mm_At p l e R s m args below meth c Q D cl tys φ B S0 nL k) : mm_At p l e R s m args below meth c Q D cl tys φ B S0 nL (pc, L, st, S) := by
  obtain ⟨⟨len, hd, rfl, hl⟩, ht⟩ := ho
  have hl : len = 1 := hl (fun _ _ _ _ q => by cases q) (fun _ _ q => by cases q)
  subst hl
  have h : mm_pop _ L st S = some k := h
  unfold mm_pop at h
  split at h
  · split at h
    · rename_i v r hc
      cases h
      exact mm_pure (fun ls H locs _ _ _ q => lv_pop hx hb hd (by rw [mm_tv_cat]; exact hc) q) kk
    · cases h
  · cases h
theorem ms_dup_x1 (hx : p.tables.exec = Jvm.exec) (hb : c.code = cc) {pc nx tg : Nat} {L : mm_L} {st : List Value} {S : mm_S} {k : mm_Kf} (ho : mm_ok cc pc (.dup_x1) nx tg) (h : mm_st0 (.dup_x1) pc nx tg L st S = some k) (kk : mm_At p l e R s m args below meth c Q D cl tys φ B S0 nL k) : mm_At p l e R s m args below meth c Q D cl tys φ B S0 nL (pc, L, st, S) := by
  obtain ⟨⟨len, hd, rfl, hl⟩, ht⟩ := ho
  have hl : len = 1 := hl (fun _ _ _ _ q => by cases q) (fun _ _ q => by cases q)
  subst hl
  have h : mm_dx1 _ L st S = some k := h
  unfold mm_dx1 at h
  split at h
  · split at h
    · rename_i v u r hc
      cases h
      exact mm_pure (fun ls H locs _ _ _ q => lv_dup_x1 hx hb hd (by rw [mm_tv_cat]; exact hc.1) (by rw [mm_tv_cat]; exact hc.2) q) kk
    · cases h
  · cases h
theorem ms_dup2 (hx : p.tables.exec = Jvm.exec) (hb : c.code = cc) {pc nx tg : Nat} {L : mm_L} {st : List Value} {S : mm_S} {k : mm_Kf} (ho : mm_ok cc pc (.dup2) nx tg) (h : mm_st0 (.dup2) pc nx tg L st S = some k) (kk : mm_At p l e R s m args below meth c Q D cl tys φ B S0 nL k) : mm_At p l e R s m args below meth c Q D cl tys φ B S0 nL (pc, L, st, S) := by
  obtain ⟨⟨len, hd, rfl, hl⟩, ht⟩ := ho
  have hl : len = 1 := hl (fun _ _ _ _ q => by cases q) (fun _ _ q => by cases q)
  subst hl
  have h : mm_dp2 _ L st S = some k := h
  unfold mm_dp2 at h
  split at h
  · split at h
    · rename_i v u r hc
      cases h
      exact mm_pure (fun ls H locs _ _ _ q => lv_dup2_11 hx hb hd (by rw [mm_tv_cat]; exact hc.1) (by rw [mm_tv_cat]; exact hc.2) q) kk
    · cases h
  · cases h
theorem ms_tableswitch (hx : p.tables.exec = Jvm.exec) (hb : c.code = cc) {pc nx tg : Nat} {L : mm_L} {st : List Value} {S : mm_S} {k : mm_Kf} {df lo hi : Int} {offs : Array Int} (ho : mm_ok cc pc (.tableswitch df lo hi offs) nx tg) (h : mm_st0 (.tableswitch df lo hi offs) pc nx tg L st S = some k) (kk : mm_At p l e R s m args below meth c Q D cl tys φ B S0 nL k) : mm_At p l e R s m args below meth c Q D cl tys φ B S0 nL (pc, L, st, S) := by
  obtain ⟨⟨len, hd, rfl, -⟩, -⟩ := ho
  have h : mm_tsw pc df lo hi offs L st S = some k := h
  unfold mm_tsw at h
  split at h
  · split at h
    · rename_i hc
      split at h
      · rename_i hp
        cases h
        exact mm_pure (fun ls H locs _ _ _ q => lv_tableOut hx hb hd hc (by omega) q) kk
      · cases h
    · rename_i hc
      split at h
      · rename_i off hoff
        split at h
        · rename_i hp
          cases h
          exact mm_pure (fun ls H locs _ _ _ q => lv_tableIn hx hb hd (fun z => hc (Or.inl z)) (fun z => hc (Or.inr z)) hoff (by omega) q) kk
        · cases h
      · cases h
  · cases h
theorem ms_ixor (hx : p.tables.exec = Jvm.exec) (hb : c.code = cc) {pc nx tg : Nat} {L : mm_L} {st : List Value} {S : mm_S} {k : mm_Kf} (ho : mm_ok cc pc (.ixor) nx tg) (h : mm_st0 (.ixor) pc nx tg L st S = some k) (kk : mm_At p l e R s m args below meth c Q D cl tys φ B S0 nL k) : mm_At p l e R s m args below meth c Q D cl tys φ B S0 nL (pc, L, st, S) := by
  obtain ⟨⟨len, hd, rfl, hl⟩, ht⟩ := ho
  have hl : len = 1 := hl (fun _ _ _ _ q => by cases q) (fun _ _ q => by cases q)
  subst hl
  obtain ⟨st', h1, rfl⟩ := mm_mp_inv (show mm_mp _ _ _ _ = some k from h)
  obtain ⟨x, y, r, rfl, rfl⟩ := mm_i2_inv h1
  exact mm_pure (fun ls H locs _ _ _ q => lv_ixor hx hb hd q) kk
theorem ms_lneg (hx : p.tables.exec = Jvm.exec) (hb : c.code = cc) {pc nx tg : Nat} {L : mm_L} {st : List Value} {S : mm_S} {k : mm_Kf} (ho : mm_ok cc pc (.lneg) nx tg) (h : mm_st0 (.lneg) pc nx tg L st S = some k) (kk : mm_At p l e R s m args below meth c Q D cl tys φ B S0 nL k) : mm_At p l e R s m args below meth c Q D cl tys φ B S0 nL (pc, L, st, S) := by
  obtain ⟨⟨len, hd, rfl, hl⟩, ht⟩ := ho
  have hl : len = 1 := hl (fun _ _ _ _ q => by cases q) (fun _ _ q => by cases q)
  subst hl
  obtain ⟨st', h1, rfl⟩ := mm_mp_inv (show mm_mp _ _ _ _ = some k from h)
  obtain ⟨x, r, rfl, rfl⟩ := mm_j1_inv h1
  exact mm_pure (fun ls H locs _ _ _ q => lv_lneg hx hb hd q) kk
theorem ms_i2c (hx : p.tables.exec = Jvm.exec) (hb : c.code = cc) {pc nx tg : Nat} {L : mm_L} {st : List Value} {S : mm_S} {k : mm_Kf} (ho : mm_ok cc pc (.i2c) nx tg) (h : mm_st0 (.i2c) pc nx tg L st S = some k) (kk : mm_At p l e R s m args below meth c Q D cl tys φ B S0 nL k) : mm_At p l e R s m args below meth c Q D cl tys φ B S0 nL (pc, L, st, S) := by
  obtain ⟨⟨len, hd, rfl, hl⟩, ht⟩ := ho
  have hl : len = 1 := hl (fun _ _ _ _ q => by cases q) (fun _ _ q => by cases q)
  subst hl
  obtain ⟨st', h1, rfl⟩ := mm_mp_inv (show mm_mp _ _ _ _ = some k from h)
  obtain ⟨x, r, rfl, rfl⟩ := mm_i1_inv h1
  exact mm_pure (fun ls H locs _ _ _ q => lv_i2c hx hb hd rfl q) kk
theorem ms_i2b (hx : p.tables.exec = Jvm.exec) (hb : c.code = cc) {pc nx tg : Nat} {L : mm_L} {st : List Value} {S : mm_S} {k : mm_Kf} (ho : mm_ok cc pc (.i2b) nx tg) (h : mm_st0 (.i2b) pc nx tg L st S = some k) (kk : mm_At p l e R s m args below meth c Q D cl tys φ B S0 nL k) : mm_At p l e R s m args below meth c Q D cl tys φ B S0 nL (pc, L, st, S) := by
  obtain ⟨⟨len, hd, rfl, hl⟩, ht⟩ := ho
  have hl : len = 1 := hl (fun _ _ _ _ q => by cases q) (fun _ _ q => by cases q)
  subst hl
  obtain ⟨st', h1, rfl⟩ := mm_mp_inv (show mm_mp _ _ _ _ = some k from h)
  obtain ⟨x, r, rfl, rfl⟩ := mm_i1_inv h1
  exact mm_pure (fun ls H locs _ _ _ q => lv_i2b hx hb hd rfl q) kk
theorem ms_idiv (hx : p.tables.exec = Jvm.exec) (hb : c.code = cc) {pc nx tg : Nat} {L : mm_L} {st : List Value} {S : mm_S} {k : mm_Kf} (ho : mm_ok cc pc (.idiv) nx tg) (h : mm_st0 (.idiv) pc nx tg L st S = some k) (kk : mm_At p l e R s m args below meth c Q D cl tys φ B S0 nL k) : mm_At p l e R s m args below meth c Q D cl tys φ B S0 nL (pc, L, st, S) := by
  obtain ⟨⟨len, hd, rfl, hl⟩, ht⟩ := ho
  have hl : len = 1 := hl (fun _ _ _ _ q => by cases q) (fun _ _ q => by cases q)
  subst hl
  have h : mm_dvI _ _ L st S = some k := h
  unfold mm_dvI at h
  split at h
  · split at h
    · cases h
    · rename_i hne
      cases h
      exact mm_pure (fun ls H locs _ _ _ q => lv_idiv hx hb hd hne q) kk
  · cases h
theorem ms_irem (hx : p.tables.exec = Jvm.exec) (hb : c.code = cc) {pc nx tg : Nat} {L : mm_L} {st : List Value} {S : mm_S} {k : mm_Kf} (ho : mm_ok cc pc (.irem) nx tg) (h : mm_st0 (.irem) pc nx tg L st S = some k) (kk : mm_At p l e R s m args below meth c Q D cl tys φ B S0 nL k) : mm_At p l e R s m args below meth c Q D cl tys φ B S0 nL (pc, L, st, S) := by
  obtain ⟨⟨len, hd, rfl, hl⟩, ht⟩ := ho
  have hl : len = 1 := hl (fun _ _ _ _ q => by cases q) (fun _ _ q => by cases q)
  subst hl
  have h : mm_dvI _ _ L st S = some k := h
  unfold mm_dvI at h
  split at h
  · split at h
    · cases h
    · rename_i hne
      cases h
      exact mm_pure (fun ls H locs _ _ _ q => lv_irem hx hb hd hne q) kk
  · cases h
theorem ms_ldiv (hx : p.tables.exec = Jvm.exec) (hb : c.code = cc) {pc nx tg : Nat} {L : mm_L} {st : List Value} {S : mm_S} {k : mm_Kf} (ho : mm_ok cc pc (.ldiv) nx tg) (h : mm_st0 (.ldiv) pc nx tg L st S = some k) (kk : mm_At p l e R s m args below meth c Q D cl tys φ B S0 nL k) : mm_At p l e R s m args below meth c Q D cl tys φ B S0 nL (pc, L, st, S) := by
  obtain ⟨⟨len, hd, rfl, hl⟩, ht⟩ := ho
  have hl : len = 1 := hl (fun _ _ _ _ q => by cases q) (fun _ _ q => by cases q)
  subst hl
  have h : mm_dvJ _ _ L st S = some k := h
  unfold mm_dvJ at h
  split at h
  · split at h
    · cases h
    · rename_i hne
      cases h
      exact mm_pure (fun ls H locs _ _ _ q => lv_ldiv hx hb hd hne q) kk
  · cases h
theorem ms_lrem (hx : p.tables.exec = Jvm.exec) (hb : c.code = cc) {pc nx tg : Nat} {L : mm_L} {st : List Value} {S : mm_S} {k : mm_Kf} (ho : mm_ok cc pc (.lrem) nx tg) (h : mm_st0 (.lrem) pc nx tg L st S = some k) (kk : mm_At p l e R s m args below meth c Q D cl tys φ B S0 nL k) : mm_At p l e R s m args below meth c Q D cl tys φ B S0 nL (pc, L, st, S) := by
  obtain ⟨⟨len, hd, rfl, hl⟩, ht⟩ := ho
  have hl : len = 1 := hl (fun _ _ _ _ q => by cases q) (fun _ _ q => by cases q)
  subst hl
  have h : mm_dvJ _ _ L st S = some k := h
  unfold mm_dvJ at h
  split at h
  · split at h
    · cases h
    · rename_i hne
      cases h
      exact mm_pure (fun ls H locs _ _ _ q => lv_lrem hx hb hd hne q) kk
  · cases h
theorem ms_dup_x2 (hx : p.tables.exec = Jvm.exec) (hb : c.code = cc) {pc nx tg : Nat} {L : mm_L} {st : List Value} {S : mm_S} {k : mm_Kf} (ho : mm_ok cc pc (.dup_x2) nx tg) (h : mm_st0 (.dup_x2) pc nx tg L st S = some k) (kk : mm_At p l e R s m args below meth c Q D cl tys φ B S0 nL k) : mm_At p l e R s m args below meth c Q D cl tys φ B S0 nL (pc, L, st, S) := by
  obtain ⟨⟨len, hd, rfl, hl⟩, ht⟩ := ho
  have hl : len = 1 := hl (fun _ _ _ _ q => by cases q) (fun _ _ q => by cases q)
  subst hl
  have h : mm_dx2 _ L st S = some k := h
  unfold mm_dx2 at h
  split at h
  · split at h
    · rename_i hc
      cases h
      exact mm_pure (fun ls H locs _ _ _ q => lv_dup_x2 hx hb hd (by rw [mm_tv_cat]; exact hc.1) (by rw [mm_tv_cat]; exact hc.2.1) (by rw [mm_tv_cat]; exact hc.2.2) q) kk
    · cases h
  · cases h
theorem ms_pop2 (hx : p.tables.exec = Jvm.exec) (hb : c.code = cc) {pc nx tg : Nat} {L : mm_L} {st : List Value} {S : mm_S} {k : mm_Kf} (ho : mm_ok cc pc (.pop2) nx tg) (h : mm_st0 (.pop2) pc nx tg L st S = some k) (kk : mm_At p l e R s m args below meth c Q D cl tys φ B S0 nL k) : mm_At p l e R s m args below meth c Q D cl tys φ B S0 nL (pc, L, st, S) := by
  obtain ⟨⟨len, hd, rfl, hl⟩, ht⟩ := ho
  have hl : len = 1 := hl (fun _ _ _ _ q => by cases q) (fun _ _ q => by cases q)
  subst hl
  have h : mm_pp2 _ L st S = some k := h
  unfold mm_pp2 at h
  split at h
  · split at h
    · rename_i hc
      cases h
      exact mm_pure (fun ls H locs _ _ _ q => lv_pop2_2 hx hb hd (by rw [mm_tv_cat]; exact hc) q) kk
    · cases h
  · cases h
theorem ms_lookupswitch (hx : p.tables.exec = Jvm.exec) (hb : c.code = cc) {pc nx tg : Nat} {L : mm_L} {st : List Value} {S : mm_S} {k : mm_Kf} {df : Int} {ps : Array (Int × Int)} (ho : mm_ok cc pc (.lookupswitch df ps) nx tg) (h : mm_st0 (.lookupswitch df ps) pc nx tg L st S = some k) (kk : mm_At p l e R s m args below meth c Q D cl tys φ B S0 nL k) : mm_At p l e R s m args below meth c Q D cl tys φ B S0 nL (pc, L, st, S) := by
  obtain ⟨⟨len, hd, rfl, -⟩, -⟩ := ho
  have h : mm_lsw pc df ps L st S = some k := h
  unfold mm_lsw at h
  split at h
  · split at h
    · rename_i hc
      cases h
      exact mm_pure (fun ls H locs _ _ _ q => lv_lookup hx hb hd hc.1 rfl (by have := hc.2; omega) q) kk
    · cases h
  · cases h
theorem ms_if_acmp (hx : p.tables.exec = Jvm.exec) (hb : c.code = cc) {pc nx tg : Nat} {L : mm_L} {st : List Value} {S : mm_S} {k : mm_Kf} {o : ClassFile.ACond} {off : Int} (hφ : ∀ a b, a < mm_big → b < mm_big → φ a = φ b → a = b) (ho : mm_ok cc pc (.if_acmp o off) nx tg) (h : mm_st0 (.if_acmp o off) pc nx tg L st S = some k) (kk : mm_At p l e R s m args below meth c Q D cl tys φ B S0 nL k) : mm_At p l e R s m args below meth c Q D cl tys φ B S0 nL (pc, L, st, S) := by
  obtain ⟨⟨len, hd, rfl, hl⟩, ht⟩ := ho
  have hl : len = 3 := hl (fun _ _ _ _ q => by cases q) (fun _ _ q => by cases q)
  subst hl
  have ht : (pc : Int) + off = (tg : Int) := ht
  have h : mm_acm o _ tg L st S = some k := h
  unfold mm_acm at h
  split at h
  · split at h
    · rename_i y x r q hc
      cases h
      intro ls H locs h1 h0 h2 h3 h4 h5
      have kk' := kk ls H locs h1 h0 h2 h3 h4 h5
      dsimp only at kk'
      cases o with
      | eq =>
        dsimp only at kk'
        refine lv_acmp_eq (rx := some (φ x)) (ry := some (φ y)) hx hb hd ht (fun e => ?_) (fun e => ?_)
        · have e2 : x = y := hφ _ _ hc.1 hc.2 (Option.some.inj e)
          rw [if_pos e2] at kk'
          exact kk'
        · have e2 : ¬ x = y := fun z => e (by rw [z])
          rw [if_neg e2] at kk'
          exact kk'
      | ne =>
        dsimp only at kk'
        refine lv_acmp_ne (rx := some (φ x)) (ry := some (φ y)) hx hb hd ht (fun e => ?_) (fun e => ?_)
        · have e2 : ¬ x = y := fun z => e (by rw [z])
          rw [if_neg e2] at kk'
          exact kk'
        · have e2 : x = y := hφ _ _ hc.1 hc.2 (Option.some.inj e)
          rw [if_pos e2] at kk'
          exact kk'
    · cases h
  · cases h
set_option maxHeartbeats 4000000 in
theorem ms_all (hφ : ∀ a b, a < mm_big → b < mm_big → φ a = φ b → a = b) (hx : p.tables.exec = Jvm.exec) (hb : c.code = cc) {i : Instr} {pc nx tg : Nat} {L : mm_L} {st : List Value} {S : mm_S} {k : mm_Kf} (ho : mm_ok cc pc i nx tg) (h : mm_st0 i pc nx tg L st S = some k) (kk : mm_At p l e R s m args below meth c Q D cl tys φ B S0 nL k) : mm_At p l e R s m args below meth c Q D cl tys φ B S0 nL (pc, L, st, S) := by
  cases i

  case aconst_null => exact ms_aconst_null hx hb ho h kk
  case iconst => exact ms_iconst hx hb ho h kk
  case bipush => exact ms_bipush hx hb ho h kk
  case sipush => exact ms_sipush hx hb ho h kk
  case lconst => exact ms_lconst hx hb ho h kk
  case iload => exact ms_iload hx hb ho h kk
  case iload_n => exact ms_iload_n hx hb ho h kk
  case lload => exact ms_lload hx hb ho h kk
  case lload_n => exact ms_lload_n hx hb ho h kk
  case aload => exact ms_aload hx hb ho h kk
  case aload_n => exact ms_aload_n hx hb ho h kk
  case istore => exact ms_istore hx hb ho h kk
  case istore_n => exact ms_istore_n hx hb ho h kk
  case lstore => exact ms_lstore hx hb ho h kk
  case lstore_n => exact ms_lstore_n hx hb ho h kk
  case astore => exact ms_astore hx hb ho h kk
  case astore_n => exact ms_astore_n hx hb ho h kk
  case iinc => exact ms_iinc hx hb ho h kk
  case iadd => exact ms_iadd hx hb ho h kk
  case isub => exact ms_isub hx hb ho h kk
  case imul => exact ms_imul hx hb ho h kk
  case iand => exact ms_iand hx hb ho h kk
  case ior => exact ms_ior hx hb ho h kk
  case ishl => exact ms_ishl hx hb ho h kk
  case ishr => exact ms_ishr hx hb ho h kk
  case iushr => exact ms_iushr hx hb ho h kk
  case ladd => exact ms_ladd hx hb ho h kk
  case lsub => exact ms_lsub hx hb ho h kk
  case lmul => exact ms_lmul hx hb ho h kk
  case land => exact ms_land hx hb ho h kk
  case lor => exact ms_lor hx hb ho h kk
  case lshl => exact ms_lshl hx hb ho h kk
  case lshr => exact ms_lshr hx hb ho h kk
  case lushr => exact ms_lushr hx hb ho h kk
  case lcmp => exact ms_lcmp hx hb ho h kk
  case i2l => exact ms_i2l hx hb ho h kk
  case l2i => exact ms_l2i hx hb ho h kk
  case ifCond => exact ms_ifCond hx hb ho h kk
  case if_icmp => exact ms_if_icmp hx hb ho h kk
  case goto => exact ms_goto hx hb ho h kk
  case dup => exact ms_dup hx hb ho h kk
  case pop => exact ms_pop hx hb ho h kk
  case dup_x1 => exact ms_dup_x1 hx hb ho h kk
  case dup2 => exact ms_dup2 hx hb ho h kk
  case tableswitch => exact ms_tableswitch hx hb ho h kk
  case ixor => exact ms_ixor hx hb ho h kk
  case lneg => exact ms_lneg hx hb ho h kk
  case i2c => exact ms_i2c hx hb ho h kk
  case i2b => exact ms_i2b hx hb ho h kk
  case idiv => exact ms_idiv hx hb ho h kk
  case irem => exact ms_irem hx hb ho h kk
  case ldiv => exact ms_ldiv hx hb ho h kk
  case lrem => exact ms_lrem hx hb ho h kk
  case dup_x2 => exact ms_dup_x2 hx hb ho h kk
  case pop2 => exact ms_pop2 hx hb ho h kk
  case lookupswitch => exact ms_lookupswitch hx hb ho h kk
  case if_acmp => exact ms_if_acmp hx hb hφ ho h kk
  all_goals (cases h)
end MB5
