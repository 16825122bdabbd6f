/-! Strings that stand from the start; copies of arrays -/
def mm_ost (T : mm_T) (a : Nat) : Bool := decide (mm_big < a) && decide (a ≤ mm_big + mm_nx T)
def mm_oar (T : mm_T) (a : Nat) : Bool := decide (mm_big + 1000 < a) && decide (a ≤ mm_big + 1000 + mm_nx T)
def mm_sgf (T : mm_T) (pool : Nat → Option mm_P) (x nx : Nat) (L : mm_L) (st : List Value) (S : mm_S) : Option mm_Kf := match pool x, st with
  | some (.inr (.inr (.inr (.inr (.inr q))))), .ref a :: r => if mm_ost T a = true then (if q = 2000 then some (nx, L, .ref (a + 1000) :: r, S) else if q = 2001 then some (nx, L, .int 0 :: r, S) else none) else none
  | _, _ => none
def mm_sgs (pool : Nat → Option mm_P) (scr : Nat × (Nat → Int32)) (x nx : Nat) (L : mm_L) (st : List Value) (S : mm_S) : Option mm_Kf := match pool x with
  | some (.inr (.inr (.inr (.inr (.inr q))))) => if q = 2002 then some (nx, L, .int 1 :: st, S) else if q = 2004 then some (nx, L, (if scr.2 mm_big = 0 then .null else .ref (mm_big + 3000)) :: st, S) else none
  | _ => none
def mm_sio (T : mm_T) (pool : Nat → Option mm_P) (x nx : Nat) (L : mm_L) (st : List Value) (S : mm_S) : Option mm_Kf := match pool x, st with
  | some (.inr (.inr (.inr (.inr (.inr q))))), .ref a :: r => if mm_ost T a = true ∧ q = 2003 then some (nx, L, .int 1 :: r, S) else none
  | _, _ => none
def mm_scc (T : mm_T) (pool : Nat → Option mm_P) (x nx : Nat) (L : mm_L) (st : List Value) (S : mm_S) : Option mm_Kf := match pool x, st with
  | some (.inr (.inr (.inr (.inr (.inr q))))), .ref a :: r => if mm_ost T a = true ∧ q = 2003 then some (nx, L, .ref a :: r, S) else none
  | _, _ => none
def mm_sba (T : mm_T) (nx : Nat) (L : mm_L) (st : List Value) (S : mm_S) : Option mm_Kf := match st with
  | .int j :: .ref a :: r => if mm_oar T a = true ∧ mm_inb j (mm_sb T (a - mm_big - 1000)).length = true then some (nx, L, .int ((mm_sb T (a - mm_big - 1000)).getD j.toNatClampNeg 0) :: r, S) else none
  | _ => none
def mm_sal (T : mm_T) (nx : Nat) (L : mm_L) (st : List Value) (S : mm_S) : Option mm_Kf := match st with
  | .ref a :: r => if mm_oar T a = true then some (nx, L, .int (Int32.ofNat (mm_sb T (a - mm_big - 1000)).length) :: r, S) else none
  | _ => none
def mm_sac (T : mm_T) (o : ClassFile.ACond) (nx tg : Nat) (L : mm_L) (st : List Value) (S : mm_S) : Option mm_Kf := match st with
  | .ref y :: .ref x :: r => if mm_ost T x = true ∧ mm_ost T y = true then some ((match o with
    | .eq => if x = y then tg else nx
    | .ne => if x = y then nx else tg), L, r, S) else none
  | _ => none
def mm_cpy (pool : Nat → Option mm_P) (x nx : Nat) (L : mm_L) (st : List Value) (S : mm_S) : Option mm_Kf := match pool x, st with
  | some (.inr (.inr (.inr (.inr (.inr q))))), .int n :: .int dp :: .ref a :: .int sp :: .ref b :: r => match S.2.2 a, S.2.2 b with
    | .inl (0, n1, .inl g), .inl (0, n0, .inl f) => if q = 0 ∧ a < S.1 ∧ b < S.1 ∧ ¬ sp < 0 ∧ ¬ dp < 0 ∧ ¬ n < 0 ∧ sp.toNatClampNeg + n.toNatClampNeg ≤ n0 ∧ dp.toNatClampNeg + n.toNatClampNeg ≤ n1 ∧ (r.map Value.category).sum ≤ 8 then some (nx, L, r, mm_up S a (.inl (0, n1, .inl (va_cpy f g sp.toNatClampNeg dp.toNatClampNeg n.toNatClampNeg)))) else none
    | _, _ => none
  | _, _ => none
def mm_st2 (T : mm_T) (pool : Nat → Option mm_P) (scr : Nat × (Nat → Int32)) (i : Instr) (nx tg : Nat) (L : mm_L) (st : List Value) (S : mm_S) : Option mm_Kf := match i with
  | .getfield x => mm_sgf T pool x nx L st S
  | .getstatic x => mm_sgs pool scr x nx L st S
  | .instanceof x => mm_sio T pool x nx L st S
  | .checkcast x => mm_scc T pool x nx L st S
  | .baload => mm_sba T nx L st S
  | .arraylength => mm_sal T nx L st S
  | .if_acmp o _ => mm_sac T o nx tg L st S
  | .invokestatic x => mm_cpy pool x nx L st S
  | _ => none
/-- the Strings as they lie -/
def mm_Str (T : mm_T) (B : Nat) (ex : Nat → Nat) (scr : Nat × (Nat → Int32)) (s : State) : Prop := (∀ j, 1 ≤ j → j ≤ mm_nx T → va_O "java/lang/String" (ex j) (fun q => B ≤ q) s s.heap ∧ va_OF "java/lang/String" "coder" "B" (.int 0) (ex j) (fun q => B ≤ q) s s.heap ∧ va_OF "java/lang/String" "value" "[B" (.ref (ex (1000 + j))) (ex j) (fun q => B ≤ q) s s.heap ∧ va_T .byte (ex (1000 + j)) (mm_sb T j).length (fun q => .int ((mm_sb T j).getD q 0)) (fun q => B ≤ q) s s.heap) ∧
  (∀ j k, 1 ≤ j → j ≤ mm_nx T → 1 ≤ k → k ≤ mm_nx T → ex j = ex k → j = k) ∧ va_Z "java/lang/String" "COMPACT_STRINGS" "Z" (.int 1) (fun q => B ≤ q) s s.heap ∧ ((scr.2 mm_big = 0 ∧ va_Z "jdk/internal/util/Preconditions" "SIOOBE_FORMATTER" "Ljava/util/function/BiFunction;" .null (fun q => B ≤ q) s s.heap) ∨ (¬ scr.2 mm_big = 0 ∧ va_Z "jdk/internal/util/Preconditions" "SIOOBE_FORMATTER" "Ljava/util/function/BiFunction;" (.ref (ex 3000)) (fun q => B ≤ q) s s.heap))
/-- the words of their members -/
def mm_pk2 (Ts : List Jvm.Cond) (own : String) (pool : Nat → Option mm_P) : Prop := ∀ x q, pool x = some (.inr (.inr (.inr (.inr (.inr q))))) → (q = 2000 → Jvm.Cond.fieldLink own x "java/lang/String" "value" "[B" ∈ Ts) ∧ (q = 2001 → Jvm.Cond.fieldLink own x "java/lang/String" "coder" "B" ∈ Ts) ∧ (q = 2002 → Jvm.Cond.fieldLink own x "java/lang/String" "COMPACT_STRINGS" "Z" ∈ Ts) ∧ (q = 2003 → Jvm.Cond.classLink own x "java/lang/String" ∈ Ts) ∧ (q = 2004 → Jvm.Cond.fieldLink own x "jdk/internal/util/Preconditions" "SIOOBE_FORMATTER" "Ljava/util/function/BiFunction;" ∈ Ts) ∧
  (q = 0 → Jvm.Cond.methodLink own x arraycopyName ∈ Ts ∧ Jvm.Cond.native arraycopyName ∈ Ts ∧ Jvm.Cond.static arraycopyName ∈ Ts ∧ Jvm.Cond.initialized "java/lang/System" ∈ Ts)
theorem mm_sub_inj {x y : Nat} (h1 : 1 ≤ x - mm_big) (h2 : 1 ≤ y - mm_big) (q : x - mm_big = y - mm_big) : x = y := by omega
theorem mm_ost_at {T : mm_T} {B : Nat} {ex : Nat → Nat} {a : Nat} (h : mm_ost T a = true) : (1 ≤ a - mm_big ∧ a - mm_big ≤ mm_nx T) ∧ mm_phi B ex a = ex (a - mm_big) ∧ mm_phi B ex (a + 1000) = ex (1000 + (a - mm_big)) := by
  unfold mm_ost at h
  rw [Bool.and_eq_true, decide_eq_true_eq, decide_eq_true_eq] at h
  have h1 : ¬ a < mm_big := by omega
  have h2 : ¬ a + 1000 < mm_big := by omega
  refine ⟨by omega, by simp [mm_phi, h1], ?_⟩
  have e : a + 1000 - mm_big = 1000 + (a - mm_big) := by omega
  simp [mm_phi, h2, e]
theorem mm_oar_at {T : mm_T} {B : Nat} {ex : Nat → Nat} {a : Nat} (h : mm_oar T a = true) : (1 ≤ a - mm_big - 1000 ∧ a - mm_big - 1000 ≤ mm_nx T) ∧ mm_phi B ex a = ex (1000 + (a - mm_big - 1000)) := by
  unfold mm_oar at h
  rw [Bool.and_eq_true, decide_eq_true_eq, decide_eq_true_eq] at h
  have h1 : ¬ a < mm_big := by omega
  have e : a - mm_big = 1000 + (a - mm_big - 1000) := by omega
  refine ⟨by omega, ?_⟩
  rw [← e]
  simp [mm_phi, h1]
theorem mm_sum_tv (φ : Nat → Nat) (l : List Value) : ((l.map (mm_tv φ)).map fun v => v.category).sum = (l.map Value.category).sum := by
  induction l with
  | nil => rfl
  | cons a l ih => simp only [List.map_cons, List.sum_cons, mm_tv_cat, ih]
section ME8
variable {p : Program} {l : Launch} {e : Env} {R : Room} {s : State} {m : MethodId} {args : Array Value} {below : List Frame} {meth : Method} {c : Code} {Q : State → Prop}
variable {D : va_G} {cl : List vw_C} {tys : List (ClassId × FieldType)} {B : Nat} {ex : Nat → Nat} {S0 : mm_S} {nL : Nat} {cc : ByteArray} {Ts : List Jvm.Cond} {aT : List FieldType} {T : mm_T} {own : String} {oc : Nat} {pool : Nat → Option mm_P} {ini : Bool} {scr : Nat × (Nat → Int32)}
theorem mt2_getfield (F : mm_Fix p R s m args meth c D cl tys B ex S0 nL cc Ts aT T own oc pool ini scr) (hS2 : mm_Str T B ex scr s) (hP2 : mm_pk2 Ts own pool) {pc nx tg : Nat} {L : mm_L} {st : List Value} {S : mm_S} {k : mm_Kf} {x : Nat} (ho : mm_ok cc pc (.getfield x) nx tg) (h : mm_st2 T pool scr (.getfield x) nx tg L st S = some k) (kk : mm_At p l e R s m args below meth c Q D cl tys (mm_phi B ex) B S0 nL k) : mm_At p l e R s m args below meth c Q D cl tys (mm_phi B ex) B S0 nL (pc, L, st, S) := by
  obtain ⟨⟨len, hd, rfl, hl⟩, ht⟩ := ho
  have hl : len = 3 := hl (fun _ _ _ _ q => by cases q) (fun _ _ q => by cases q)
  subst hl
  obtain ⟨⟨hx, hb, hml, hown, hlk, hini⟩, ⟨hts, hK, hcl, hpl⟩, ⟨haT, ⟨hAn, hCn, hA0, hA1, hA2⟩, hA3⟩, hAC, ⟨hB, hRc, hRs, hlcb⟩, hX, hX0, hXs⟩ := F
  replace h : mm_sgf T pool x _ L st S = some k := h
  unfold mm_sgf at h
  split at h
  · rename_i q a r hp
    split at h
    · rename_i ho
      obtain ⟨⟨j1, j2⟩, e1, e2⟩ := mm_ost_at (B := B) (ex := ex) ho
      obtain ⟨-, f1, f2, -⟩ := hS2.1 _ j1 j2
      split at h
      · rename_i hq
        cases h
        intro ls H locs h1 h0 h2 h3 h4 h5
        have kk' := kk ls H locs h1 h0 h2 h3 h4 h5
        show W p l e R s m args below meth c H locs _ _ Q (F0 m pc ls (.ref (mm_phi B ex a) :: r.map (mm_tv (mm_phi B ex))))
        rw [e1]
        refine vk_getf hx hb f2 h3 hown (hts _ ((hP2 _ _ hp).1 hq)) (fun _ h => h) hd ?_
        rw [← e2]
        exact kk'
      · split at h
        · rename_i hq
          cases h
          intro ls H locs h1 h0 h2 h3 h4 h5
          have kk' := kk ls H locs h1 h0 h2 h3 h4 h5
          show W p l e R s m args below meth c H locs _ _ Q (F0 m pc ls (.ref (mm_phi B ex a) :: r.map (mm_tv (mm_phi B ex))))
          rw [e1]
          exact vk_getf hx hb f1 h3 hown (hts _ ((hP2 _ _ hp).2.1 hq)) (fun _ h => h) hd kk'
        · cases h
    · cases h
  · cases h
theorem mt2_getstatic (F : mm_Fix p R s m args meth c D cl tys B ex S0 nL cc Ts aT T own oc pool ini scr) (hS2 : mm_Str T B ex scr s) (hP2 : mm_pk2 Ts own pool) {pc nx tg : Nat} {L : mm_L} {st : List Value} {S : mm_S} {k : mm_Kf} {x : Nat} (ho : mm_ok cc pc (.getstatic x) nx tg) (h : mm_st2 T pool scr (.getstatic x) nx tg L st S = some k) (kk : mm_At p l e R s m args below meth c Q D cl tys (mm_phi B ex) B S0 nL k) : mm_At p l e R s m args below meth c Q D cl tys (mm_phi B ex) B S0 nL (pc, L, st, S) := by
  obtain ⟨⟨len, hd, rfl, hl⟩, ht⟩ := ho
  have hl : len = 3 := hl (fun _ _ _ _ q => by cases q) (fun _ _ q => by cases q)
  subst hl
  obtain ⟨⟨hx, hb, hml, hown, hlk, hini⟩, ⟨hts, hK, hcl, hpl⟩, ⟨haT, ⟨hAn, hCn, hA0, hA1, hA2⟩, hA3⟩, hAC, ⟨hB, hRc, hRs, hlcb⟩, hX, hX0, hXs⟩ := F
  replace h : mm_sgs pool scr x _ L st S = some k := h
  unfold mm_sgs at h
  split at h
  · rename_i q hp
    split at h
    · rename_i hq
      cases h
      intro ls H locs h1 h0 h2 h3 h4 h5
      exact va_gets hx hb hS2.2.2.1 h3 hown (hts _ ((hP2 _ _ hp).2.2.1 hq)) (fun _ h => h) hd (kk ls H locs h1 h0 h2 h3 h4 h5)
    · split at h
      · rename_i hq
        cases h
        intro ls H locs h1 h0 h2 h3 h4 h5
        have kk' := kk ls H locs h1 h0 h2 h3 h4 h5
        have hl := hts _ ((hP2 _ _ hp).2.2.2.2.1 hq)
        rcases hS2.2.2.2 with ⟨z1, z2⟩ | ⟨z1, z2⟩
        · rw [if_pos z1] at kk'
          exact va_gets hx hb z2 h3 hown hl (fun _ h => h) hd kk'
        · rw [if_neg z1] at kk'
          have e : mm_phi B ex (mm_big + 3000) = ex 3000 := by
            have h8 : ¬ (mm_big + 3000 < mm_big) := by omega
            simp [mm_phi, h8]
          refine va_gets hx hb z2 h3 hown hl (fun _ h => h) hd ?_
          rw [← e]
          exact kk'
      · cases h
  · cases h
theorem mt2_instanceof (F : mm_Fix p R s m args meth c D cl tys B ex S0 nL cc Ts aT T own oc pool ini scr) (hS2 : mm_Str T B ex scr s) (hP2 : mm_pk2 Ts own pool) {pc nx tg : Nat} {L : mm_L} {st : List Value} {S : mm_S} {k : mm_Kf} {x : Nat} (ho : mm_ok cc pc (.instanceof x) nx tg) (h : mm_st2 T pool scr (.instanceof x) nx tg L st S = some k) (kk : mm_At p l e R s m args below meth c Q D cl tys (mm_phi B ex) B S0 nL k) : mm_At p l e R s m args below meth c Q D cl tys (mm_phi B ex) B S0 nL (pc, L, st, S) := by
  obtain ⟨⟨len, hd, rfl, hl⟩, ht⟩ := ho
  have hl : len = 3 := hl (fun _ _ _ _ q => by cases q) (fun _ _ q => by cases q)
  subst hl
  obtain ⟨⟨hx, hb, hml, hown, hlk, hini⟩, ⟨hts, hK, hcl, hpl⟩, ⟨haT, ⟨hAn, hCn, hA0, hA1, hA2⟩, hA3⟩, hAC, ⟨hB, hRc, hRs, hlcb⟩, hX, hX0, hXs⟩ := F
  replace h : mm_sio T pool x _ L st S = some k := h
  unfold mm_sio at h
  split at h
  · rename_i q a r hp
    split at h
    · rename_i ho
      obtain ⟨⟨j1, j2⟩, e1, -⟩ := mm_ost_at (B := B) (ex := ex) ho.1
      obtain ⟨f0, -⟩ := hS2.1 _ j1 j2
      cases h
      intro ls H locs h1 h0 h2 h3 h4 h5
      have kk' := kk ls H locs h1 h0 h2 h3 h4 h5
      obtain ⟨cell, g1, g2, g3, -⟩ := f0.kept h3.2.1
      refine va_instE hx hb hown (hts _ ((hP2 _ _ hp).2.2.2.1 ho.2)) (a := mm_phi B ex a) ⟨cell, by rw [e1]; exact g1, g2, g3⟩ hd kk'
    · cases h
  · cases h
theorem mt2_checkcast (F : mm_Fix p R s m args meth c D cl tys B ex S0 nL cc Ts aT T own oc pool ini scr) (hS2 : mm_Str T B ex scr s) (hP2 : mm_pk2 Ts own pool) {pc nx tg : Nat} {L : mm_L} {st : List Value} {S : mm_S} {k : mm_Kf} {x : Nat} (ho : mm_ok cc pc (.checkcast x) nx tg) (h : mm_st2 T pool scr (.checkcast x) nx tg L st S = some k) (kk : mm_At p l e R s m args below meth c Q D cl tys (mm_phi B ex) B S0 nL k) : mm_At p l e R s m args below meth c Q D cl tys (mm_phi B ex) B S0 nL (pc, L, st, S) := by
  obtain ⟨⟨len, hd, rfl, hl⟩, ht⟩ := ho
  have hl : len = 3 := hl (fun _ _ _ _ q => by cases q) (fun _ _ q => by cases q)
  subst hl
  obtain ⟨⟨hx, hb, hml, hown, hlk, hini⟩, ⟨hts, hK, hcl, hpl⟩, ⟨haT, ⟨hAn, hCn, hA0, hA1, hA2⟩, hA3⟩, hAC, ⟨hB, hRc, hRs, hlcb⟩, hX, hX0, hXs⟩ := F
  replace h : mm_scc T pool x _ L st S = some k := h
  unfold mm_scc at h
  split at h
  · rename_i q a r hp
    split at h
    · rename_i ho
      obtain ⟨⟨j1, j2⟩, e1, -⟩ := mm_ost_at (B := B) (ex := ex) ho.1
      obtain ⟨f0, -⟩ := hS2.1 _ j1 j2
      cases h
      intro ls H locs h1 h0 h2 h3 h4 h5
      have kk' := kk ls H locs h1 h0 h2 h3 h4 h5
      obtain ⟨cell, g1, g2, g3, -⟩ := f0.kept h3.2.1
      refine va_castE hx hb hown (hts _ ((hP2 _ _ hp).2.2.2.1 ho.2)) (a := mm_phi B ex a) ⟨cell, by rw [e1]; exact g1, g2, g3⟩ hd kk'
    · cases h
  · cases h
theorem mt2_baload (F : mm_Fix p R s m args meth c D cl tys B ex S0 nL cc Ts aT T own oc pool ini scr) (hS2 : mm_Str T B ex scr s) (hP2 : mm_pk2 Ts own pool) {pc nx tg : Nat} {L : mm_L} {st : List Value} {S : mm_S} {k : mm_Kf} (ho : mm_ok cc pc (.baload) nx tg) (h : mm_st2 T pool scr (.baload) nx tg L st S = some k) (kk : mm_At p l e R s m args below meth c Q D cl tys (mm_phi B ex) B S0 nL k) : mm_At p l e R s m args below meth c Q D cl tys (mm_phi B ex) B S0 nL (pc, L, st, S) := by
  obtain ⟨⟨len, hd, rfl, hl⟩, ht⟩ := ho
  have hl : len = 1 := hl (fun _ _ _ _ q => by cases q) (fun _ _ q => by cases q)
  subst hl
  obtain ⟨⟨hx, hb, hml, hown, hlk, hini⟩, ⟨hts, hK, hcl, hpl⟩, ⟨haT, ⟨hAn, hCn, hA0, hA1, hA2⟩, hA3⟩, hAC, ⟨hB, hRc, hRs, hlcb⟩, hX, hX0, hXs⟩ := F
  replace h : mm_sba T _ L st S = some k := h
  unfold mm_sba at h
  split at h
  · rename_i j a r
    split at h
    · rename_i ho
      obtain ⟨⟨j1, j2⟩, e1⟩ := mm_oar_at (B := B) (ex := ex) ho.1
      obtain ⟨-, -, -, f3⟩ := hS2.1 _ j1 j2
      cases h
      intro ls H locs h1 h0 h2 h3 h4 h5
      have kk' := kk ls H locs h1 h0 h2 h3 h4 h5
      show W p l e R s m args below meth c H locs _ _ Q (F0 m pc ls (.int j :: .ref (mm_phi B ex a) :: r.map (mm_tv (mm_phi B ex))))
      rw [e1]
      exact va_tb hx hb f3 h3 (mm_inb_ok ho.2) rfl hd kk'
    · cases h
  · cases h
theorem mt2_arraylength (F : mm_Fix p R s m args meth c D cl tys B ex S0 nL cc Ts aT T own oc pool ini scr) (hS2 : mm_Str T B ex scr s) (hP2 : mm_pk2 Ts own pool) {pc nx tg : Nat} {L : mm_L} {st : List Value} {S : mm_S} {k : mm_Kf} (ho : mm_ok cc pc (.arraylength) nx tg) (h : mm_st2 T pool scr (.arraylength) nx tg L st S = some k) (kk : mm_At p l e R s m args below meth c Q D cl tys (mm_phi B ex) B S0 nL k) : mm_At p l e R s m args below meth c Q D cl tys (mm_phi B ex) B S0 nL (pc, L, st, S) := by
  obtain ⟨⟨len, hd, rfl, hl⟩, ht⟩ := ho
  have hl : len = 1 := hl (fun _ _ _ _ q => by cases q) (fun _ _ q => by cases q)
  subst hl
  obtain ⟨⟨hx, hb, hml, hown, hlk, hini⟩, ⟨hts, hK, hcl, hpl⟩, ⟨haT, ⟨hAn, hCn, hA0, hA1, hA2⟩, hA3⟩, hAC, ⟨hB, hRc, hRs, hlcb⟩, hX, hX0, hXs⟩ := F
  replace h : mm_sal T _ L st S = some k := h
  unfold mm_sal at h
  split at h
  · rename_i a r
    split at h
    · rename_i ho
      obtain ⟨⟨j1, j2⟩, e1⟩ := mm_oar_at (B := B) (ex := ex) ho
      obtain ⟨-, -, -, f3⟩ := hS2.1 _ j1 j2
      cases h
      intro ls H locs h1 h0 h2 h3 h4 h5
      have kk' := kk ls H locs h1 h0 h2 h3 h4 h5
      show W p l e R s m args below meth c H locs _ _ Q (F0 m pc ls (.ref (mm_phi B ex a) :: r.map (mm_tv (mm_phi B ex))))
      rw [e1]
      exact va_tlen hx hb f3 h3 rfl hd kk'
    · cases h
  · cases h
theorem mt2_if_acmp (F : mm_Fix p R s m args meth c D cl tys B ex S0 nL cc Ts aT T own oc pool ini scr) (hS2 : mm_Str T B ex scr s) (hP2 : mm_pk2 Ts own pool) {pc nx tg : Nat} {L : mm_L} {st : List Value} {S : mm_S} {k : mm_Kf} {o : ClassFile.ACond} {off : Int} (ho : mm_ok cc pc (.if_acmp o off) nx tg) (h : mm_st2 T pool scr (.if_acmp o off) nx tg L st S = some k) (kk : mm_At p l e R s m args below meth c Q D cl tys (mm_phi B ex) B S0 nL k) : mm_At p l e R s m args below meth c Q D cl tys (mm_phi B ex) B S0 nL (pc, L, st, S) := by
  obtain ⟨⟨len, hd, rfl, hl⟩, ht⟩ := ho
  have hl : len = 3 := hl (fun _ _ _ _ q => by cases q) (fun _ _ q => by cases q)
  subst hl
  obtain ⟨⟨hx, hb, hml, hown, hlk, hini⟩, ⟨hts, hK, hcl, hpl⟩, ⟨haT, ⟨hAn, hCn, hA0, hA1, hA2⟩, hA3⟩, hAC, ⟨hB, hRc, hRs, hlcb⟩, hX, hX0, hXs⟩ := F
  have ht : (pc : Int) + off = (tg : Int) := ht
  replace h : mm_sac T o _ tg L st S = some k := h
  unfold mm_sac at h
  split at h
  · rename_i y x r
    split at h
    · rename_i hc
      obtain ⟨⟨j1, j2⟩, e1, -⟩ := mm_ost_at (B := B) (ex := ex) hc.1
      obtain ⟨⟨i1, i2⟩, e2, -⟩ := mm_ost_at (B := B) (ex := ex) hc.2
      have inj : mm_phi B ex x = mm_phi B ex y → x = y := by
        intro q
        rw [e1, e2] at q
        exact mm_sub_inj j1 i1 (hS2.2.1 _ _ j1 j2 i1 i2 q)
      cases h
      intro ls H locs h1 h0 h2 h3 h4 h5
      have kk' := kk ls H locs h1 h0 h2 h3 h4 h5
      dsimp only at kk'
      cases o with
      | eq =>
        dsimp only at kk'
        refine lv_acmp_eq (rx := some (mm_phi B ex x)) (ry := some (mm_phi B ex y)) hx hb hd ht (fun e => ?_) (fun e => ?_)
        · have e2 : x = y := inj (Option.some.inj e)
          rw [if_pos e2] at kk'
          exact kk'
        · have e2 : ¬ x = y := fun z => e (by rw [z])
          rw [if_neg e2] at kk'
          exact kk'
      | ne =>
        dsimp only at kk'
        refine lv_acmp_ne (rx := some (mm_phi B ex x)) (ry := some (mm_phi B ex y)) hx hb hd ht (fun e => ?_) (fun e => ?_)
        · have e2 : ¬ x = y := fun z => e (by rw [z])
          rw [if_neg e2] at kk'
          exact kk'
        · have e2 : x = y := inj (Option.some.inj e)
          rw [if_pos e2] at kk'
          exact kk'
    · cases h
  · cases h
set_option maxHeartbeats 4000000 in
theorem mt2_copy (F : mm_Fix p R s m args meth c D cl tys B ex S0 nL cc Ts aT T own oc pool ini scr) (hS2 : mm_Str T B ex scr s) (hP2 : mm_pk2 Ts own pool) (hfr : 1 ≤ R.frames) (hlo : 100 ≤ R.locals) {pc nx tg : Nat} {L : mm_L} {st : List Value} {S : mm_S} {k : mm_Kf} {x : Nat} (ho : mm_ok cc pc (.invokestatic x) nx tg) (h : mm_st2 T pool scr (.invokestatic x) nx tg L st S = some k) (kk : mm_At p l e R s m args below meth c Q D cl tys (mm_phi B ex) B S0 nL k) : mm_At p l e R s m args below meth c Q D cl tys (mm_phi B ex) B S0 nL (pc, L, st, S) := by
  obtain ⟨⟨len, hd, rfl, hl⟩, ht⟩ := ho
  have hl : len = 3 := hl (fun _ _ _ _ q => by cases q) (fun _ _ q => by cases q)
  subst hl
  obtain ⟨⟨hx, hb, hml, hown, hlk, hini⟩, ⟨hts, hK, hcl, hpl⟩, ⟨haT, ⟨hAn, hCn, hA0, hA1, hA2⟩, hA3⟩, hAC, ⟨hB, hRc, hRs, hlcb⟩, hX, hX0, hXs⟩ := F
  replace h : mm_cpy pool x _ L st S = some k := h
  unfold mm_cpy at h
  split at h
  · rename_i q n dp a sp b r hp
    split at h
    · rename_i n1 g n0 f hEa hEb
      split at h
      · rename_i hc
        obtain ⟨c0, c1, c2, c3, c4, c5, c6, c7, c8⟩ := hc
        cases h
        intro ls H locs h1 h0 h2 h3 h4 h5
        have ha : (mm_ws (mm_phi B ex) tys S)[a]? = some (mm_phi B ex a, .inl (mm_aC tys 0, n1, .inl g)) := by
          rw [mm_ws_at c1, hEa]; rfl
        have hb' : (mm_ws (mm_phi B ex) tys S)[b]? = some (mm_phi B ex b, .inl (mm_aC tys 0, n0, .inl f)) := by
          rw [mm_ws_at c2, hEb]; rfl
        have hD := mm_ws_D (B := B) (ex := ex) (tys := tys) h4.2
        obtain ⟨w1, w2, w3, w4⟩ := (hP2 _ _ hp).2.2.2.2.2 c0
        have hlsz : c.maxLocals = ls.size := by rw [hml]; exact h1.1.symm
        refine va_copyi hx hb hlsz hown (hts _ w1) (hts _ w2) (hts _ w3) (hts _ w4) hK h2 hD h3 b a 0 0 hb' ha (haT _ _ hA0) (haT _ _ hA0) rfl c3 c4 c5 c6 c7 (fun i hi => rfl) hfr ?_ hd (fun H1 locs1 hP1 _ hS1 => kk ls H1 locs1 h1 h0 ?_ hS1 h4 h5)
        · rw [mm_sum_tv]
          have : nativeFrameWords "java/lang/System" "arraycopy" 5 + 11 ≤ 92 := by decide
          omega
        · rw [← mm_ws_up _ c1]
          exact hP1
      · cases h
    · cases h
  · cases h
set_option maxHeartbeats 4000000 in
theorem mt2_all (F : mm_Fix p R s m args meth c D cl tys B ex S0 nL cc Ts aT T own oc pool ini scr) (hS2 : mm_Str T B ex scr s) (hP2 : mm_pk2 Ts own pool) (hfr : 1 ≤ R.frames) (hlo : 100 ≤ R.locals) {i : Instr} {pc nx tg : Nat} {L : mm_L} {st : List Value} {S : mm_S} {k : mm_Kf} (ho : mm_ok cc pc i nx tg) (h : mm_st2 T pool scr i nx tg L st S = some k) (kk : mm_At p l e R s m args below meth c Q D cl tys (mm_phi B ex) B S0 nL k) : mm_At p l e R s m args below meth c Q D cl tys (mm_phi B ex) B S0 nL (pc, L, st, S) := by
  cases i
  case getfield => exact mt2_getfield F hS2 hP2 ho h kk
  case getstatic => exact mt2_getstatic F hS2 hP2 ho h kk
  case instanceof => exact mt2_instanceof F hS2 hP2 ho h kk
  case checkcast => exact mt2_checkcast F hS2 hP2 ho h kk
  case baload => exact mt2_baload F hS2 hP2 ho h kk
  case arraylength => exact mt2_arraylength F hS2 hP2 ho h kk
  case if_acmp => exact mt2_if_acmp F hS2 hP2 ho h kk
  case invokestatic => exact mt2_copy F hS2 hP2 hfr hlo ho h kk
  all_goals (cases h)
end ME8
