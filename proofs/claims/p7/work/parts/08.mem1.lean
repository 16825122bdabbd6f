section MD8
variable {p : Program} {l : Launch} {e : Env} {R : Room} {s : State} {m : MethodId} {args : Array Value} {below : List Frame} {meth : Method} {c : Code} {Q : State → Prop}
variable {D : va_G} {cl : List vw_C} {tys : List (ClassId × FieldType)} {B : Nat} {ex : Nat → Nat} {S0 : mm_S} {nL : Nat} {cc : ByteArray} {Ts : List Jvm.Cond} {aT : List FieldType} {T : mm_T} {own : String} {oc : Nat} {pool : Nat → Option mm_P} {ini : Bool} {scr : Nat × (Nat → Int32)}
theorem mm_same_arr {ty : FieldType} {k0 : Nat} {cA : ClassId} (h1 : tys[k0]? = some (mm_aC tys k0, ty)) (hK : va_K D cl (tys ++ [(cA, ty)]) s) : cA = mm_aC tys k0 := by
  have h2 : (tys ++ [(cA, ty)])[k0]? = some (mm_aC tys k0, ty) := by
    rw [List.getElem?_append_left (List.getElem?_eq_some_iff.mp h1).1]
    exact h1
  have h3 : (tys ++ [(cA, ty)])[tys.length]? = some (cA, ty) := by
    rw [List.getElem?_append_right (Nat.le_refl _)]
    simp
  have r1 := (hK.2 _ _ h2).2
  have r2 := (hK.2 _ _ h3).2
  unfold va_RA at r1 r2
  cases ty with
  | object C =>
    obtain ⟨_, _, -, -, -, q1⟩ := r1
    obtain ⟨_, _, -, -, -, q2⟩ := r2
    exact Option.some.inj (q2.symm.trans q1)
  | _ => exact Option.some.inj (Eq.trans (Eq.symm r2) r1)
set_option maxHeartbeats 1000000 in
theorem mt_newarray (F : mm_Fix p R s m args meth c D cl tys B ex S0 nL cc Ts aT T own oc pool ini scr) {pc nx tg : Nat} {L : mm_L} {st : List Value} {S : mm_S} {k : mm_Kf} {t : ArrayType} (ho : mm_ok cc pc (.newarray t) nx tg) (h : mm_st1 T ini oc pool scr (.newarray t) nx L st S = some k) (kk : mm_At p l e R s m args below meth c Q D cl tys (mm_phi B ex) B S0 nL k) : mm_At p l e R s m args below meth c Q D cl tys (mm_phi B ex) B S0 nL (pc, L, st, S) := by
  obtain ⟨⟨len, hd, rfl, hl⟩, -⟩ := ho
  have hl : len = 2 := hl (fun _ _ _ _ q => by cases q) (fun _ _ q => by cases q)
  subst hl
  obtain ⟨⟨hx, hb, hml, hown, hlk, hini⟩, ⟨hts, hK, hcl, hpl⟩, ⟨haT, ⟨hAn, hCn, hA0, hA1, hA2⟩, hA3⟩, hAC, ⟨hB, hRc, hRs, hlcb⟩, hX, hX0, hXs⟩ := F
  replace h : mm_na T t _ L st S = some k := h
  unfold mm_na at h
  split at h
  · rename_i x r
    split at h
    rotate_left
    · cases h
    rename_i hc
    obtain ⟨hc1, hc2, hc3, hc4⟩ := hc
    split at h
    · cases h
      intro ls H locs h1 h0 h2 h3 h4 h5
      dsimp only at h4 h5 ⊢
      have hD := mm_ws_D (B := B) (ex := ex) (tys := tys) h4.2
      have h40 : S0.1 ≤ S.1 := h4.1
      have h50 : S0.2.1 ≤ S.2.1 := h5
      have hby : x.toNatClampNeg * componentBytes .int ≤ 536870912 := Nat.le_trans (Nat.mul_le_mul hc2 (show componentBytes .int ≤ 8 by decide)) (by decide)
      refine va_newa (atype := .int) (ty := .int) (N' := x.toNatClampNeg) (a0 := (x.toNatClampNeg, .inl (fun _ => 0))) hx hb (hAC .int (Or.inl rfl)) rfl hK h2 hD h3 (fun q hq => (show B ≤ q by omega)) (fun cA => rfl) (by rw [Int32.lt_iff_toInt_lt, Int32.toInt_zero]; omega) rfl hby (by omega) (by omega) hd (fun q cA H1 hK1 hP1 hD1 hS1 => ?_)
      have hcA := mm_same_arr (haT _ _ hA0) hK1
      subst hcA
      refine mm_sz fun hz => ?_
      have hq := mm_newq (S := S) (by omega) hP1 hD1 (by omega)
      subst hq
      have hw : mm_ws (mm_phi B ex) tys S ++ [(mm_phi B ex S.1, .inl (mm_aC tys 0, (x.toNatClampNeg, .inl (fun _ => 0))))] = mm_ws (mm_phi B ex) tys (mm_add S x.toNatClampNeg (.inl (0, (x.toNatClampNeg, .inl (fun _ => 0))))) := mm_ws_add _ (.inl (0, (x.toNatClampNeg, .inl (fun _ => 0))))
      rw [hw] at hP1
      refine W.cs (cells' := (S.1 + 1) - S0.1) (slots' := (S.2.1 + x.toNatClampNeg) - S0.2.1) (by omega) (by omega) ?_
      exact kk ls H1 locs h1 h0 hP1 hS1 ⟨by show S0.1 ≤ S.1 + 1; omega, by show S.1 + 1 ≤ mm_big; omega⟩ (by show S0.2.1 ≤ S.2.1 + x.toNatClampNeg; omega)
    · cases h
      intro ls H locs h1 h0 h2 h3 h4 h5
      dsimp only at h4 h5 ⊢
      have hD := mm_ws_D (B := B) (ex := ex) (tys := tys) h4.2
      have h40 : S0.1 ≤ S.1 := h4.1
      have h50 : S0.2.1 ≤ S.2.1 := h5
      have hby : x.toNatClampNeg * componentBytes .long ≤ 536870912 := Nat.le_trans (Nat.mul_le_mul hc2 (show componentBytes .long ≤ 8 by decide)) (by decide)
      refine va_newa (atype := .long) (ty := .long) (N' := x.toNatClampNeg) (a0 := (x.toNatClampNeg, .inr (.inl (fun _ => 0)))) hx hb (hAC .long (Or.inr (Or.inl rfl))) rfl hK h2 hD h3 (fun q hq => (show B ≤ q by omega)) (fun cA => rfl) (by rw [Int32.lt_iff_toInt_lt, Int32.toInt_zero]; omega) rfl hby (by omega) (by omega) hd (fun q cA H1 hK1 hP1 hD1 hS1 => ?_)
      have hcA := mm_same_arr (haT _ _ hA1) hK1
      subst hcA
      refine mm_sz fun hz => ?_
      have hq := mm_newq (S := S) (by omega) hP1 hD1 (by omega)
      subst hq
      have hw : mm_ws (mm_phi B ex) tys S ++ [(mm_phi B ex S.1, .inl (mm_aC tys 1, (x.toNatClampNeg, .inr (.inl (fun _ => 0)))))] = mm_ws (mm_phi B ex) tys (mm_add S x.toNatClampNeg (.inl (1, (x.toNatClampNeg, .inr (.inl (fun _ => 0)))))) := mm_ws_add _ (.inl (1, (x.toNatClampNeg, .inr (.inl (fun _ => 0)))))
      rw [hw] at hP1
      refine W.cs (cells' := (S.1 + 1) - S0.1) (slots' := (S.2.1 + x.toNatClampNeg) - S0.2.1) (by omega) (by omega) ?_
      exact kk ls H1 locs h1 h0 hP1 hS1 ⟨by show S0.1 ≤ S.1 + 1; omega, by show S.1 + 1 ≤ mm_big; omega⟩ (by show S0.2.1 ≤ S.2.1 + x.toNatClampNeg; omega)
    · cases h
      intro ls H locs h1 h0 h2 h3 h4 h5
      dsimp only at h4 h5 ⊢
      have hD := mm_ws_D (B := B) (ex := ex) (tys := tys) h4.2
      have h40 : S0.1 ≤ S.1 := h4.1
      have h50 : S0.2.1 ≤ S.2.1 := h5
      have hby : x.toNatClampNeg * componentBytes .boolean ≤ 536870912 := Nat.le_trans (Nat.mul_le_mul hc2 (show componentBytes .boolean ≤ 8 by decide)) (by decide)
      refine va_newa (atype := .boolean) (ty := .boolean) (N' := x.toNatClampNeg) (a0 := (x.toNatClampNeg, .inl (fun _ => 0))) hx hb (hAC .boolean (Or.inr (Or.inr rfl))) rfl hK h2 hD h3 (fun q hq => (show B ≤ q by omega)) (fun cA => rfl) (by rw [Int32.lt_iff_toInt_lt, Int32.toInt_zero]; omega) rfl hby (by omega) (by omega) hd (fun q cA H1 hK1 hP1 hD1 hS1 => ?_)
      have hcA := mm_same_arr (haT _ _ hA2) hK1
      subst hcA
      refine mm_sz fun hz => ?_
      have hq := mm_newq (S := S) (by omega) hP1 hD1 (by omega)
      subst hq
      have hw : mm_ws (mm_phi B ex) tys S ++ [(mm_phi B ex S.1, .inl (mm_aC tys 2, (x.toNatClampNeg, .inl (fun _ => 0))))] = mm_ws (mm_phi B ex) tys (mm_add S x.toNatClampNeg (.inl (2, (x.toNatClampNeg, .inl (fun _ => 0))))) := mm_ws_add _ (.inl (2, (x.toNatClampNeg, .inl (fun _ => 0))))
      rw [hw] at hP1
      refine W.cs (cells' := (S.1 + 1) - S0.1) (slots' := (S.2.1 + x.toNatClampNeg) - S0.2.1) (by omega) (by omega) ?_
      exact kk ls H1 locs h1 h0 hP1 hS1 ⟨by show S0.1 ≤ S.1 + 1; omega, by show S.1 + 1 ≤ mm_big; omega⟩ (by show S0.2.1 ≤ S.2.1 + x.toNatClampNeg; omega)
    · cases h
  · cases h
set_option maxHeartbeats 1000000 in
theorem mt_anewarray (F : mm_Fix p R s m args meth c D cl tys B ex S0 nL cc Ts aT T own oc pool ini scr) {pc nx tg : Nat} {L : mm_L} {st : List Value} {S : mm_S} {k : mm_Kf} {x : Nat} (ho : mm_ok cc pc (.anewarray x) nx tg) (h : mm_st1 T ini oc pool scr (.anewarray x) nx L st S = some k) (kk : mm_At p l e R s m args below meth c Q D cl tys (mm_phi B ex) B S0 nL k) : mm_At p l e R s m args below meth c Q D cl tys (mm_phi B ex) B S0 nL (pc, L, st, S) := by
  obtain ⟨⟨len, hd, rfl, hl⟩, -⟩ := ho
  have hl : len = 3 := hl (fun _ _ _ _ q => by cases q) (fun _ _ q => by cases q)
  subst hl
  obtain ⟨⟨hx, hb, hml, hown, hlk, hini⟩, ⟨hts, hK, hcl, hpl⟩, ⟨haT, ⟨hAn, hCn, hA0, hA1, hA2⟩, hA3⟩, hAC, ⟨hB, hRc, hRs, hlcb⟩, hX, hX0, hXs⟩ := F
  replace h : mm_nq T pool x _ L st S = some k := h
  unfold mm_nq at h
  split at h
  · rename_i ci n r hp
    split at h
    · rename_i hc
      obtain ⟨hc1, hc2, hc3, hc4, ⟨hc5, hc6⟩⟩ := hc
      cases h
      obtain ⟨CC, hl1, -, hka⟩ := hpl.2.1 _ _ hp
      have hk0 := hka hc5 hc6
      obtain ⟨C2, hC2, hov, -⟩ := hA3 _ hc5 _ hk0
      cases hC2
      intro ls H locs h1 h0 h2 h3 h4 h5
      dsimp only at h4 h5 ⊢
      have hD := mm_ws_D (B := B) (ex := ex) (tys := tys) h4.2
      have h40 : S0.1 ≤ S.1 := h4.1
      have h50 : S0.2.1 ≤ S.2.1 := h5
      refine va_newq (N' := n.toNatClampNeg) hx hb hown (hts _ hl1) (va_AO.of hov) hK h2 hD h3 (fun q hq => (show B ≤ q by omega)) (by rw [Int32.lt_iff_toInt_lt, Int32.toInt_zero]; omega) rfl (by omega) (by omega) (by omega) hd (fun q cA H1 hK1 hP1 hD1 hS1 => ?_)
      have hcA := mm_same_arr (haT _ _ hk0) hK1
      subst hcA
      refine mm_sz fun hz => ?_
      have hq := mm_newq (S := S) (by omega) hP1 hD1 (by omega)
      subst hq
      have hw : mm_ws (mm_phi B ex) tys S ++ [(mm_phi B ex S.1, .inl (mm_aC tys (mm_ka T ci), n.toNatClampNeg, .inr (.inr (.inr (.inr (fun _ => none))))))] = mm_ws (mm_phi B ex) tys (mm_add S n.toNatClampNeg (.inl (mm_ka T ci, n.toNatClampNeg, .inr (.inr (.inr (.inr (fun _ => none))))))) := mm_ws_add _ (.inl (mm_ka T ci, n.toNatClampNeg, .inr (.inr (.inr (.inr (fun _ => none))))))
      rw [hw] at hP1
      refine W.cs (cells' := (S.1 + 1) - S0.1) (slots' := (S.2.1 + n.toNatClampNeg) - S0.2.1) (by omega) (by omega) ?_
      exact kk ls H1 locs h1 h0 hP1 hS1 ⟨by show S0.1 ≤ S.1 + 1; omega, by show S.1 + 1 ≤ mm_big; omega⟩ (by show S0.2.1 ≤ S.2.1 + n.toNatClampNeg; omega)
    · cases h
  · cases h
set_option maxHeartbeats 1000000 in
theorem mt_ldc2_w (F : mm_Fix p R s m args meth c D cl tys B ex S0 nL cc Ts aT T own oc pool ini scr) {pc nx tg : Nat} {L : mm_L} {st : List Value} {S : mm_S} {k : mm_Kf} {x : Nat} (ho : mm_ok cc pc (.ldc2_w x) nx tg) (h : mm_st1 T ini oc pool scr (.ldc2_w x) nx L st S = some k) (kk : mm_At p l e R s m args below meth c Q D cl tys (mm_phi B ex) B S0 nL k) : mm_At p l e R s m args below meth c Q D cl tys (mm_phi B ex) B S0 nL (pc, L, st, S) := by
  obtain ⟨⟨len, hd, rfl, hl⟩, -⟩ := ho
  have hl : len = 3 := hl (fun _ _ _ _ q => by cases q) (fun _ _ q => by cases q)
  subst hl
  obtain ⟨⟨hx, hb, hml, hown, hlk, hini⟩, ⟨hts, hK, hcl, hpl⟩, ⟨haT, ⟨hAn, hCn, hA0, hA1, hA2⟩, hA3⟩, hAC, ⟨hB, hRc, hRs, hlcb⟩, hX, hX0, hXs⟩ := F
  replace h : mm_lc2 pool x _ L st S = some k := h
  unfold mm_lc2 at h
  split at h
  · rename_i v hp
    cases h
    intro ls H locs h1 h0 h2 h3 h4 h5
    exact lv_ldc2 hx hb hown (hts _ (hpl.2.2.2 _ _ hp)) hd (kk ls H locs h1 h0 h2 h3 h4 h5)
  · cases h
theorem mt_ldc (F : mm_Fix p R s m args meth c D cl tys B ex S0 nL cc Ts aT T own oc pool ini scr) (hst : ∀ x k, pool x = some (.inr (.inr (.inr (.inr (.inr k))))) → 0 < k → k < 2000 → ∃ tx, vk_R own x tx (ex k) s) {pc nx tg : Nat} {L : mm_L} {st : List Value} {S : mm_S} {k : mm_Kf} {x : Nat} (ho : mm_ok cc pc (.ldc x) nx tg) (h : mm_st1 T ini oc pool scr (.ldc x) nx L st S = some k) (kk : mm_At p l e R s m args below meth c Q D cl tys (mm_phi B ex) B S0 nL k) : mm_At p l e R s m args below meth c Q D cl tys (mm_phi B ex) B S0 nL (pc, L, st, S) := by
  obtain ⟨⟨len, hd, rfl, hl⟩, -⟩ := ho
  have hl : len = 2 := hl (fun _ _ _ _ q => by cases q) (fun _ _ q => by cases q)
  subst hl
  obtain ⟨⟨hx, hb, hml, hown, hlk, hini⟩, ⟨hts, hK, hcl, hpl⟩, -⟩ := F
  replace h : mm_lc1 pool x _ L st S = some k := h
  unfold mm_lc1 at h
  split at h
  · rename_i v hp
    cases h
    intro ls H locs h1 h0 h2 h3 h4 h5
    exact lv_ldc hx hb hown (hts _ (hpl.2.2.1 _ _ hp)) hd (kk ls H locs h1 h0 h2 h3 h4 h5)
  · rename_i j hp
    split at h
    case isFalse => cases h
    rename_i hj
    cases h
    obtain ⟨tx, hZ⟩ := hst _ _ hp hj.1 hj.2
    intro ls H locs h1 h0 h2 h3 h4 h5
    have h8 : ¬ (mm_big + j < mm_big) := by omega
    have h9 : mm_phi B ex (mm_big + j) = ex j := by simp [mm_phi, h8]
    have kk := kk ls H locs h1 h0 h2 h3 h4 h5
    refine va_ldcS hx hb hown hZ hd ?_
    simpa [mm_tv, h9] using kk
  · cases h
set_option maxHeartbeats 1000000 in
theorem mt_ldc_w (F : mm_Fix p R s m args meth c D cl tys B ex S0 nL cc Ts aT T own oc pool ini scr) {pc nx tg : Nat} {L : mm_L} {st : List Value} {S : mm_S} {k : mm_Kf} {x : Nat} (ho : mm_ok cc pc (.ldc_w x) nx tg) (h : mm_st1 T ini oc pool scr (.ldc_w x) nx L st S = some k) (kk : mm_At p l e R s m args below meth c Q D cl tys (mm_phi B ex) B S0 nL k) : mm_At p l e R s m args below meth c Q D cl tys (mm_phi B ex) B S0 nL (pc, L, st, S) := by
  obtain ⟨⟨len, hd, rfl, hl⟩, -⟩ := ho
  have hl : len = 3 := hl (fun _ _ _ _ q => by cases q) (fun _ _ q => by cases q)
  subst hl
  obtain ⟨⟨hx, hb, hml, hown, hlk, hini⟩, ⟨hts, hK, hcl, hpl⟩, ⟨haT, ⟨hAn, hCn, hA0, hA1, hA2⟩, hA3⟩, hAC, ⟨hB, hRc, hRs, hlcb⟩, hX, hX0, hXs⟩ := F
  replace h : mm_lcw pool x _ L st S = some k := h
  unfold mm_lcw at h
  split at h
  · rename_i v hp
    cases h
    intro ls H locs h1 h0 h2 h3 h4 h5
    exact lv_ldcw hx hb hown (hts _ (hpl.2.2.1 _ _ hp)) hd (kk ls H locs h1 h0 h2 h3 h4 h5)
  · cases h
set_option maxHeartbeats 4000000 in
theorem mt_all (F : mm_Fix p R s m args meth c D cl tys B ex S0 nL cc Ts aT T own oc pool ini scr) (hst : ∀ x k, pool x = some (.inr (.inr (.inr (.inr (.inr k))))) → 0 < k → k < 2000 → ∃ tx, vk_R own x tx (ex k) s) {i : Instr} {pc nx tg : Nat} {L : mm_L} {st : List Value} {S : mm_S} {k : mm_Kf} (ho : mm_ok cc pc i nx tg) (h : mm_st1 T ini oc pool scr i nx L st S = some k) (kk : mm_At p l e R s m args below meth c Q D cl tys (mm_phi B ex) B S0 nL k) : mm_At p l e R s m args below meth c Q D cl tys (mm_phi B ex) B S0 nL (pc, L, st, S) := by
  cases i

  case getfield => exact mt_getfield F ho h kk
  case putfield => exact mt_putfield F ho h kk
  case iaload => exact mt_iaload F ho h kk
  case baload => exact mt_baload F ho h kk
  case laload => exact mt_laload F ho h kk
  case aaload => exact mt_aaload F ho h kk
  case iastore => exact mt_iastore F ho h kk
  case bastore => exact mt_bastore F ho h kk
  case lastore => exact mt_lastore F ho h kk
  case aastore => exact mt_aastore F ho h kk
  case arraylength => exact mt_arraylength F ho h kk
  case new => exact mt_new F ho h kk
  case newarray => exact mt_newarray F ho h kk
  case anewarray => exact mt_anewarray F ho h kk
  case ldc2_w => exact mt_ldc2_w F ho h kk
  case ldc_w => exact mt_ldc_w F ho h kk
  case ldc => exact mt_ldc F hst ho h kk
  all_goals (cases h)
end MD8
