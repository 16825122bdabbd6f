section MC7
variable {p : Program} {l : Launch} {e : Env} {R : Room} {s : State} {m : MethodId} {args : Array Value} {below : List Frame} {meth : Method} {c : Code} {Q : State → Prop}
variable {D : va_G} {cl : List vw_C} {tys : List (ClassId × FieldType)} {B : Nat} {ex : Nat → Nat} {S0 : mm_S} {nL : Nat} {cc : ByteArray} {Ts : List Jvm.Cond} {aT : List FieldType} {T : mm_T} {own : String} {oc : Nat} {pool : Nat → Option mm_P} {ini : Bool} {scr : Nat × (Nat → Int32)}
/-- what stands fast during a walk: the machine, the code, the words, the classes, the tables, the room, the script -/
def mm_Fix (p : Program) (R : Room) (s : State) (m : MethodId) (args : Array Value) (meth : Method) (c : Code) (D : va_G) (cl : List vw_C) (tys : List (ClassId × FieldType)) (B : Nat) (ex : Nat → Nat) (S0 : mm_S) (nL : Nat) (cc : ByteArray) (Ts : List Jvm.Cond) (aT : List FieldType) (T : mm_T) (own : String) (oc : Nat) (pool : Nat → Option mm_P) (ini : Bool) (scr : Nat × (Nat → Int32)) : Prop :=
  (p.tables.exec = Jvm.exec ∧ c.code = cc ∧ c.maxLocals = nL ∧ s.vm.findClass own = some m.cls ∧ meth.locks = false ∧ (ini = true → meth.name = "<init>")) ∧
  ((∀ w ∈ Ts, w.before args s = true) ∧ va_K D cl tys s ∧ mm_clOK Ts cl T ∧ mm_plOK Ts cl aT T own oc pool) ∧
  ((∀ k ty, aT[k]? = some ty → tys[k]? = some (mm_aC tys k, ty)) ∧ (aT.length = mm_nk T ∧ cl.length = mm_nc T ∧ aT[0]? = some .int ∧ aT[1]? = some .long ∧ aT[2]? = some .boolean) ∧ (∀ k, 3 ≤ k → ∀ ty, aT[k]? = some ty → ∃ C : String, ty = .object C ∧ (Jvm.Cond.arrayOver (.object C)).before args s = true ∧ ∀ r : vw_C, cl[mm_kc T k]? = some r → r.1 = C)) ∧
  (∀ ty, ty = .int ∨ ty = .long ∨ ty = .boolean → (Jvm.Cond.arrayClass ty).before args s = true) ∧
  (s.heap.size = B + S0.1 ∧ R.cells = mm_lc T - S0.1 ∧ R.slots = mm_lsl T - S0.2.1 ∧ mm_lc T ≤ mm_big) ∧
  (va_X (ex 0) scr.1 scr.2 s s.heap ∧ ex 0 < B ∧ (∀ C, aT[5]? = some (.object C) → ∀ j, 1 ≤ j → j ≤ mm_nx T → va_O C (ex j) (fun q => B ≤ q) s s.heap ∧ ∀ cC, s.vm.findClass C = some cC → s.vm.assignable cC cC = true))
theorem mm_sz {H : Heap} {locs : List Loc} {cells slots : Nat} {g : JFrame} (k : H.size ≤ s.heap.size + cells → W p l e R s m args below meth c H locs cells slots Q g) : W p l e R s m args below meth c H locs cells slots Q g :=
  fun U hU X => k (by rw [← hU]; exact X.heapSize) U hU X
theorem mm_newq {S : mm_S} {q : Nat} {en : va_E} {H1 : Heap} (hS : S.1 < mm_big) (hP : va_P D cl (mm_ws (mm_phi B ex) tys S ++ [(q, en)]) H1) (hD : va_D (fun q => B ≤ q) (mm_ws (mm_phi B ex) tys S ++ [(q, en)])) (hz : H1.size ≤ B + S.1 + 1) : q = mm_phi B ex S.1 := by
  rw [mm_phi_lt hS]
  have hl : (mm_ws (mm_phi B ex) tys S ++ [(q, en)])[S.1]? = some (q, en) := by
    rw [List.getElem?_append_right (by rw [mm_ws_len]; exact Nat.le_refl _), mm_ws_len]
    simp
  have h1 : B ≤ q := hD.2 _ _ hl
  have h2 : q < H1.size := (hP _ _ hl).lt
  rcases Nat.lt_or_ge q (B + S.1) with h3 | h3
  · exfalso
    have hk : q - B < S.1 := by omega
    have hq : (mm_ws (mm_phi B ex) tys S ++ [(q, en)])[q - B]? = some (mm_phi B ex (q - B), mm_te (mm_phi B ex) tys (S.2.2 (q - B))) := by
      rw [List.getElem?_append_left (by rw [mm_ws_len]; exact hk)]
      exact mm_ws_at hk
    have := hD.1 _ _ _ _ hq hl (by show mm_phi B ex (q - B) = q; rw [mm_phi_lt (by omega)]; omega)
    omega
  · omega

set_option maxHeartbeats 1000000 in
theorem mt_getfield (F : mm_Fix p R s m args meth c D cl tys B ex S0 nL cc Ts aT T own oc pool ini scr) {pc nx tg : Nat} {L : mm_L} {st : List Value} {S : mm_S} {k : mm_Kf} {x : Nat} (ho : mm_ok cc pc (.getfield x) nx tg) (h : mm_st1 T ini oc pool scr (.getfield x) nx L st S = some k) (kk : mm_At p l e R s m args below meth c Q D cl tys (mm_phi B ex) B S0 nL k) : mm_At p l e R s m args below meth c Q D cl tys (mm_phi B ex) B S0 nL (pc, L, st, S) := by
  obtain ⟨⟨len, hd, rfl, hl⟩, -⟩ := ho
  have hl : len = 3 := hl (fun _ _ _ _ q => by cases q) (fun _ _ q => by cases q)
  subst hl
  obtain ⟨⟨hx, hb, hml, hown, hlk, hini⟩, ⟨hts, hK, hcl, hpl⟩, ⟨haT, ⟨hAn, hCn, hA0, hA1, hA2⟩, hA3⟩, hAC, ⟨hB, hRc, hRs, hlcb⟩, hX, hX0, hXs⟩ := F
  replace h : mm_gf pool x _ L st S = some k := h
  unfold mm_gf at h
  split at h
  · rename_i ci k0 a r hp
    split at h
    · rename_i c' fs hE
      split at h
      · rename_i hc
        obtain ⟨ha, rfl⟩ := hc
        split at h
        · rename_i v hv
          cases h
          obtain ⟨⟨C, F, N⟩, hc, hk, hlink, -⟩ := hpl.1 _ _ _ hp
          have hcl1 := hcl _ _ hc
          intro ls H locs h1 h0 h2 h3 h4 h5
          have hat : (mm_ws (mm_phi B ex) tys S)[a]? = some (mm_phi B ex a, .inr (c', fs.map (mm_tv (mm_phi B ex)))) := by
            rw [mm_ws_at ha, hE]; rfl
          have hv2 : (fs.map (mm_tv (mm_phi B ex)))[k0]? = some (mm_tv (mm_phi B ex) v) := by rw [List.getElem?_map, hv]; rfl
          rcases hlink with hlink | ⟨-, host, hlink⟩
          · exact va_get (ref := (F k0).1) hx hb hts hcl1.1 hown hK h2 a hat hc k0 hk (hts _ hlink) (fun _ z => z) hv2 hd (kk ls H locs h1 h0 h2 h3 h4 h5)
          · exact va_getN (ref := (F k0).1) (host := host) hx hb hts hcl1.1 hown hK h2 a hat hc k0 hk (hts _ hlink) (fun _ z => z) hv2 hd (kk ls H locs h1 h0 h2 h3 h4 h5)
        · cases h
      · cases h
    · cases h
  · cases h
set_option maxHeartbeats 1000000 in
theorem mt_putfield (F : mm_Fix p R s m args meth c D cl tys B ex S0 nL cc Ts aT T own oc pool ini scr) {pc nx tg : Nat} {L : mm_L} {st : List Value} {S : mm_S} {k : mm_Kf} {x : Nat} (ho : mm_ok cc pc (.putfield x) nx tg) (h : mm_st1 T ini oc pool scr (.putfield x) nx L st S = some k) (kk : mm_At p l e R s m args below meth c Q D cl tys (mm_phi B ex) B S0 nL k) : mm_At p l e R s m args below meth c Q D cl tys (mm_phi B ex) B S0 nL (pc, L, st, S) := by
  obtain ⟨⟨len, hd, rfl, hl⟩, -⟩ := ho
  have hl : len = 3 := hl (fun _ _ _ _ q => by cases q) (fun _ _ q => by cases q)
  subst hl
  obtain ⟨⟨hx, hb, hml, hown, hlk, hini⟩, ⟨hts, hK, hcl, hpl⟩, ⟨haT, ⟨hAn, hCn, hA0, hA1, hA2⟩, hA3⟩, hAC, ⟨hB, hRc, hRs, hlcb⟩, hX, hX0, hXs⟩ := F
  replace h : mm_pf T ini oc pool x _ L st S = some k := h
  unfold mm_pf at h
  split at h
  · rename_i ci k0 v a r hp
    split at h
    · rename_i c' fs hE
      split at h
      · rename_i hc
        obtain ⟨ha, rfl, hkl, hft, hfin⟩ := hc
        cases h
        obtain ⟨⟨C, F, N⟩, hc, hk, hlink, hdecl⟩ := hpl.1 _ _ _ hp
        obtain ⟨c1, c2, c3, c4, -⟩ := hcl _ _ hc
        obtain ⟨f1, f2⟩ := mm_fit_ok (φ := mm_phi B ex) hft
        intro ls H locs h1 h0 h2 h3 h4 h5
        have hat : (mm_ws (mm_phi B ex) tys S)[a]? = some (mm_phi B ex a, .inr (c', fs.map (mm_tv (mm_phi B ex)))) := by
          rw [mm_ws_at ha, hE]; rfl
        have hset : (mm_ws (mm_phi B ex) tys S).set a (mm_phi B ex a, .inr (c', (fs.map (mm_tv (mm_phi B ex))).set k0 (mm_tv (mm_phi B ex) v))) = mm_ws (mm_phi B ex) tys (mm_up S a (.inr (c', fs.set k0 v))) := by
          rw [← mm_ws_up _ ha]
          simp only [mm_te, List.map_set]
        have hD := mm_ws_D (B := B) (ex := ex) (tys := tys) h4.2
        have hl2 : k0 < (fs.map (mm_tv (mm_phi B ex))).length := by rw [List.length_map]; exact hkl
        have fin : ∀ (H1 : Heap) (locs1 : List Loc), va_P D cl ((mm_ws (mm_phi B ex) tys S).set a (mm_phi B ex a, .inr (c', (fs.map (mm_tv (mm_phi B ex))).set k0 (mm_tv (mm_phi B ex) v)))) H1 → va_S (fun q => B ≤ q) s.heap H1 locs1 → W p l e R s m args below meth c H1 locs1 (S.1 - S0.1) (S.2.1 - S0.2.1) Q (F0 m (pc + 3) ls (r.map (mm_tv (mm_phi B ex)))) := fun H1 locs1 hP1 hS1 =>
          kk ls H1 locs1 h1 h0 (by rw [hset] at hP1; exact hP1) hS1 h4 h5
        rcases hlink with hlink | ⟨hne, host, hlink⟩
        · rcases hfin with hfin | ⟨hi1, hi2⟩
          · exact va_put (ref := (F k0).1) hx hb hts c1 (mm_ft T c') c2 c3 hown hK h2 hD h3 a hat hc k0 hk (hts _ hlink) (fun _ z => z) (by rw [← c4 k0 hk]; exact hfin) (c2 k0 hk) f1 f2 hl2 hd (fun H1 locs1 hP1 _ hS1 => fin H1 locs1 hP1 hS1)
          · rcases hff : (F k0).2.2.2 with _ | _
            · exact va_put (ref := (F k0).1) hx hb hts c1 (mm_ft T c') c2 c3 hown hK h2 hD h3 a hat hc k0 hk (hts _ hlink) (fun _ z => z) hff (c2 k0 hk) f1 f2 hl2 hd (fun H1 locs1 hP1 _ hS1 => fin H1 locs1 hP1 hS1)
            · exact va_putF (ref := (F k0).1) hx hb hts c1 (mm_ft T c') c2 c3 hown hK h2 hD h3 a hat hc k0 hk (hts _ hlink) (fun _ z => z) hff (hini hi1) (hdecl hi2) (c2 k0 hk) f1 f2 hl2 hd (fun H1 locs1 hP1 _ hS1 => fin H1 locs1 hP1 hS1)
        · rcases hfin with hfin | ⟨hi1, hi2⟩
          · exact va_putN (ref := (F k0).1) (host := host) hx hb hts c1 (mm_ft T c') c2 c3 hown hK h2 hD h3 a hat hc k0 hk (hts _ hlink) (fun _ z => z) (by rw [← c4 k0 hk]; exact hfin) (c2 k0 hk) f1 f2 hl2 hd (fun H1 locs1 hP1 _ hS1 => fin H1 locs1 hP1 hS1)
          · exact absurd hi2 hne
      · cases h
    · cases h
  · cases h
set_option maxHeartbeats 1000000 in
theorem mt_baload (F : mm_Fix p R s m args meth c D cl tys B ex S0 nL cc Ts aT T own oc pool ini scr) {pc nx tg : Nat} {L : mm_L} {st : List Value} {S : mm_S} {k : mm_Kf} (ho : mm_ok cc pc (.baload) nx tg) (h : mm_st1 T ini oc pool scr (.baload) nx L st S = some k) (kk : mm_At p l e R s m args below meth c Q D cl tys (mm_phi B ex) B S0 nL k) : mm_At p l e R s m args below meth c Q D cl tys (mm_phi B ex) B S0 nL (pc, L, st, S) := by
  obtain ⟨⟨len, hd, rfl, hl⟩, -⟩ := ho
  have hl : len = 1 := hl (fun _ _ _ _ q => by cases q) (fun _ _ q => by cases q)
  subst hl
  obtain ⟨⟨hx, hb, hml, hown, hlk, hini⟩, ⟨hts, hK, hcl, hpl⟩, ⟨haT, ⟨hAn, hCn, hA0, hA1, hA2⟩, hA3⟩, hAC, ⟨hB, hRc, hRs, hlcb⟩, hX, hX0, hXs⟩ := F
  replace h : mm_za _ L st S = some k := h
  unfold mm_za at h
  split at h
  · rename_i j a r
    split at h
    · rename_i n f hE
      split at h
      · rename_i hc
        cases h
        intro ls H locs h1 h0 h2 h3 h4 h5
        have hat : (mm_ws (mm_phi B ex) tys S)[a]? = some (mm_phi B ex a, .inl (mm_aC tys 2, n, .inl f)) := by
          rw [mm_ws_at hc.1, hE]; rfl
        exact va_zald hx hb hK h2 a 2 hat (haT _ _ hA2) (mm_inb_ok hc.2) hd (kk ls H locs h1 h0 h2 h3 h4 h5)
      · cases h
    · cases h
  · cases h
set_option maxHeartbeats 1000000 in
theorem mt_laload (F : mm_Fix p R s m args meth c D cl tys B ex S0 nL cc Ts aT T own oc pool ini scr) {pc nx tg : Nat} {L : mm_L} {st : List Value} {S : mm_S} {k : mm_Kf} (ho : mm_ok cc pc (.laload) nx tg) (h : mm_st1 T ini oc pool scr (.laload) nx L st S = some k) (kk : mm_At p l e R s m args below meth c Q D cl tys (mm_phi B ex) B S0 nL k) : mm_At p l e R s m args below meth c Q D cl tys (mm_phi B ex) B S0 nL (pc, L, st, S) := by
  obtain ⟨⟨len, hd, rfl, hl⟩, -⟩ := ho
  have hl : len = 1 := hl (fun _ _ _ _ q => by cases q) (fun _ _ q => by cases q)
  subst hl
  obtain ⟨⟨hx, hb, hml, hown, hlk, hini⟩, ⟨hts, hK, hcl, hpl⟩, ⟨haT, ⟨hAn, hCn, hA0, hA1, hA2⟩, hA3⟩, hAC, ⟨hB, hRc, hRs, hlcb⟩, hX, hX0, hXs⟩ := F
  replace h : mm_ja _ L st S = some k := h
  unfold mm_ja at h
  split at h
  · rename_i j a r
    split at h
    · rename_i n f hE
      split at h
      · rename_i hc
        cases h
        intro ls H locs h1 h0 h2 h3 h4 h5
        have hat : (mm_ws (mm_phi B ex) tys S)[a]? = some (mm_phi B ex a, .inl (mm_aC tys 1, n, .inr (.inl f))) := by
          rw [mm_ws_at hc.1, hE]; rfl
        exact va_lald hx hb hK h2 a 1 hat (haT _ _ hA1) (mm_inb_ok hc.2) hd (kk ls H locs h1 h0 h2 h3 h4 h5)
      · cases h
    · cases h
  · cases h
set_option maxHeartbeats 1000000 in
theorem mt_iaload (F : mm_Fix p R s m args meth c D cl tys B ex S0 nL cc Ts aT T own oc pool ini scr) {pc nx tg : Nat} {L : mm_L} {st : List Value} {S : mm_S} {k : mm_Kf} (ho : mm_ok cc pc (.iaload) nx tg) (h : mm_st1 T ini oc pool scr (.iaload) nx L st S = some k) (kk : mm_At p l e R s m args below meth c Q D cl tys (mm_phi B ex) B S0 nL k) : mm_At p l e R s m args below meth c Q D cl tys (mm_phi B ex) B S0 nL (pc, L, st, S) := by
  obtain ⟨⟨len, hd, rfl, hl⟩, -⟩ := ho
  have hl : len = 1 := hl (fun _ _ _ _ q => by cases q) (fun _ _ q => by cases q)
  subst hl
  obtain ⟨⟨hx, hb, hml, hown, hlk, hini⟩, ⟨hts, hK, hcl, hpl⟩, ⟨haT, ⟨hAn, hCn, hA0, hA1, hA2⟩, hA3⟩, hAC, ⟨hB, hRc, hRs, hlcb⟩, hX, hX0, hXs⟩ := F
  replace h : mm_ia scr _ L st S = some k := h
  unfold mm_ia at h
  split at h
  · rename_i j a r
    split at h
    · rename_i hab
      split at h
      · rename_i hj
        cases h
        subst hab
        intro ls H locs h1 h0 h2 h3 h4 h5
        have h9 : mm_phi B ex mm_big = ex 0 := by simp [mm_phi]
        have goal := va_sld (e := e) (l := l) (R := R) (below := below) (meth := meth) (Q := Q) (cells := S.1 - S0.1) (slots := S.2.1 - S0.2.1) (ls := ls) (rest := r.map (mm_tv (mm_phi B ex))) hx hb hX (by omega) (show ¬ (B ≤ ex 0) by omega) h3 (mm_inb_ok hj) hd (kk ls H locs h1 h0 h2 h3 h4 h5)
        simpa [mm_tv, h9] using goal
      · cases h
    · split at h
      · rename_i n f hE
        split at h
        · rename_i hc
          cases h
          intro ls H locs h1 h0 h2 h3 h4 h5
          have hat : (mm_ws (mm_phi B ex) tys S)[a]? = some (mm_phi B ex a, .inl (mm_aC tys 0, n, .inl f)) := by
            rw [mm_ws_at hc.1, hE]; rfl
          exact va_iald hx hb hK h2 a 0 hat (haT _ _ hA0) (mm_inb_ok hc.2) hd (kk ls H locs h1 h0 h2 h3 h4 h5)
        · cases h
      · cases h
  · cases h
theorem mm_tv_rf (φ : Nat → Nat) (o : Option Nat) : mm_tv φ (va_rf o) = va_rf (o.map φ) := by cases o <;> rfl
set_option maxHeartbeats 1000000 in
theorem mt_aaload (F : mm_Fix p R s m args meth c D cl tys B ex S0 nL cc Ts aT T own oc pool ini scr) {pc nx tg : Nat} {L : mm_L} {st : List Value} {S : mm_S} {k : mm_Kf} (ho : mm_ok cc pc (.aaload) nx tg) (h : mm_st1 T ini oc pool scr (.aaload) nx L st S = some k) (kk : mm_At p l e R s m args below meth c Q D cl tys (mm_phi B ex) B S0 nL k) : mm_At p l e R s m args below meth c Q D cl tys (mm_phi B ex) B S0 nL (pc, L, st, S) := by
  obtain ⟨⟨len, hd, rfl, hl⟩, -⟩ := ho
  have hl : len = 1 := hl (fun _ _ _ _ q => by cases q) (fun _ _ q => by cases q)
  subst hl
  obtain ⟨⟨hx, hb, hml, hown, hlk, hini⟩, ⟨hts, hK, hcl, hpl⟩, ⟨haT, ⟨hAn, hCn, hA0, hA1, hA2⟩, hA3⟩, hAC, ⟨hB, hRc, hRs, hlcb⟩, hX, hX0, hXs⟩ := F
  replace h : mm_aa T _ L st S = some k := h
  unfold mm_aa at h
  split at h
  · rename_i j a r
    split at h
    · rename_i k0 n f hE
      split at h
      · rename_i hc
        cases h
        intro ls H locs h1 h0 h2 h3 h4 h5
        have hat : (mm_ws (mm_phi B ex) tys S)[a]? = some (mm_phi B ex a, .inl (mm_aC tys k0, n, .inr (.inr (.inr (.inr (fun j => (f j).map (mm_phi B ex))))))) := by
          rw [mm_ws_at hc.1, hE]; rfl
        have kk := kk ls H locs h1 h0 h2 h3 h4 h5
        simp only [List.map_cons, mm_tv_rf] at kk
        have hk0 : aT[k0]? = some (aT[k0]'(by rw [hAn]; exact hc.2.2.2)) := List.getElem?_eq_getElem _
        generalize aT[k0]'(by rw [hAn]; exact hc.2.2.2) = ty at hk0
        obtain ⟨CC, rfl, -, -⟩ := hA3 k0 hc.2.2.1 ty hk0
        exact va_aldq hx hb hK h2 a k0 hat (haT _ _ hk0) (mm_inb_ok hc.2.1) hd kk
      · cases h
    · cases h
  · cases h
set_option maxHeartbeats 1000000 in
theorem mt_iastore (F : mm_Fix p R s m args meth c D cl tys B ex S0 nL cc Ts aT T own oc pool ini scr) {pc nx tg : Nat} {L : mm_L} {st : List Value} {S : mm_S} {k : mm_Kf} (ho : mm_ok cc pc (.iastore) nx tg) (h : mm_st1 T ini oc pool scr (.iastore) nx L st S = some k) (kk : mm_At p l e R s m args below meth c Q D cl tys (mm_phi B ex) B S0 nL k) : mm_At p l e R s m args below meth c Q D cl tys (mm_phi B ex) B S0 nL (pc, L, st, S) := by
  obtain ⟨⟨len, hd, rfl, hl⟩, -⟩ := ho
  have hl : len = 1 := hl (fun _ _ _ _ q => by cases q) (fun _ _ q => by cases q)
  subst hl
  obtain ⟨⟨hx, hb, hml, hown, hlk, hini⟩, ⟨hts, hK, hcl, hpl⟩, ⟨haT, ⟨hAn, hCn, hA0, hA1, hA2⟩, hA3⟩, hAC, ⟨hB, hRc, hRs, hlcb⟩, hX, hX0, hXs⟩ := F
  replace h : mm_is _ L st S = some k := h
  unfold mm_is at h
  split at h
  · rename_i x j a r
    split at h
    · rename_i n f hE
      split at h
      · rename_i hc
        cases h
        intro ls H locs h1 h0 h2 h3 h4 h5
        have hat : (mm_ws (mm_phi B ex) tys S)[a]? = some (mm_phi B ex a, .inl (mm_aC tys 0, n, .inl f)) := by
          rw [mm_ws_at hc.1, hE]; rfl
        have hD := mm_ws_D (B := B) (ex := ex) (tys := tys) h4.2
        refine va_iast hx hb hK h2 hD h3 a 0 hat (haT _ _ hA0) (mm_inb_ok hc.2) hd (fun H1 locs1 hP1 _ hS1 => kk ls H1 locs1 h1 h0 ?_ hS1 h4 h5)
        rw [← mm_ws_up _ hc.1]
        exact hP1
      · cases h
    · cases h
  · cases h
set_option maxHeartbeats 1000000 in
theorem mt_bastore (F : mm_Fix p R s m args meth c D cl tys B ex S0 nL cc Ts aT T own oc pool ini scr) {pc nx tg : Nat} {L : mm_L} {st : List Value} {S : mm_S} {k : mm_Kf} (ho : mm_ok cc pc (.bastore) nx tg) (h : mm_st1 T ini oc pool scr (.bastore) nx L st S = some k) (kk : mm_At p l e R s m args below meth c Q D cl tys (mm_phi B ex) B S0 nL k) : mm_At p l e R s m args below meth c Q D cl tys (mm_phi B ex) B S0 nL (pc, L, st, S) := by
  obtain ⟨⟨len, hd, rfl, hl⟩, -⟩ := ho
  have hl : len = 1 := hl (fun _ _ _ _ q => by cases q) (fun _ _ q => by cases q)
  subst hl
  obtain ⟨⟨hx, hb, hml, hown, hlk, hini⟩, ⟨hts, hK, hcl, hpl⟩, ⟨haT, ⟨hAn, hCn, hA0, hA1, hA2⟩, hA3⟩, hAC, ⟨hB, hRc, hRs, hlcb⟩, hX, hX0, hXs⟩ := F
  replace h : mm_zs _ L st S = some k := h
  unfold mm_zs at h
  split at h
  · rename_i x j a r
    split at h
    · rename_i n f hE
      split at h
      · rename_i hc
        cases h
        intro ls H locs h1 h0 h2 h3 h4 h5
        have hat : (mm_ws (mm_phi B ex) tys S)[a]? = some (mm_phi B ex a, .inl (mm_aC tys 2, n, .inl f)) := by
          rw [mm_ws_at hc.1, hE]; rfl
        have hD := mm_ws_D (B := B) (ex := ex) (tys := tys) h4.2
        refine va_zast hx hb hK h2 hD h3 a 2 hat (haT _ _ hA2) (mm_inb_ok hc.2) hd (fun H1 locs1 hP1 _ hS1 => kk ls H1 locs1 h1 h0 ?_ hS1 h4 h5)
        rw [← mm_ws_up _ hc.1]
        exact hP1
      · cases h
    · cases h
  · cases h
set_option maxHeartbeats 1000000 in
theorem mt_lastore (F : mm_Fix p R s m args meth c D cl tys B ex S0 nL cc Ts aT T own oc pool ini scr) {pc nx tg : Nat} {L : mm_L} {st : List Value} {S : mm_S} {k : mm_Kf} (ho : mm_ok cc pc (.lastore) nx tg) (h : mm_st1 T ini oc pool scr (.lastore) nx L st S = some k) (kk : mm_At p l e R s m args below meth c Q D cl tys (mm_phi B ex) B S0 nL k) : mm_At p l e R s m args below meth c Q D cl tys (mm_phi B ex) B S0 nL (pc, L, st, S) := by
  obtain ⟨⟨len, hd, rfl, hl⟩, -⟩ := ho
  have hl : len = 1 := hl (fun _ _ _ _ q => by cases q) (fun _ _ q => by cases q)
  subst hl
  obtain ⟨⟨hx, hb, hml, hown, hlk, hini⟩, ⟨hts, hK, hcl, hpl⟩, ⟨haT, ⟨hAn, hCn, hA0, hA1, hA2⟩, hA3⟩, hAC, ⟨hB, hRc, hRs, hlcb⟩, hX, hX0, hXs⟩ := F
  replace h : mm_js _ L st S = some k := h
  unfold mm_js at h
  split at h
  · rename_i x j a r
    split at h
    · rename_i n f hE
      split at h
      · rename_i hc
        cases h
        intro ls H locs h1 h0 h2 h3 h4 h5
        have hat : (mm_ws (mm_phi B ex) tys S)[a]? = some (mm_phi B ex a, .inl (mm_aC tys 1, n, .inr (.inl f))) := by
          rw [mm_ws_at hc.1, hE]; rfl
        have hD := mm_ws_D (B := B) (ex := ex) (tys := tys) h4.2
        refine va_last hx hb hK h2 hD h3 a 1 hat (haT _ _ hA1) (mm_inb_ok hc.2) hd (fun H1 locs1 hP1 _ hS1 => kk ls H1 locs1 h1 h0 ?_ hS1 h4 h5)
        rw [← mm_ws_up _ hc.1]
        exact hP1
      · cases h
    · cases h
  · cases h
set_option maxHeartbeats 1000000 in
theorem mt_aastore (F : mm_Fix p R s m args meth c D cl tys B ex S0 nL cc Ts aT T own oc pool ini scr) {pc nx tg : Nat} {L : mm_L} {st : List Value} {S : mm_S} {k : mm_Kf} (ho : mm_ok cc pc (.aastore) nx tg) (h : mm_st1 T ini oc pool scr (.aastore) nx L st S = some k) (kk : mm_At p l e R s m args below meth c Q D cl tys (mm_phi B ex) B S0 nL k) : mm_At p l e R s m args below meth c Q D cl tys (mm_phi B ex) B S0 nL (pc, L, st, S) := by
  obtain ⟨⟨len, hd, rfl, hl⟩, -⟩ := ho
  have hl : len = 1 := hl (fun _ _ _ _ q => by cases q) (fun _ _ q => by cases q)
  subst hl
  obtain ⟨⟨hx, hb, hml, hown, hlk, hini⟩, ⟨hts, hK, hcl, hpl⟩, ⟨haT, ⟨hAn, hCn, hA0, hA1, hA2⟩, hA3⟩, hAC, ⟨hB, hRc, hRs, hlcb⟩, hX, hX0, hXs⟩ := F
  replace h : mm_as T _ L st S = some k := h
  unfold mm_as at h
  split at h
  · rename_i b j a r
    split at h
    · rename_i k0 n f hE
      split at h
      · rename_i hc
        obtain ⟨ha, hj, ⟨hk3, hkn⟩⟩ := hc
        have hk0 : aT[k0]? = some (aT[k0]'(by rw [hAn]; exact hkn)) := List.getElem?_eq_getElem _
        generalize aT[k0]'(by rw [hAn]; exact hkn) = ty at hk0
        obtain ⟨CC, rfl, -, hr1⟩ := hA3 k0 hk3 ty hk0
        have e1 : mm_te (mm_phi B ex) tys (.inl (k0, n, .inr (.inr (.inr (.inr (va_up f j.toNatClampNeg (some b))))))) = .inl (mm_aC tys k0, n, .inr (.inr (.inr (.inr (va_up (fun j => (f j).map (mm_phi B ex)) j.toNatClampNeg (some (mm_phi B ex b))))))) := by
          have e2 : (fun q => (va_up f j.toNatClampNeg (some b) q).map (mm_phi B ex)) = va_up (fun j => (f j).map (mm_phi B ex)) j.toNatClampNeg (some (mm_phi B ex b)) := by
            funext q
            unfold va_up
            split <;> rfl
          simp only [mm_te, e2]
        have hat : (mm_ws (mm_phi B ex) tys S)[a]? = some (mm_phi B ex a, .inl (mm_aC tys k0, n, .inr (.inr (.inr (.inr (fun j => (f j).map (mm_phi B ex))))))) := by
          rw [mm_ws_at ha, hE]; rfl
        split at h
        · rename_i hbv
          split at h
          · rename_i ci vs hV
            split at h
            · rename_i hci
              cases h
              intro ls H locs h1 h0 h2 h3 h4 h5
              have hbt : (mm_ws (mm_phi B ex) tys S)[b]? = some (mm_phi B ex b, .inr (ci, vs.map (mm_tv (mm_phi B ex)))) := by
                rw [mm_ws_at hbv, hV]; rfl
              have hD := mm_ws_D (B := B) (ex := ex) (tys := tys) h4.2
              have hP2 : va_P D cl (mm_ws (mm_phi B ex) tys S) H := h2
              obtain ⟨rr, hrr, -⟩ := hP2 b _ hbt
              have hrr : cl[ci]? = some rr := hrr
              have hnm := hr1 rr (by rw [hci]; exact hrr)
              subst hnm
              refine va_astq hx hb hK h2 hD h3 a k0 b ci hat (haT _ _ hk0) hbt hrr (mm_inb_ok hj) hd (fun H1 locs1 hP1 _ hS1 => kk ls H1 locs1 h1 h0 ?_ hS1 h4 h5)
              rw [← mm_ws_up _ ha, e1]
              exact hP1
            · cases h
          · cases h
        · split at h
          · rename_i hq
            obtain ⟨hk5, hb1, hb2⟩ := hq
            replace hb1 : @LT.lt Nat _ mm_big b := hb1
            replace hb2 : @LE.le Nat _ b (mm_big + mm_nx T) := hb2
            cases h
            subst hk5
            intro ls H locs h1 h0 h2 h3 h4 h5
            have hD := mm_ws_D (B := B) (ex := ex) (tys := tys) h4.2
            have h8 : ¬ (b < mm_big) := Nat.not_lt.mpr (Nat.le_of_lt hb1)
            have h9 : mm_phi B ex b = ex (b - mm_big) := by simp [mm_phi, h8]
            obtain ⟨⟨cellS, o1, o2, o3, o4⟩, o6⟩ := hXs CC hk0 (b - mm_big) (by omega) (by omega)
            have o5 : H[ex (b - mm_big)]? = some cellS := by
              have h4' : S0.1 ≤ S.1 := h4.1
              rw [h3.2.1 _ (Array.getElem?_eq_some_iff.mp o1).1 o4]
              exact o1
            obtain ⟨kS, hkS, -⟩ := Vm.findClass_spec o3
            refine va_astqM (v := mm_phi B ex b) hx hb hK h2 hD h3 a 5 hat (haT _ _ hk0) ⟨cellS, by rw [h9]; exact o5, o2, ⟨kS, hkS⟩, fun comp hcomp => ?_⟩ (mm_inb_ok hj) hd (fun H1 locs1 hP1 _ hS1 => kk ls H1 locs1 h1 h0 ?_ hS1 h4 h5)
            · cases hcomp.symm.trans o3
              exact o6 _ o3
            · rw [← mm_ws_up _ ha, e1]
              exact hP1
          · cases h
      · cases h
    · cases h
  · cases h
set_option maxHeartbeats 1000000 in
theorem mt_arraylength (F : mm_Fix p R s m args meth c D cl tys B ex S0 nL cc Ts aT T own oc pool ini scr) {pc nx tg : Nat} {L : mm_L} {st : List Value} {S : mm_S} {k : mm_Kf} (ho : mm_ok cc pc (.arraylength) nx tg) (h : mm_st1 T ini oc pool scr (.arraylength) nx L st S = some k) (kk : mm_At p l e R s m args below meth c Q D cl tys (mm_phi B ex) B S0 nL k) : mm_At p l e R s m args below meth c Q D cl tys (mm_phi B ex) B S0 nL (pc, L, st, S) := by
  obtain ⟨⟨len, hd, rfl, hl⟩, -⟩ := ho
  have hl : len = 1 := hl (fun _ _ _ _ q => by cases q) (fun _ _ q => by cases q)
  subst hl
  obtain ⟨⟨hx, hb, hml, hown, hlk, hini⟩, ⟨hts, hK, hcl, hpl⟩, ⟨haT, ⟨hAn, hCn, hA0, hA1, hA2⟩, hA3⟩, hAC, ⟨hB, hRc, hRs, hlcb⟩, hX, hX0, hXs⟩ := F
  replace h : mm_al T scr _ L st S = some k := h
  unfold mm_al at h
  split at h
  · rename_i a r
    split at h
    · rename_i hab
      cases h
      subst hab
      intro ls H locs h1 h0 h2 h3 h4 h5
      have h9 : mm_phi B ex mm_big = ex 0 := by simp [mm_phi]
      have goal := va_slen (e := e) (l := l) (R := R) (below := below) (meth := meth) (Q := Q) (cells := S.1 - S0.1) (slots := S.2.1 - S0.2.1) (ls := ls) (rest := r.map (mm_tv (mm_phi B ex))) hx hb hX (by omega) (show ¬ (B ≤ ex 0) by omega) h3 hd (kk ls H locs h1 h0 h2 h3 h4 h5)
      simpa [mm_tv, h9] using goal
    · split at h
      · rename_i k0 n en hE
        split at h
        · rename_i hc
          cases h
          intro ls H locs h1 h0 h2 h3 h4 h5
          have hk0 : aT[k0]? = some (aT[k0]'(by rw [hAn]; exact hc.2)) := List.getElem?_eq_getElem _
          generalize aT[k0]'(by rw [hAn]; exact hc.2) = ty at hk0
          have hat := mm_ws_at (φ := mm_phi B ex) (tys := tys) hc.1
          rw [hE] at hat
          rcases en with f | f | f | f | f
          · exact va_alen hx hb hK h2 a k0 (x := (n, .inl f)) hat (haT _ _ hk0) rfl hd (kk ls H locs h1 h0 h2 h3 h4 h5)
          · exact va_alen hx hb hK h2 a k0 (x := (n, .inr (.inl f))) hat (haT _ _ hk0) rfl hd (kk ls H locs h1 h0 h2 h3 h4 h5)
          · exact va_alen hx hb hK h2 a k0 (x := (n, .inr (.inr (.inl f)))) hat (haT _ _ hk0) rfl hd (kk ls H locs h1 h0 h2 h3 h4 h5)
          · exact va_alen hx hb hK h2 a k0 (x := (n, .inr (.inr (.inr (.inl f))))) hat (haT _ _ hk0) rfl hd (kk ls H locs h1 h0 h2 h3 h4 h5)
          · exact va_alen hx hb hK h2 a k0 (x := (n, .inr (.inr (.inr (.inr (fun j => (f j).map (mm_phi B ex))))))) hat (haT _ _ hk0) rfl hd (kk ls H locs h1 h0 h2 h3 h4 h5)
        · cases h
      · cases h
  · cases h
set_option maxHeartbeats 1000000 in
theorem mt_new (F : mm_Fix p R s m args meth c D cl tys B ex S0 nL cc Ts aT T own oc pool ini scr) {pc nx tg : Nat} {L : mm_L} {st : List Value} {S : mm_S} {k : mm_Kf} {x : Nat} (ho : mm_ok cc pc (.new x) nx tg) (h : mm_st1 T ini oc pool scr (.new x) nx L st S = some k) (kk : mm_At p l e R s m args below meth c Q D cl tys (mm_phi B ex) B S0 nL k) : mm_At p l e R s m args below meth c Q D cl tys (mm_phi B ex) B S0 nL (pc, L, st, S) := by
  obtain ⟨⟨len, hd, rfl, hl⟩, -⟩ := ho
  have hl : len = 3 := hl (fun _ _ _ _ q => by cases q) (fun _ _ q => by cases q)
  subst hl
  obtain ⟨⟨hx, hb, hml, hown, hlk, hini⟩, ⟨hts, hK, hcl, hpl⟩, ⟨haT, ⟨hAn, hCn, hA0, hA1, hA2⟩, hA3⟩, hAC, ⟨hB, hRc, hRs, hlcb⟩, hX, hX0, hXs⟩ := F
  replace h : mm_nw T pool x _ L st S = some k := h
  unfold mm_nw at h
  split at h
  · rename_i ci hp
    split at h
    · rename_i hc
      cases h
      obtain ⟨⟨hcA, hcB⟩, hcn⟩ := hc
      have hcC : cl[ci]? = some (cl[ci]'(by rw [hCn]; exact hcn)) := List.getElem?_eq_getElem _
      generalize cl[ci]'(by rw [hCn]; exact hcn) = rr at hcC
      obtain ⟨C0, hl1, hl23, -⟩ := hpl.2.1 _ _ hp
      obtain ⟨hnm, hl2, hl3⟩ := hl23 rr hcC
      subst hnm
      obtain ⟨C, F, N⟩ := rr
      obtain ⟨c1, c2, c3, c4, c5, c6⟩ := hcl _ _ hcC
      intro ls H locs h1 h0 h2 h3 h4 h5
      dsimp only at h4 h5 ⊢
      have hD := mm_ws_D (B := B) (ex := ex) (tys := tys) h4.2
      have hN : (mm_fd T ci).length = N := c5
      have hfd : ∀ j, j < N → defaultValue (mm_ft T ci j) = vp_V ((mm_fd T ci).map (mm_tv (mm_phi B ex))) j := by
        intro j hj
        have h6 := c6 j hj
        unfold vp_V at h6 ⊢
        rw [List.getD_eq_getElem?_getD] at h6 ⊢
        rw [List.getElem?_map]
        cases hq : (mm_fd T ci)[j]? with
        | none =>
          rw [List.getElem?_eq_none_iff] at hq
          omega
        | some v =>
          rw [hq] at h6
          simp only [Option.getD_some, Option.map_some] at h6 ⊢
          rw [h6]
          cases mm_ft T ci j <;> rfl
      have h40 : S0.1 ≤ S.1 := h4.1
      have h50 : S0.2.1 ≤ S.2.1 := h5
      refine va_new (ci := ci) (fs := (mm_fd T ci).map (mm_tv (mm_phi B ex))) hx hb hts c1 (mm_ft T ci) c2 hown (hts _ hl1) (hts _ hl2) (hts _ hl3) hK h2 hD h3 (fun q hq => (show B ≤ q by omega)) hcC hfd (by omega) (by omega) hd (fun q H1 hP1 hD1 hS1 => ?_)
      refine mm_sz fun hz => ?_
      have hq := mm_newq (S := S) (by omega) hP1 hD1 (by omega)
      subst hq
      have hw : mm_ws (mm_phi B ex) tys S ++ [(mm_phi B ex S.1, .inr (ci, (mm_fd T ci).map (mm_tv (mm_phi B ex))))] = mm_ws (mm_phi B ex) tys (mm_add S (mm_fd T ci).length (.inr (ci, mm_fd T ci))) := mm_ws_add _ (.inr (ci, mm_fd T ci))
      rw [hw] at hP1
      have g1 : (mm_add S (mm_fd T ci).length (.inr (ci, mm_fd T ci))).1 = S.1 + 1 := rfl
      have g2 : (mm_add S (mm_fd T ci).length (.inr (ci, mm_fd T ci))).2.1 = S.2.1 + (mm_fd T ci).length := rfl
      refine W.cs (cells' := (S.1 + 1) - S0.1) (slots' := (S.2.1 + (mm_fd T ci).length) - S0.2.1) (by omega) (by omega) ?_
      exact kk ls H1 locs h1 h0 hP1 hS1 ⟨by show S0.1 ≤ S.1 + 1; omega, by show S.1 + 1 ≤ mm_big; omega⟩ (by show S0.2.1 ≤ S.2.1 + (mm_fd T ci).length; omega)
    · cases h
  · cases h
end MC7
