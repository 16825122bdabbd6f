/-! contracts of the small machine's methods over the real one -/
section MN12
variable {p : Program} {l : Launch} {e : Env} {R : Room} {s : State} {m : MethodId} {args : Array Value} {below : List Frame} {meth : Method} {c : Code} {T : State} {locs : List Loc} {cells slots : Nat}
def mm_cw (yn : Nat → MethodName) (cc : Nat → ByteArray) (hh : Nat → List (Nat × Nat × Nat × Nat)) (G : mm_G) (g : Nat) : Jvm.Cond := if hh g = [] then .code (yn g) (cc g) (mm_nl G g) (mm_rt G g) else .codeWith (yn g) (cc g) (mm_nl G g) (mm_rt G g) (hh g)
theorem mm_cw_spec {yn : Nat → MethodName} {cc : Nat → ByteArray} {hh : Nat → List (Nat × Nat × Nat × Nat)} {G : mm_G} {g : Nat} {a : Array Value} {U : State} (h : (mm_cw yn cc hh G g).before a U = true) :
    ∃ mk mt cM, U.methodNamed? (yn g) = some mk ∧ U.vm.method? mk = some mt ∧ mt.code = some cM ∧ cM.code = cc g ∧ cM.maxLocals = mm_nl G g ∧ cM.exceptionTable.toList.map (fun h => (h.startPc, h.endPc, h.handlerPc, h.catchType)) = hh g ∧ mt.sig.returnType = mm_rt G g ∧ mt.locks = false ∧ parseMethodDescriptor (yn g).desc = some mt.sig := by
  unfold mm_cw at h
  split at h
  · rename_i he
    obtain ⟨mk, hn⟩ := Cond.code_named h
    obtain ⟨mt, cM, h1, h2, h3, h4, h5, h6, h7, h8⟩ := Cond.code_spec hn h
    refine ⟨mk, mt, cM, hn, h1, h2, h3, h4, ?_, h5, h6, h8⟩
    rw [he]
    have : cM.exceptionTable = #[] := by simpa using h7
    rw [this]
    rfl
  · obtain ⟨mk, mt, cM, h1, h2, h3, h4, h5, h6, h7, h8, h9⟩ := Cond.codeWith_spec h
    exact ⟨mk, mt, cM, h1, h2, h3, h4, h5, h6, h7, h8, h9⟩
def mm_rm (T : mm_T) (d : Nat) (S : mm_S) : Room := { frames := d + 8, cells := mm_lc T - S.1, slots := mm_lsl T - S.2.1, locals := d * 60 + 200 }
def mm_Pre (D : va_G) (cl : List vw_C) (tys : List (ClassId × FieldType)) (φ : Nat → Nat) (B : Nat) (E : State → Prop) (as : List Value) (S : mm_S) : Array Value → State → Prop := fun a U => a = (as.map (mm_tv φ)).toArray ∧ E U ∧ va_P D cl (mm_ws φ tys S) U.heap ∧ U.heap.size = B + S.1 ∧ S.1 ≤ mm_big
def mm_Pst (D : va_G) (cl : List vw_C) (tys : List (ClassId × FieldType)) (φ : Nat → Nat) (B : Nat) (S : mm_S) (Q : mm_O → mm_S → Prop) : Array Value → State → Outcome → State → List Loc → Nat → Nat → Prop := fun _ st o t L k n =>
  ∃ (o' : mm_O) (S' : mm_S), Q o' S' ∧ o = mm_out φ o' ∧ va_P D cl (mm_ws φ tys S') t.heap ∧ (S.1 ≤ S'.1 ∧ S'.1 ≤ mm_big) ∧ S.2.1 ≤ S'.2.1 ∧ k = S'.1 - S.1 ∧ n = S'.2.1 - S.2.1 ∧ (∀ q, q < B → t.heap[q]? = st.heap[q]?) ∧ ∀ q ∈ L, B ≤ q.base
def mm_Con (l : Launch) (yn : Nat → MethodName) (cc : Nat → ByteArray) (hh : Nat → List (Nat × Nat × Nat × Nat)) (G : mm_G) (T : mm_T) (D : va_G) (cl : List vw_C) (tys : List (ClassId × FieldType)) (φ : Nat → Nat) (B : Nat) (E : State → Prop) (d g : Nat) (as : List Value) (S : mm_S) (Q : mm_O → mm_S → Prop) : Prop :=
  mm_C l (yn g) [mm_cw yn cc hh G g] (mm_rm T d S) (mm_Pre D cl tys φ B E as S) (mm_Pst D cl tys φ B S Q)
variable {yn : Nat → MethodName} {cc : Nat → ByteArray} {hh : Nat → List (Nat × Nat × Nat × Nat)} {G : mm_G} {TT : mm_T} {D : va_G} {cl : List vw_C} {tys : List (ClassId × FieldType)} {B : Nat} {ex : Nat → Nat} {E : State → Prop} {Ts : List Jvm.Cond} {S0 : mm_S}
/-- what the world outside the small machine's cells needs: it stays when the tables warm and the cells below B stay; it gives the words -/
def mm_EE (B : Nat) (Ts : List Jvm.Cond) (E : State → Prop) : Prop := (∀ u U : State, E u → u.WarmedH U.vm → (∀ q, q < B → U.heap[q]? = u.heap[q]?) → E U) ∧ ∀ U, E U → ∀ w ∈ Ts, ∀ a, w.before a U = true
theorem mm_va_S {H H' : Heap} {L : List Loc} (h3 : va_S (fun q => B ≤ q) s.heap H locs) (hB : B ≤ s.heap.size) (hz : H.size ≤ H'.size) (hq : ∀ q, q < B → H'[q]? = H[q]?) (hL : ∀ q ∈ L, B ≤ q.base) : va_S (fun q => B ≤ q) s.heap H' (locs ++ L) := by
  refine ⟨Nat.le_trans h3.1 hz, fun q h1 h2 => ?_, fun q hq' => ?_⟩
  · have h2 : ¬ B ≤ q := h2
    rw [hq q (by omega)]
    exact h3.2.1 q h1 h2
  · rcases List.mem_append.mp hq' with h | h
    · exact h3.2.2 q h
    · exact hL q h
set_option maxHeartbeats 4000000 in
/-- A CALL: from the callee's entry by its contract to the frame behind the call, or to its exception -/
theorem mm_called {d g : Nat} {as : List Value} {S : mm_S} {Q : mm_O → mm_S → Prop} (hE : mm_EE B Ts E) (hEs : E s) (hM : mm_Con l yn cc hh G TT D cl tys (mm_phi B ex) B E d g as S Q)
    (X : Stand p l e R s m args below meth c T locs (S.1 - S0.1) (S.2.1 - S0.2.1)) (hR : R = mm_rm TT (d + 1) S0) (hcw : mm_cw yn cc hh G g ∈ Ts) (hini : Jvm.Cond.initialized (yn g).cls ∈ Ts) (hnl : mm_nl G g ≤ 40)
    {g0 : JFrame} {rest : List Value} {ig : Instr} {len : Nat} (hg : g0.method = m) (hsize : g0.locals.size = c.maxLocals) (hdg : decode c.code g0.pc = .ok (ig, len)) (hmr : 2 * g0.monitorRoom + (rest.map fun v => v.category).sum ≤ 8)
    (hI : mm_Inv p l e R s m args below meth c T locs (S.1 - S0.1) (S.2.1 - S0.2.1) g0 rest (yn g) (as.map (mm_tv (mm_phi B ex))).toArray)
    (h2 : va_P D cl (mm_ws (mm_phi B ex) tys S) T.heap) (h3 : va_S (fun q => B ≤ q) s.heap T.heap locs) (h4 : S0.1 ≤ S.1 ∧ S.1 ≤ mm_big) (h5 : S0.2.1 ≤ S.2.1) (hB : s.heap.size = B + S0.1) (hlc : S.1 ≤ mm_lc TT) (hls : S.2.1 ≤ mm_lsl TT) :
    ∃ (o : mm_O) (S' : mm_S) (T' : State) (L : List Loc), Q o S' ∧ Stand p l e R s m args below meth c T' (locs ++ L) (S'.1 - S0.1) (S'.2.1 - S0.2.1) ∧ va_P D cl (mm_ws (mm_phi B ex) tys S') T'.heap ∧ va_S (fun q => B ≤ q) s.heap T'.heap (locs ++ L) ∧ (S0.1 ≤ S'.1 ∧ S'.1 ≤ mm_big) ∧ S0.2.1 ≤ S'.2.1 ∧
      (∀ v, o = .inl v → ∀ tg, Steps p.tables e below (T'.setTop { g0 with pc := g0.pc + len, stack := (v.map (mm_tv (mm_phi B ex))).toList ++ rest }) tg → Steps p.tables e below (T.setTop g0) tg) ∧
      (∀ ec a, o = .inr (ec, a) → ∀ tg, Steps p.tables e below ((T'.setTop { g0 with stack := rest }).pushFrame (.throwing (mm_phi B ex a))) tg → Steps p.tables e below (T.setTop g0) tg) := by
  obtain ⟨vm₁, mk, X₁, hn, hst⟩ := hI
  have hheap : (T.setVm vm₁).heap = T.heap := rfl
  have hBs : B ≤ s.heap.size := by omega
  have hEU : E (T.setVm vm₁) := hE.1 s _ hEs X₁.warmed (fun q hq => by
    have : ¬ B ≤ q := by omega
    exact h3.2.1 q (by omega) this)
  have hwU := hE.2 _ hEU
  obtain ⟨mk', mt, cM, c1, c2, c3, c4, c5, -⟩ := mm_cw_spec (hwU _ hcw #[])
  cases hn.symm.trans c1
  obtain ⟨kY, k1, -⟩ := className_of_methodNamed hn
  have k2 : kY.init = .initialized := Cond.initialized_spec (findClass_of_methodNamed hn) k1 (hwU _ hini #[])
  have hszle : T.heap.size ≤ s.heap.size + (S.1 - S0.1) := X.heapSize
  have hszge : B + S.1 ≤ T.heap.size := by
    rcases Nat.eq_zero_or_pos S.1 with h | h
    · have := h3.1
      omega
    · have hl := (h2 (S.1 - 1) _ (mm_ws_at (φ := mm_phi B ex) (tys := tys) (S := S) (k := S.1 - 1) (by omega))).lt
      have hl' : mm_phi B ex (S.1 - 1) < T.heap.size := hl
      rw [mm_phi_lt (by omega)] at hl'
      omega
  have hsz : T.heap.size = B + S.1 := by omega
  have r1 : R.frames = d + 1 + 8 := by rw [hR]; rfl
  have r2 : R.cells = mm_lc TT - S0.1 := by rw [hR]; rfl
  have r3 : R.slots = mm_lsl TT - S0.2.1 := by rw [hR]; rfl
  have r4 : R.locals = (d + 1) * 60 + 200 := by rw [hR]; rfl
  have m1 : (mm_rm TT d S).frames = d + 8 := rfl
  have m2 : (mm_rm TT d S).cells = mm_lc TT - S.1 := rfl
  have m3 : (mm_rm TT d S).slots = mm_lsl TT - S.2.1 := rfl
  have m4 : (mm_rm TT d S).locals = d * 60 + 200 := rfl
  obtain ⟨o, T', t, L, k, n, X', e1, e2, hWT, ⟨o', S', hQ, rfl, hP', hS', hS2', hk, hnn, hlow, hL⟩, hret, hthr⟩ := mm_back (g := { g0 with stack := rest }) (ig := ig) (len := len) (maxL := mm_nl G g) X₁ hM hg hsize hdg hn c2 c3 c5 k1 k2 (by rw [r1, m1]; omega)
    (by
      have : 2 * JFrame.monitorRoom { g0 with stack := rest } + (rest.map fun v => v.category).sum ≤ 8 := hmr
      rw [r4, m4]
      have h9 : (({ g0 with stack := rest } : JFrame).stack.map fun v => v.category).sum = (rest.map fun v => v.category).sum := rfl
      rw [h9]
      omega)
    (by rw [r2, m2]; omega) (by rw [r3, m3]; omega) (fun w hw => by rw [List.mem_singleton] at hw; rw [hw]; exact hwU _ hcw _)
    ⟨rfl, hE.1 _ _ hEU (State.WarmedH.refl (T.setVm vm₁)) (fun _ _ => rfl), h2, hsz, h4.2⟩
  subst hk
  subst hnn
  have hcc : S.1 - S0.1 + (S'.1 - S.1) = S'.1 - S0.1 := by omega
  have hss : S.2.1 - S0.2.1 + (S'.2.1 - S.2.1) = S'.2.1 - S0.2.1 := by omega
  rw [hcc, hss] at X'
  have hlow' : ∀ q, q < B → T'.heap[q]? = T.heap[q]? := fun q hq => by rw [e1]; exact hlow q hq
  have hz' : T.heap.size ≤ T'.heap.size := by
    rcases Nat.eq_zero_or_pos S'.1 with h | h
    · have h6 : S.1 = 0 := by omega
      have h7 : s.heap.size ≤ T'.heap.size := X'.same.2.1
      omega
    · have hP2 : va_P D cl (mm_ws (mm_phi B ex) tys S') T'.heap := by rw [e1]; exact hP'
      have hl := (hP2 (S'.1 - 1) _ (mm_ws_at (φ := mm_phi B ex) (tys := tys) (S := S') (k := S'.1 - 1) (by omega))).lt
      have hl' : mm_phi B ex (S'.1 - 1) < T'.heap.size := hl
      rw [mm_phi_lt (by omega)] at hl'
      omega
  refine ⟨o', S', T', L, hQ, X', by rw [e1]; exact hP', mm_va_S h3 hBs hz' hlow' hL, ⟨by omega, hS'.2⟩, by omega, fun v hv tg h => ?_, fun ec a hv tg h => ?_⟩
  · subst hv
    exact hst tg (Steps.trans (hret _ rfl) h)
  · subst hv
    exact hst tg (Steps.trans (hthr _ rfl) h)
end MN12
