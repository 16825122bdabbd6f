section
/-! calls by a contract that may return or throw -/
def mm_End (st t : State) (L : List Loc) (k n : Nat) : Prop := st.WarmedH t.vm ∧ st.sameButNew ({ t with vm := st.vm } : State) L k n
def mm_C (l : Launch) (y : MethodName) (ws : List Jvm.Cond) (rm : Room) (P : Array Value → State → Prop) (Q : Array Value → State → Outcome → State → List Loc → Nat → Nat → Prop) : Prop :=
  MetFree l y (headSpec ws rm) P (fun _ _ _ _ _ => True) (fun a st o t => ∃ L k n, mm_End st t L k n ∧ Q a st o t L k n)
section MB
variable {p : Program} {l : Launch} {e : Env} {R : Room} {s : State} {m : MethodId} {args : Array Value} {below : List Frame} {meth : Method} {c : Code} {T : State} {locs : List Loc} {cells slots : Nat}
set_option maxHeartbeats 4000000 in
theorem mm_back {y : MethodName} {ws : List Jvm.Cond} {rm : Room} {P : Array Value → State → Prop} {Q : Array Value → State → Outcome → State → List Loc → Nat → Nat → Prop}
    (X : Stand p l e R s m args below meth c T locs cells slots) (hM : mm_C l y ws rm P Q) {g : JFrame} {ig : Instr} {len maxL : Nat} {mk : MethodId} {a : Array Value} {methY : Method} {cY : Code} {kY : Class}
    (hg : g.method = m) (hsize : g.locals.size = c.maxLocals) (hdg : decode c.code g.pc = .ok (ig, len)) (hn : T.methodNamed? y = some mk)
    (hmY : T.vm.method? mk = some methY) (hcY : methY.code = some cY) (hlY : cY.maxLocals = maxL) (hkY : T.vm.classes[mk.cls]? = some kY) (hinitY : kY.init = .initialized)
    (hframes : rm.frames + 1 ≤ R.frames) (hlocals : 2 * g.monitorRoom + (g.stack.map fun v => v.category).sum + (maxL + 11) + rm.locals ≤ R.locals)
    (hcells : cells + rm.cells ≤ R.cells) (hslots : slots + rm.slots ≤ R.slots)
    (hws : ∀ w ∈ ws, w.before a T = true) (hP : P a (T.calling g mk a)) :
    ∃ (o : Outcome) (T' t : State) (L : List Loc) (k n : Nat), Stand p l e R s m args below meth c T' (locs ++ L) (cells + k) (slots + n) ∧ T'.heap = t.heap ∧ T'.vm = t.vm ∧ T.WarmedH T'.vm ∧ Q a (T.calling g mk a) o t L k n ∧
      (∀ v, o = .returned v → Steps p.tables e below (doInvoke e (T.setTop g) [] mk a).1 (T'.setTop { g with pc := g.pc + len, stack := v.toList ++ g.stack })) ∧
      (∀ x, o = .threw x → Steps p.tables e below (doInvoke e (T.setTop g) [] mk a).1 ((T'.setTop g).pushFrame (.throwing x))) := by
  have h : At T g.method c below := by rw [hg]; exact X.here
  have happ : (headSpec ws rm).appliesLoose y e.platform (T.calling g mk a) = true :=
    Spec.appliesLoose_calling (g := g) h hdg hn hkY hinitY
      (X.room_calling (g := g) (R' := rm) hsize hmY hcY hframes (by rw [hlY]; exact hlocals) hcells hslots) (atoms_intro hws)
  obtain ⟨mid, hmid⟩ := h.above
  have hfr : (T.setTop g).frames = (.java g :: mid) ++ below := by rw [State.frames_setTop' g h.top, hmid]; rfl
  obtain ⟨o, s₂, hsteps, -, hend, hq⟩ := Steps.callFree hM p X.admits X.cas X.clock (acts := []) hfr happ hP trivial
  obtain ⟨L, k, n, hfe, hE⟩ := hq
  have hE' : Q a (T.calling g mk a) o s₂ L k n := hE
  rw [State.frames_setTop' g h.top] at hend
  obtain ⟨hW₂, e2, q2, q3, q4, q5, q6⟩ := id hfe
  have hW₂ : (T.calling g mk a).WarmedH s₂.vm := hW₂
  cases o with
  | returned v =>
    have e3 : s₂ = ({ (T.calling g mk a).setFrames s₂.frames with heap := s₂.heap, slotsUsed := s₂.slotsUsed } : State).setVm s₂.vm := by
      have : s₂ = ({ s₂ with vm := (T.calling g mk a).vm } : State).setVm s₂.vm := rfl
      have e2' : ({ s₂ with vm := (T.calling g mk a).vm } : State) = _ := e2
      rw [e2'] at this
      exact this
    obtain ⟨c₂, i₂, len₂, hc₂, hd₂, hf₂⟩ := hend
    have hW' : T.WarmedH s₂.vm := hW₂
    have hcc : c₂ = c := by
      have h1 : s₂.code? g.method = T.code? g.method := by
        rw [State.code?_eq, State.code?_eq, hW'.alike.method?]
      exact Option.some.inj (hc₂.symm.trans (h1.trans h.code))
    subst hcc
    have hlen : len₂ = len := by rw [hdg] at hd₂; cases hd₂; rfl
    subst hlen
    obtain ⟨g₀, hg0⟩ := Option.isSome_iff_exists.mp h.top
    obtain ⟨r, hr⟩ := State.topJava?_eq_some.mp hg0
    have hs₂ : s₂ = (({ T with heap := s₂.heap, slotsUsed := s₂.slotsUsed } : State).setVm s₂.vm).setTop { g with pc := g.pc + len₂, stack := v.toList ++ g.stack } := by
      have hr' : (({ T with heap := s₂.heap, slotsUsed := s₂.slotsUsed } : State).setVm s₂.vm).frames = .java g₀ :: r := hr
      refine e3.trans ?_
      rw [hf₂, State.calling_eq h.top, State.setFrames_setFrames, State.setTop_of_frames _ hr', hr]
      rfl
    have hsame : T.sameButNew ({ T with heap := s₂.heap, slotsUsed := s₂.slotsUsed } : State) L k n := by
      refine ⟨?_, q2, q3, q4, q5, q6⟩
      obtain ⟨t, ht, -⟩ := State.frames_cons hr
      show ({ T with heap := s₂.heap, slotsUsed := s₂.slotsUsed } : State) = { T.setFrames T.frames with heap := s₂.heap, slotsUsed := s₂.slotsUsed }
      rw [State.setFrames_self ht]
    subst hg
    refine ⟨_, (({ T with heap := s₂.heap, slotsUsed := s₂.slotsUsed } : State).setVm s₂.vm), s₂, L, k, n,
      ⟨X.admits, X.cas, X.clock, X.frames, X.room, X.hears, X.method, X.code, (X.here.setHeapUsed s₂.heap s₂.slotsUsed).setVm hW'.alike, X.tail, State.WarmedH.trans X.warmed hW', X.limits, X.bytes, X.same.trans (hsame.setVm s.vm)⟩,
      rfl, rfl, hW', hE', ?_, ?_⟩
    · intro v' hv'
      cases hv'
      rw [← hs₂]
      exact hsteps
    · intro x hx
      cases hx
  | threw x =>
    rw [X.tail] at hend
    obtain ⟨T', X', hWT, hsT, ht⟩ := X.outOfThrown hg (mk := mk) (a := a) (t := s₂) (x := x) (L := L) (k := k) (n := n) hend hW₂ ⟨e2, q2, q3, q4, q5, q6⟩
    have hvm : s₂.vm = T'.vm := by rw [ht]; exact Stand.throwing_vm T' g x
    have hhp : s₂.heap = T'.heap := by rw [ht]; exact Stand.throwing_heap T' g x
    refine ⟨_, T', s₂, L, k, n, X', hhp.symm, hvm.symm, hWT, hE', ?_, ?_⟩
    · intro v hv
      cases hv
    · intro x' hx'
      cases hx'
      rw [← ht]
      exact hsteps
end MB
end
section
/-! the small machine: cells by their numbers, a method's frame as lists -/
abbrev mm_E : Type := (Nat × vp_A) ⊕ (Nat × List Value)
abbrev mm_M : Type := Nat → mm_E
/-- how many cells, how many slots, the cells -/
abbrev mm_S : Type := Nat × Nat × mm_M
abbrev mm_L : Type := List (Option Value)
/-- returned, or thrown: which class, which cell -/
abbrev mm_O : Type := Option Value ⊕ (Nat × Nat)
/-- a pool's entry: a field (class, place), a method, a class, an int, a long, an outer cell -/
abbrev mm_P : Type := (Nat × Nat) ⊕ (Nat ⊕ (Nat ⊕ (Int32 ⊕ (Int64 ⊕ Nat))))
abbrev mm_pF (c k : Nat) : mm_P := .inl (c, k)
abbrev mm_pM (k : Nat) : mm_P := .inr (.inl k)
abbrev mm_pC (k : Nat) : mm_P := .inr (.inr (.inl k))
abbrev mm_pI (v : Int32) : mm_P := .inr (.inr (.inr (.inl v)))
abbrev mm_pJ (v : Int64) : mm_P := .inr (.inr (.inr (.inr (.inl v))))
abbrev mm_pX (k : Nat) : mm_P := .inr (.inr (.inr (.inr (.inr k))))
def mm_big : Nat := 1099511627776
abbrev mm_aI (n : Nat) (f : Nat → Int32) : mm_E := .inl (0, n, .inl f)
abbrev mm_aJ (n : Nat) (f : Nat → Int64) : mm_E := .inl (1, n, .inr (.inl f))
abbrev mm_aZ (n : Nat) (f : Nat → Int32) : mm_E := .inl (2, n, .inl f)
abbrev mm_aA (k n : Nat) (f : Nat → Option Nat) : mm_E := .inl (k, n, .inr (.inr (.inr (.inr f))))
abbrev mm_ob (c : Nat) (fs : List Value) : mm_E := .inr (c, fs)
def mm_ld (ls : mm_L) (i : Nat) : Option Value := (ls[i]?).join
/-- a long before the place loses its second half -/
def mm_cut (ls : mm_L) : Nat → mm_L
  | 0 => ls
  | i + 1 => match mm_ld ls i with
    | some (.long _) => ls.set i none
    | some (.double _) => ls.set i none
    | _ => ls
def mm_s1 (ls : mm_L) (i : Nat) (v : Value) : mm_L := (mm_cut ls i).set i (some v)
def mm_s2 (ls : mm_L) (i : Nat) (v : Value) : mm_L := ((mm_cut ls i).set i (some v)).set (i + 1) none
def mm_inb (j : Int32) (n : Nat) : Bool := decide (0 ≤ j.toInt) && decide (j.toInt < (n : Int))
/-- may the value stand in a field of that type? -/
def mm_fit (ty : FieldType) (v : Value) : Bool := match ty, v with
  | .int, .int _ => true
  | .long, .long _ => true
  | .boolean, .int x => x == 0 || x == 1
  | .object _, .ref _ => true
  | .object _, .null => true
  | .array _, .ref _ => true
  | .array _, .null => true
  | _, _ => false
def mm_icmp (o : ClassFile.Cond) (x y : Int32) : Bool := match o with
  | .eq => decide (x = y)
  | .ne => decide (¬ x = y)
  | .lt => decide (x < y)
  | .ge => decide (y ≤ x)
  | .gt => decide (y < x)
  | .le => decide (x ≤ y)
def mm_up (S : mm_S) (a : Nat) (e : mm_E) : mm_S := (S.1, S.2.1, va_up S.2.2 a e)
def mm_add (S : mm_S) (n : Nat) (e : mm_E) : mm_S := (S.1 + 1, S.2.1 + n, va_up S.2.2 S.1 e)
def mm_i1 (st : List Value) (f : Int32 → Value) : Option (List Value) := match st with
  | .int x :: r => some (f x :: r)
  | _ => none
def mm_i2 (st : List Value) (f : Int32 → Int32 → Value) : Option (List Value) := match st with
  | .int y :: .int x :: r => some (f x y :: r)
  | _ => none
def mm_j1 (st : List Value) (f : Int64 → Value) : Option (List Value) := match st with
  | .long x :: r => some (f x :: r)
  | _ => none
def mm_j2 (st : List Value) (f : Int64 → Int64 → Value) : Option (List Value) := match st with
  | .long y :: .long x :: r => some (f x y :: r)
  | _ => none
def mm_ji (st : List Value) (f : Int64 → Int32 → Value) : Option (List Value) := match st with
  | .int y :: .long x :: r => some (f x y :: r)
  | _ => none
def mm_lcmp (x y : Int64) : Int32 := if x = y then 0 else if x < y then -1 else 1
end
section
/-! how the small machine's cells, locals and values lie in the real one -/
def mm_phi (B : Nat) (ex : Nat → Nat) (k : Nat) : Nat := if k < mm_big then B + k else ex (k - mm_big)
def mm_tv (φ : Nat → Nat) : Value → Value
  | .ref k => .ref (φ k)
  | v => v
def mm_aC (tys : List (ClassId × FieldType)) (k : Nat) : ClassId := (tys.getD k (0, .int)).1
def mm_te (φ : Nat → Nat) (tys : List (ClassId × FieldType)) : mm_E → va_E
  | .inl (k, n, .inl f) => .inl (mm_aC tys k, n, .inl f)
  | .inl (k, n, .inr (.inl f)) => .inl (mm_aC tys k, n, .inr (.inl f))
  | .inl (k, n, .inr (.inr (.inl f))) => .inl (mm_aC tys k, n, .inr (.inr (.inl f)))
  | .inl (k, n, .inr (.inr (.inr (.inl f)))) => .inl (mm_aC tys k, n, .inr (.inr (.inr (.inl f))))
  | .inl (k, n, .inr (.inr (.inr (.inr f)))) => .inl (mm_aC tys k, n, .inr (.inr (.inr (.inr (fun j => (f j).map φ)))))
  | .inr (c, fs) => .inr (c, fs.map (mm_tv φ))
def mm_ws (φ : Nat → Nat) (tys : List (ClassId × FieldType)) (S : mm_S) : va_W := (List.range S.1).map (fun k => (φ k, mm_te φ tys (S.2.2 k)))
theorem mm_ws_at {φ : Nat → Nat} {tys : List (ClassId × FieldType)} {S : mm_S} {k : Nat} (hk : k < S.1) : (mm_ws φ tys S)[k]? = some (φ k, mm_te φ tys (S.2.2 k)) := by
  simp [mm_ws, hk]
theorem mm_ws_len {φ : Nat → Nat} {tys : List (ClassId × FieldType)} {S : mm_S} : (mm_ws φ tys S).length = S.1 := by simp [mm_ws]
theorem mm_ws_up {φ : Nat → Nat} {tys : List (ClassId × FieldType)} {S : mm_S} {k : Nat} (e : mm_E) (hk : k < S.1) : (mm_ws φ tys S).set k (φ k, mm_te φ tys e) = mm_ws φ tys (mm_up S k e) := by
  refine List.ext_getElem? fun j => ?_
  rw [List.getElem?_set]
  by_cases hj : j < S.1
  · have h2 : (mm_ws φ tys (mm_up S k e))[j]? = some (φ j, mm_te φ tys ((mm_up S k e).2.2 j)) := mm_ws_at (S := mm_up S k e) hj
    rw [h2]
    by_cases hjk : k = j
    · subst hjk
      simp [mm_ws_len, hk, mm_up, va_up]
    · rw [if_neg hjk, mm_ws_at hj]
      simp [mm_up, va_up, Ne.symm hjk]
  · have h2 : (mm_ws φ tys (mm_up S k e))[j]? = none := by
      rw [List.getElem?_eq_none_iff, mm_ws_len]
      exact Nat.le_of_not_lt hj
    have h1 : (mm_ws φ tys S)[j]? = none := by
      rw [List.getElem?_eq_none_iff, mm_ws_len]
      exact Nat.le_of_not_lt hj
    have hjk : ¬ k = j := by omega
    rw [h2, if_neg hjk, h1]
theorem mm_ws_add {φ : Nat → Nat} {tys : List (ClassId × FieldType)} {S : mm_S} (n : Nat) (e : mm_E) : mm_ws φ tys S ++ [(φ S.1, mm_te φ tys e)] = mm_ws φ tys (mm_add S n e) := by
  have h1 : (mm_add S n e).1 = S.1 + 1 := rfl
  have h2 : mm_ws φ tys (mm_add S n e) = (List.range (S.1 + 1)).map (fun k => (φ k, mm_te φ tys ((mm_add S n e).2.2 k))) := rfl
  rw [h2, List.range_succ, List.map_append]
  congr 1
  · refine List.map_congr_left fun k hk => ?_
    have hk' : k < S.1 := List.mem_range.mp hk
    have : k ≠ S.1 := by omega
    simp [mm_add, va_up, this]
  · simp [mm_add, va_up]
theorem mm_phi_lt {B : Nat} {ex : Nat → Nat} {k : Nat} (h : k < mm_big) : mm_phi B ex k = B + k := by simp [mm_phi, h]
theorem mm_ws_D {B : Nat} {ex : Nat → Nat} {tys : List (ClassId × FieldType)} {S : mm_S} (hS : S.1 ≤ mm_big) : va_D (fun q => B ≤ q) (mm_ws (mm_phi B ex) tys S) := by
  have key : ∀ (i : Nat) (p : Nat × va_E), (mm_ws (mm_phi B ex) tys S)[i]? = some p → i < S.1 ∧ p.1 = B + i := by
    intro i p h
    have hi : i < S.1 := by
      have := (List.getElem?_eq_some_iff.mp h).1
      rwa [mm_ws_len] at this
    rw [mm_ws_at hi] at h
    cases h
    exact ⟨hi, mm_phi_lt (by omega)⟩
  refine ⟨fun i j p q hp hq he => ?_, fun k q hq => ?_⟩
  · have h1 := (key i p hp).2
    have h2 := (key j q hq).2
    omega
  · have h1 := (key k q hq).2
    show B ≤ q.1
    omega
/-- the locals as the kit lists them -/
def mm_prs (φ : Nat → Nat) (L : mm_L) : List (Nat × Value) := (List.range L.length).filterMap (fun i => (mm_ld L i).map (fun v => (i, mm_tv φ v)))
theorem mm_prs_in {φ : Nat → Nat} {L : mm_L} {i : Nat} {v : Value} (h : mm_ld L i = some v) : (i, mm_tv φ v) ∈ mm_prs φ L := by
  refine List.mem_filterMap.mpr ⟨i, ?_, by rw [h]; rfl⟩
  rw [List.mem_range]
  unfold mm_ld at h
  cases hq : L[i]? with
  | none => rw [hq] at h; cases h
  | some x => exact (List.getElem?_eq_some_iff.mp hq).1
theorem mm_prs_of {φ : Nat → Nat} {L : mm_L} {q : Nat × Value} (h : q ∈ mm_prs φ L) : ∃ v, mm_ld L q.1 = some v ∧ q.2 = mm_tv φ v := by
  obtain ⟨i, -, hi⟩ := List.mem_filterMap.mp h
  cases hv : mm_ld L i with
  | none => rw [hv] at hi; cases hi
  | some v => rw [hv] at hi; cases hi; exact ⟨v, hv, rfl⟩
theorem mm_lv_at {φ : Nat → Nat} {ls : Array Slot} {nL : Nat} {L : mm_L} (h : lv_has ls nL (mm_prs φ L)) {i : Nat} {v : Value} (hi : mm_ld L i = some v) : ls[i]? = some (.val (mm_tv φ v)) := h.2.2 _ (mm_prs_in hi)
theorem mm_tv_cat (φ : Nat → Nat) (v : Value) : (mm_tv φ v).category = v.category := by cases v <;> rfl
theorem mm_lv_mono {ls : Array Slot} {nL : Nat} {l l' : List (Nat × Value)} (h : lv_has ls nL l) (hs : ∀ q ∈ l', q ∈ l) : lv_has ls nL l' := ⟨h.1, h.2.1, fun q hq => h.2.2 q (hs q hq)⟩
theorem mm_ld_set {L : mm_L} {i j : Nat} {x : Option Value} {w : Value} (h : mm_ld (L.set i x) j = some w) : (j = i ∧ x = some w) ∨ (j ≠ i ∧ mm_ld L j = some w) := by
  unfold mm_ld at h ⊢
  rw [List.getElem?_set] at h
  by_cases hij : i = j
  · subst hij
    by_cases hl : i < L.length
    · rw [if_pos rfl, if_pos hl] at h
      exact Or.inl ⟨rfl, by simpa using h⟩
    · rw [if_pos rfl, if_neg hl] at h
      cases h
  · rw [if_neg hij] at h
    exact Or.inr ⟨Ne.symm hij, h⟩
theorem mm_ld_cut {L : mm_L} {i j : Nat} {w : Value} (h : mm_ld (mm_cut L i) j = some w) : mm_ld L j = some w ∧ ¬ (j + 1 = i ∧ w.category = 2) := by
  cases i with
  | zero => exact ⟨h, by omega⟩
  | succ i =>
    simp only [mm_cut] at h
    split at h
    · rcases mm_ld_set h with ⟨-, h2⟩ | ⟨h1, h2⟩
      · cases h2
      · exact ⟨h2, by omega⟩
    · rcases mm_ld_set h with ⟨-, h2⟩ | ⟨h1, h2⟩
      · cases h2
      · exact ⟨h2, by omega⟩
    · rename_i n1 n2
      refine ⟨h, fun ⟨e1, e2⟩ => ?_⟩
      have : j = i := by omega
      subst this
      cases w with
      | long x => exact n1 x h
      | double x => exact n2 x h
      | int x => simp [Value.category] at e2
      | float x => simp [Value.category] at e2
      | null => simp [Value.category] at e2
      | ref x => simp [Value.category] at e2
      | retAddr x => simp [Value.category] at e2
theorem mm_lv_s1 {φ : Nat → Nat} {ls : Array Slot} {nL : Nat} {L : mm_L} {i : Nat} {v : Value} (h : lv_has ls nL ((i, mm_tv φ v) :: (mm_prs φ L).filter (fun q => !(q.1 == i) && !(q.1 + 1 == i && q.2.category == 2)))) : lv_has ls nL (mm_prs φ (mm_s1 L i v)) := by
  refine mm_lv_mono h fun q hq => ?_
  obtain ⟨w, hw, hq2⟩ := mm_prs_of hq
  obtain ⟨j, x⟩ := q
  dsimp only at hw hq2
  subst hq2
  unfold mm_s1 at hw
  rcases mm_ld_set hw with ⟨h1, h2⟩ | ⟨h1, h2⟩
  · cases h2
    subst h1
    exact List.mem_cons_self
  · obtain ⟨h3, h4⟩ := mm_ld_cut h2
    refine List.mem_cons_of_mem _ (List.mem_filter.mpr ⟨mm_prs_in h3, ?_⟩)
    simp only [mm_tv_cat, Bool.and_eq_true, Bool.not_eq_true', beq_eq_false_iff_ne, ne_eq, Bool.and_eq_false_iff]
    refine ⟨h1, ?_⟩
    by_cases e : j + 1 = i
    · exact Or.inr fun z => h4 ⟨e, z⟩
    · exact Or.inl e
theorem mm_lv_s2 {φ : Nat → Nat} {ls : Array Slot} {nL : Nat} {L : mm_L} {i : Nat} {v : Value} (h : lv_has ls nL ((i, mm_tv φ v) :: (mm_prs φ L).filter (fun q => !(q.1 == i) && (!(q.1 == i + 1) && !(q.1 + 1 == i && q.2.category == 2))))) : lv_has ls nL (mm_prs φ (mm_s2 L i v)) := by
  refine mm_lv_mono h fun q hq => ?_
  obtain ⟨w, hw, hq2⟩ := mm_prs_of hq
  obtain ⟨j, x⟩ := q
  dsimp only at hw hq2
  subst hq2
  unfold mm_s2 at hw
  rcases mm_ld_set hw with ⟨-, h2⟩ | ⟨h0, hw⟩
  · cases h2
  rcases mm_ld_set hw with ⟨h1, h2⟩ | ⟨h1, h2⟩
  · cases h2
    subst h1
    exact List.mem_cons_self
  · obtain ⟨h3, h4⟩ := mm_ld_cut h2
    refine List.mem_cons_of_mem _ (List.mem_filter.mpr ⟨mm_prs_in h3, ?_⟩)
    simp only [mm_tv_cat, Bool.and_eq_true, Bool.not_eq_true', beq_eq_false_iff_ne, ne_eq, Bool.and_eq_false_iff]
    refine ⟨h1, h0, ?_⟩
    by_cases e : j + 1 = i
    · exact Or.inr fun z => h4 ⟨e, z⟩
    · exact Or.inl e
end
section
/-! one instruction of the small machine -/
/-- tables of a program: field types; is the field final; a fresh object's fields; an array kind of a class; the class of an array kind; the room -/
abbrev mm_T : Type := (Nat → Nat → FieldType) × (Nat → Nat → Bool) × (Nat → List Value) × (Nat → Nat) × (Nat → Nat) × (Nat × Nat)
abbrev mm_ft (T : mm_T) := T.1
abbrev mm_fi (T : mm_T) := T.2.1
abbrev mm_fd (T : mm_T) := T.2.2.1
abbrev mm_ka (T : mm_T) := T.2.2.2.1
abbrev mm_kc (T : mm_T) := T.2.2.2.2.1
abbrev mm_lc (T : mm_T) := T.2.2.2.2.2.1
abbrev mm_lsl (T : mm_T) := T.2.2.2.2.2.2
abbrev mm_Kf : Type := Nat × mm_L × List Value × mm_S
def mm_mp (o : Option (List Value)) (nx : Nat) (L : mm_L) (S : mm_S) : Option mm_Kf := match o with
  | some st => some (nx, L, st, S)
  | none => none
def mm_lI (L : mm_L) (i nx : Nat) (st : List Value) (S : mm_S) : Option mm_Kf := match mm_ld L i with
  | some (.int x) => some (nx, L, .int x :: st, S)
  | _ => none
def mm_lJ (L : mm_L) (i nx : Nat) (st : List Value) (S : mm_S) : Option mm_Kf := match mm_ld L i with
  | some (.long x) => some (nx, L, .long x :: st, S)
  | _ => none
def mm_lA (L : mm_L) (i nx : Nat) (st : List Value) (S : mm_S) : Option mm_Kf := match mm_ld L i with
  | some (.ref x) => some (nx, L, .ref x :: st, S)
  | some .null => some (nx, L, .null :: st, S)
  | _ => none
def mm_sI (L : mm_L) (i nx : Nat) (st : List Value) (S : mm_S) : Option mm_Kf := match st with
  | .int x :: r => if i < L.length then some (nx, mm_s1 L i (.int x), r, S) else none
  | _ => none
def mm_sJ (L : mm_L) (i nx : Nat) (st : List Value) (S : mm_S) : Option mm_Kf := match st with
  | .long x :: r => if i + 1 < L.length then some (nx, mm_s2 L i (.long x), r, S) else none
  | _ => none
def mm_sA (L : mm_L) (i nx : Nat) (st : List Value) (S : mm_S) : Option mm_Kf := match st with
  | .ref x :: r => if i < L.length then some (nx, mm_s1 L i (.ref x), r, S) else none
  | .null :: r => if i < L.length then some (nx, mm_s1 L i .null, r, S) else none
  | _ => none
def mm_inc (L : mm_L) (i : Nat) (n : Int) (nx : Nat) (st : List Value) (S : mm_S) : Option mm_Kf := match mm_ld L i with
  | some (.int x) => if i < L.length then some (nx, mm_s1 L i (.int (x + Int32.ofInt n)), st, S) else none
  | _ => none
def mm_if1 (o : ClassFile.Cond) (nx tg : Nat) (L : mm_L) (st : List Value) (S : mm_S) : Option mm_Kf := match st with
  | .int x :: r => some (if mm_icmp o x 0 = true then tg else nx, L, r, S)
  | _ => none
def mm_if2 (o : ClassFile.Cond) (nx tg : Nat) (L : mm_L) (st : List Value) (S : mm_S) : Option mm_Kf := match st with
  | .int y :: .int x :: r => some (if mm_icmp o x y = true then tg else nx, L, r, S)
  | _ => none
def mm_dup (nx : Nat) (L : mm_L) (st : List Value) (S : mm_S) : Option mm_Kf := match st with
  | v :: r => if v.category = 1 then some (nx, L, v :: v :: r, S) else none
  | _ => none
def mm_pop (nx : Nat) (L : mm_L) (st : List Value) (S : mm_S) : Option mm_Kf := match st with
  | v :: r => if v.category = 1 then some (nx, L, r, S) else none
  | _ => none
def mm_dx1 (nx : Nat) (L : mm_L) (st : List Value) (S : mm_S) : Option mm_Kf := match st with
  | v :: u :: r => if v.category = 1 ∧ u.category = 1 then some (nx, L, v :: u :: v :: r, S) else none
  | _ => none
def mm_dp2 (nx : Nat) (L : mm_L) (st : List Value) (S : mm_S) : Option mm_Kf := match st with
  | v :: u :: r => if v.category = 1 ∧ u.category = 1 then some (nx, L, v :: u :: v :: u :: r, S) else none
  | _ => none
def mm_tsw (pc : Nat) (df lo hi : Int) (offs : Array Int) (L : mm_L) (st : List Value) (S : mm_S) : Option mm_Kf := match st with
  | .int x :: r => if x.toInt < lo ∨ hi < x.toInt then (if 0 ≤ (pc : Int) + df then some (((pc : Int) + df).toNat, L, r, S) else none) else match offs[(x.toInt - lo).toNat]? with
    | some off => if 0 ≤ (pc : Int) + off then some (((pc : Int) + off).toNat, L, r, S) else none
    | none => none
  | _ => none
/-- the instructions that look at no cell -/
def mm_st0 (i : Instr) (pc nx tg : Nat) (L : mm_L) (st : List Value) (S : mm_S) : Option mm_Kf := match i with
  | .aconst_null => some (nx, L, .null :: st, S)
  | .iconst n => some (nx, L, .int (Int32.ofInt n) :: st, S)
  | .bipush n => some (nx, L, .int (Int8.ofInt n).toInt32 :: st, S)
  | .sipush n => some (nx, L, .int (Int16.ofInt n).toInt32 :: st, S)
  | .lconst n => some (nx, L, .long (Int64.ofNat (n : Nat)) :: st, S)
  | .iload k => mm_lI L k nx st S
  | .iload_n k => mm_lI L (k : Nat) nx st S
  | .lload k => mm_lJ L k nx st S
  | .lload_n k => mm_lJ L (k : Nat) nx st S
  | .aload k => mm_lA L k nx st S
  | .aload_n k => mm_lA L (k : Nat) nx st S
  | .istore k => mm_sI L k nx st S
  | .istore_n k => mm_sI L (k : Nat) nx st S
  | .lstore k => mm_sJ L k nx st S
  | .lstore_n k => mm_sJ L (k : Nat) nx st S
  | .astore k => mm_sA L k nx st S
  | .astore_n k => mm_sA L (k : Nat) nx st S
  | .iinc k n => mm_inc L k n nx st S
  | .iadd => mm_mp (mm_i2 st fun x y => .int (x + y)) nx L S
  | .isub => mm_mp (mm_i2 st fun x y => .int (x - y)) nx L S
  | .imul => mm_mp (mm_i2 st fun x y => .int (x * y)) nx L S
  | .iand => mm_mp (mm_i2 st fun x y => .int (x &&& y)) nx L S
  | .ior => mm_mp (mm_i2 st fun x y => .int (x ||| y)) nx L S
  | .ishl => mm_mp (mm_i2 st fun x y => .int (x <<< (y &&& 31))) nx L S
  | .ishr => mm_mp (mm_i2 st fun x y => .int (x >>> (y &&& 31))) nx L S
  | .iushr => mm_mp (mm_i2 st fun x y => .int (x.toUInt32 >>> (y.toUInt32 &&& Int32.toUInt32 31)).toInt32) nx L S
  | .ladd => mm_mp (mm_j2 st fun x y => .long (x + y)) nx L S
  | .lsub => mm_mp (mm_j2 st fun x y => .long (x - y)) nx L S
  | .lmul => mm_mp (mm_j2 st fun x y => .long (x * y)) nx L S
  | .land => mm_mp (mm_j2 st fun x y => .long (x &&& y)) nx L S
  | .lor => mm_mp (mm_j2 st fun x y => .long (x ||| y)) nx L S
  | .lshl => mm_mp (mm_ji st fun x y => .long (x <<< (y.toInt64 &&& 63))) nx L S
  | .lshr => mm_mp (mm_ji st fun x y => .long (x >>> (y.toInt64 &&& 63))) nx L S
  | .lushr => mm_mp (mm_ji st fun x y => .long (x.toUInt64 >>> (y.toInt64.toUInt64 &&& Int64.toUInt64 63)).toInt64) nx L S
  | .lcmp => mm_mp (mm_j2 st fun x y => .int (lg_cmp x y)) nx L S
  | .i2l => mm_mp (mm_i1 st fun x => .long x.toInt64) nx L S
  | .l2i => mm_mp (mm_j1 st fun x => .int x.toInt32) nx L S
  | .ifCond o _ => mm_if1 o nx tg L st S
  | .if_icmp o _ => mm_if2 o nx tg L st S
  | .goto _ => some (tg, L, st, S)
  | .dup => mm_dup nx L st S
  | .pop => mm_pop nx L st S
  | .dup_x1 => mm_dx1 nx L st S
  | .dup2 => mm_dp2 nx L st S
  | .tableswitch df lo hi offs => mm_tsw pc df lo hi offs L st S
  | _ => none
/-- how long an instruction is, where it matters -/
def mm_len : Instr → Nat
  | .bipush _ | .iload _ | .lload _ | .aload _ | .istore _ | .lstore _ | .astore _ | .ldc _ | .newarray _ => 2
  | .sipush _ | .iinc _ _ | .ifCond _ _ | .if_icmp _ _ | .goto _ | .getfield _ | .putfield _ | .new _ | .anewarray _ | .ldc_w _ | .ldc2_w _ | .invokevirtual _ | .invokespecial _ | .invokestatic _ => 3
  | _ => 1
def mm_tgt (pc tg : Nat) : Instr → Prop
  | .ifCond _ o => (pc : Int) + o = (tg : Int)
  | .if_icmp _ o => (pc : Int) + o = (tg : Int)
  | .goto o => (pc : Int) + o = (tg : Int)
  | _ => True
/-- an instruction as the small machine's table has it -/
def mm_ok (cc : ByteArray) (pc : Nat) (i : Instr) (nx tg : Nat) : Prop := (∃ len, decode cc pc = .ok (i, len) ∧ nx = pc + len ∧ ((∀ a b c d, i ≠ .tableswitch a b c d) → len = mm_len i)) ∧ mm_tgt pc tg i

section MA
variable {p : Program} {l : Launch} {e : Env} {R : Room} {s : State} {m : MethodId} {args : Array Value} {below : List Frame} {meth : Method} {c : Code} {Q : State → Prop}
/-- the walk, at a frame of the small machine -/
def mm_At (p : Program) (l : Launch) (e : Env) (R : Room) (s : State) (m : MethodId) (args : Array Value) (below : List Frame) (meth : Method) (c : Code) (Q : State → Prop) (D : va_G) (cl : List vw_C) (tys : List (ClassId × FieldType)) (φ : Nat → Nat) (B : Nat) (S0 : mm_S) (nL : Nat) (k : mm_Kf) : Prop :=
  ∀ (ls : Array Slot) (H : Heap) (locs : List Loc), lv_has ls nL (mm_prs φ k.2.1) → k.2.1.length = nL → va_P D cl (mm_ws φ tys k.2.2.2) H → va_S (fun q => B ≤ q) s.heap H locs → S0.1 ≤ k.2.2.2.1 → S0.2.1 ≤ k.2.2.2.2.1 →
    W p l e R s m args below meth c H locs (k.2.2.2.1 - S0.1) (k.2.2.2.2.1 - S0.2.1) Q (F0 m k.1 ls (k.2.2.1.map (mm_tv φ)))
variable {D : va_G} {cl : List vw_C} {tys : List (ClassId × FieldType)} {φ : Nat → Nat} {B : Nat} {S0 : mm_S} {nL : Nat} {cc : ByteArray}
theorem mm_pure {pc pc' : Nat} {L : mm_L} {st st' : List Value} {S : mm_S} (h : ∀ (ls : Array Slot) (H : Heap) (locs : List Loc) (x y : Nat), lv_has ls nL (mm_prs φ L) → W p l e R s m args below meth c H locs x y Q (F0 m pc' ls (st'.map (mm_tv φ))) → W p l e R s m args below meth c H locs x y Q (F0 m pc ls (st.map (mm_tv φ))))
    (k : mm_At p l e R s m args below meth c Q D cl tys φ B S0 nL (pc', L, st', S)) : mm_At p l e R s m args below meth c Q D cl tys φ B S0 nL (pc, L, st, S) :=
  fun ls H locs h1 h0 h2 h3 h4 h5 => h ls H locs _ _ h1 (k ls H locs h1 h0 h2 h3 h4 h5)
theorem mm_i2_inv {st st' : List Value} {f : Int32 → Int32 → Value} (h : mm_i2 st f = some st') : ∃ x y r, st = .int y :: .int x :: r ∧ st' = f x y :: r := by
  unfold mm_i2 at h
  split at h
  · cases h; exact ⟨_, _, _, rfl, rfl⟩
  · cases h
theorem mm_i1_inv {st st' : List Value} {f : Int32 → Value} (h : mm_i1 st f = some st') : ∃ x r, st = .int x :: r ∧ st' = f x :: r := by
  unfold mm_i1 at h
  split at h
  · cases h; exact ⟨_, _, rfl, rfl⟩
  · cases h
theorem mm_j1_inv {st st' : List Value} {f : Int64 → Value} (h : mm_j1 st f = some st') : ∃ x r, st = .long x :: r ∧ st' = f x :: r := by
  unfold mm_j1 at h
  split at h
  · cases h; exact ⟨_, _, rfl, rfl⟩
  · cases h
theorem mm_j2_inv {st st' : List Value} {f : Int64 → Int64 → Value} (h : mm_j2 st f = some st') : ∃ x y r, st = .long y :: .long x :: r ∧ st' = f x y :: r := by
  unfold mm_j2 at h
  split at h
  · cases h; exact ⟨_, _, _, rfl, rfl⟩
  · cases h
theorem mm_ji_inv {st st' : List Value} {f : Int64 → Int32 → Value} (h : mm_ji st f = some st') : ∃ x y r, st = .int y :: .long x :: r ∧ st' = f x y :: r := by
  unfold mm_ji at h
  split at h
  · cases h; exact ⟨_, _, _, rfl, rfl⟩
  · cases h
theorem mm_mp_inv {o : Option (List Value)} {nx : Nat} {L : mm_L} {S : mm_S} {k : mm_Kf} (h : mm_mp o nx L S = some k) : ∃ st, o = some st ∧ k = (nx, L, st, S) := by
  unfold mm_mp at h
  split at h
  · cases h; exact ⟨_, rfl, rfl⟩
  · cases h

theorem ms_iadd (hx : p.tables.exec = Jvm.exec) (hb : c.code = cc) {pc nx tg : Nat} {L : mm_L} {st : List Value} {S : mm_S} {k : mm_Kf} (ho : mm_ok cc pc .iadd nx tg) (h : mm_st0 .iadd pc nx tg L st S = some k) (kk : mm_At p l e R s m args below meth c Q D cl tys φ B S0 nL k) : mm_At p l e R s m args below meth c Q D cl tys φ B S0 nL (pc, L, st, S) := by
  obtain ⟨⟨len, hd, rfl, hl⟩, -⟩ := ho
  have hl : len = 1 := hl (fun _ _ _ _ q => by cases q)
  subst hl
  obtain ⟨st', h1, rfl⟩ := mm_mp_inv (show mm_mp _ _ _ _ = some k from h)
  obtain ⟨x, y, r, rfl, rfl⟩ := mm_i2_inv h1
  exact mm_pure (fun ls H locs _ _ _ q => lv_iadd hx hb hd q) kk
theorem ms_isub (hx : p.tables.exec = Jvm.exec) (hb : c.code = cc) {pc nx tg : Nat} {L : mm_L} {st : List Value} {S : mm_S} {k : mm_Kf} (ho : mm_ok cc pc .isub nx tg) (h : mm_st0 .isub pc nx tg L st S = some k) (kk : mm_At p l e R s m args below meth c Q D cl tys φ B S0 nL k) : mm_At p l e R s m args below meth c Q D cl tys φ B S0 nL (pc, L, st, S) := by
  obtain ⟨⟨len, hd, rfl, hl⟩, -⟩ := ho
  have hl : len = 1 := hl (fun _ _ _ _ q => by cases q)
  subst hl
  obtain ⟨st', h1, rfl⟩ := mm_mp_inv (show mm_mp _ _ _ _ = some k from h)
  obtain ⟨x, y, r, rfl, rfl⟩ := mm_i2_inv h1
  exact mm_pure (fun ls H locs _ _ _ q => lv_isub hx hb hd q) kk
theorem ms_imul (hx : p.tables.exec = Jvm.exec) (hb : c.code = cc) {pc nx tg : Nat} {L : mm_L} {st : List Value} {S : mm_S} {k : mm_Kf} (ho : mm_ok cc pc .imul nx tg) (h : mm_st0 .imul pc nx tg L st S = some k) (kk : mm_At p l e R s m args below meth c Q D cl tys φ B S0 nL k) : mm_At p l e R s m args below meth c Q D cl tys φ B S0 nL (pc, L, st, S) := by
  obtain ⟨⟨len, hd, rfl, hl⟩, -⟩ := ho
  have hl : len = 1 := hl (fun _ _ _ _ q => by cases q)
  subst hl
  obtain ⟨st', h1, rfl⟩ := mm_mp_inv (show mm_mp _ _ _ _ = some k from h)
  obtain ⟨x, y, r, rfl, rfl⟩ := mm_i2_inv h1
  exact mm_pure (fun ls H locs _ _ _ q => lv_imul hx hb hd q) kk
theorem ms_iand (hx : p.tables.exec = Jvm.exec) (hb : c.code = cc) {pc nx tg : Nat} {L : mm_L} {st : List Value} {S : mm_S} {k : mm_Kf} (ho : mm_ok cc pc .iand nx tg) (h : mm_st0 .iand pc nx tg L st S = some k) (kk : mm_At p l e R s m args below meth c Q D cl tys φ B S0 nL k) : mm_At p l e R s m args below meth c Q D cl tys φ B S0 nL (pc, L, st, S) := by
  obtain ⟨⟨len, hd, rfl, hl⟩, -⟩ := ho
  have hl : len = 1 := hl (fun _ _ _ _ q => by cases q)
  subst hl
  obtain ⟨st', h1, rfl⟩ := mm_mp_inv (show mm_mp _ _ _ _ = some k from h)
  obtain ⟨x, y, r, rfl, rfl⟩ := mm_i2_inv h1
  exact mm_pure (fun ls H locs _ _ _ q => lv_iand hx hb hd q) kk
theorem ms_ior (hx : p.tables.exec = Jvm.exec) (hb : c.code = cc) {pc nx tg : Nat} {L : mm_L} {st : List Value} {S : mm_S} {k : mm_Kf} (ho : mm_ok cc pc .ior nx tg) (h : mm_st0 .ior pc nx tg L st S = some k) (kk : mm_At p l e R s m args below meth c Q D cl tys φ B S0 nL k) : mm_At p l e R s m args below meth c Q D cl tys φ B S0 nL (pc, L, st, S) := by
  obtain ⟨⟨len, hd, rfl, hl⟩, -⟩ := ho
  have hl : len = 1 := hl (fun _ _ _ _ q => by cases q)
  subst hl
  obtain ⟨st', h1, rfl⟩ := mm_mp_inv (show mm_mp _ _ _ _ = some k from h)
  obtain ⟨x, y, r, rfl, rfl⟩ := mm_i2_inv h1
  exact mm_pure (fun ls H locs _ _ _ q => lv_ior hx hb hd q) kk
theorem ms_ishl (hx : p.tables.exec = Jvm.exec) (hb : c.code = cc) {pc nx tg : Nat} {L : mm_L} {st : List Value} {S : mm_S} {k : mm_Kf} (ho : mm_ok cc pc .ishl nx tg) (h : mm_st0 .ishl pc nx tg L st S = some k) (kk : mm_At p l e R s m args below meth c Q D cl tys φ B S0 nL k) : mm_At p l e R s m args below meth c Q D cl tys φ B S0 nL (pc, L, st, S) := by
  obtain ⟨⟨len, hd, rfl, hl⟩, -⟩ := ho
  have hl : len = 1 := hl (fun _ _ _ _ q => by cases q)
  subst hl
  obtain ⟨st', h1, rfl⟩ := mm_mp_inv (show mm_mp _ _ _ _ = some k from h)
  obtain ⟨x, y, r, rfl, rfl⟩ := mm_i2_inv h1
  exact mm_pure (fun ls H locs _ _ _ q => lv_ishl hx hb hd q) kk
theorem ms_ishr (hx : p.tables.exec = Jvm.exec) (hb : c.code = cc) {pc nx tg : Nat} {L : mm_L} {st : List Value} {S : mm_S} {k : mm_Kf} (ho : mm_ok cc pc .ishr nx tg) (h : mm_st0 .ishr pc nx tg L st S = some k) (kk : mm_At p l e R s m args below meth c Q D cl tys φ B S0 nL k) : mm_At p l e R s m args below meth c Q D cl tys φ B S0 nL (pc, L, st, S) := by
  obtain ⟨⟨len, hd, rfl, hl⟩, -⟩ := ho
  have hl : len = 1 := hl (fun _ _ _ _ q => by cases q)
  subst hl
  obtain ⟨st', h1, rfl⟩ := mm_mp_inv (show mm_mp _ _ _ _ = some k from h)
  obtain ⟨x, y, r, rfl, rfl⟩ := mm_i2_inv h1
  exact mm_pure (fun ls H locs _ _ _ q => lv_ishr hx hb hd q) kk
theorem ms_iushr (hx : p.tables.exec = Jvm.exec) (hb : c.code = cc) {pc nx tg : Nat} {L : mm_L} {st : List Value} {S : mm_S} {k : mm_Kf} (ho : mm_ok cc pc .iushr nx tg) (h : mm_st0 .iushr pc nx tg L st S = some k) (kk : mm_At p l e R s m args below meth c Q D cl tys φ B S0 nL k) : mm_At p l e R s m args below meth c Q D cl tys φ B S0 nL (pc, L, st, S) := by
  obtain ⟨⟨len, hd, rfl, hl⟩, -⟩ := ho
  have hl : len = 1 := hl (fun _ _ _ _ q => by cases q)
  subst hl
  obtain ⟨st', h1, rfl⟩ := mm_mp_inv (show mm_mp _ _ _ _ = some k from h)
  obtain ⟨x, y, r, rfl, rfl⟩ := mm_i2_inv h1
  exact mm_pure (fun ls H locs _ _ _ q => lv_iushr hx hb hd rfl q) kk
theorem ms_ladd (hx : p.tables.exec = Jvm.exec) (hb : c.code = cc) {pc nx tg : Nat} {L : mm_L} {st : List Value} {S : mm_S} {k : mm_Kf} (ho : mm_ok cc pc .ladd nx tg) (h : mm_st0 .ladd pc nx tg L st S = some k) (kk : mm_At p l e R s m args below meth c Q D cl tys φ B S0 nL k) : mm_At p l e R s m args below meth c Q D cl tys φ B S0 nL (pc, L, st, S) := by
  obtain ⟨⟨len, hd, rfl, hl⟩, -⟩ := ho
  have hl : len = 1 := hl (fun _ _ _ _ q => by cases q)
  subst hl
  obtain ⟨st', h1, rfl⟩ := mm_mp_inv (show mm_mp _ _ _ _ = some k from h)
  obtain ⟨x, y, r, rfl, rfl⟩ := mm_j2_inv h1
  exact mm_pure (fun ls H locs _ _ _ q => lv_ladd hx hb hd q) kk
theorem ms_lsub (hx : p.tables.exec = Jvm.exec) (hb : c.code = cc) {pc nx tg : Nat} {L : mm_L} {st : List Value} {S : mm_S} {k : mm_Kf} (ho : mm_ok cc pc .lsub nx tg) (h : mm_st0 .lsub pc nx tg L st S = some k) (kk : mm_At p l e R s m args below meth c Q D cl tys φ B S0 nL k) : mm_At p l e R s m args below meth c Q D cl tys φ B S0 nL (pc, L, st, S) := by
  obtain ⟨⟨len, hd, rfl, hl⟩, -⟩ := ho
  have hl : len = 1 := hl (fun _ _ _ _ q => by cases q)
  subst hl
  obtain ⟨st', h1, rfl⟩ := mm_mp_inv (show mm_mp _ _ _ _ = some k from h)
  obtain ⟨x, y, r, rfl, rfl⟩ := mm_j2_inv h1
  exact mm_pure (fun ls H locs _ _ _ q => lv_lsub hx hb hd q) kk
theorem ms_lmul (hx : p.tables.exec = Jvm.exec) (hb : c.code = cc) {pc nx tg : Nat} {L : mm_L} {st : List Value} {S : mm_S} {k : mm_Kf} (ho : mm_ok cc pc .lmul nx tg) (h : mm_st0 .lmul pc nx tg L st S = some k) (kk : mm_At p l e R s m args below meth c Q D cl tys φ B S0 nL k) : mm_At p l e R s m args below meth c Q D cl tys φ B S0 nL (pc, L, st, S) := by
  obtain ⟨⟨len, hd, rfl, hl⟩, -⟩ := ho
  have hl : len = 1 := hl (fun _ _ _ _ q => by cases q)
  subst hl
  obtain ⟨st', h1, rfl⟩ := mm_mp_inv (show mm_mp _ _ _ _ = some k from h)
  obtain ⟨x, y, r, rfl, rfl⟩ := mm_j2_inv h1
  exact mm_pure (fun ls H locs _ _ _ q => lv_lmul hx hb hd q) kk
theorem ms_land (hx : p.tables.exec = Jvm.exec) (hb : c.code = cc) {pc nx tg : Nat} {L : mm_L} {st : List Value} {S : mm_S} {k : mm_Kf} (ho : mm_ok cc pc .land nx tg) (h : mm_st0 .land pc nx tg L st S = some k) (kk : mm_At p l e R s m args below meth c Q D cl tys φ B S0 nL k) : mm_At p l e R s m args below meth c Q D cl tys φ B S0 nL (pc, L, st, S) := by
  obtain ⟨⟨len, hd, rfl, hl⟩, -⟩ := ho
  have hl : len = 1 := hl (fun _ _ _ _ q => by cases q)
  subst hl
  obtain ⟨st', h1, rfl⟩ := mm_mp_inv (show mm_mp _ _ _ _ = some k from h)
  obtain ⟨x, y, r, rfl, rfl⟩ := mm_j2_inv h1
  exact mm_pure (fun ls H locs _ _ _ q => lv_land hx hb hd q) kk
theorem ms_lor (hx : p.tables.exec = Jvm.exec) (hb : c.code = cc) {pc nx tg : Nat} {L : mm_L} {st : List Value} {S : mm_S} {k : mm_Kf} (ho : mm_ok cc pc .lor nx tg) (h : mm_st0 .lor pc nx tg L st S = some k) (kk : mm_At p l e R s m args below meth c Q D cl tys φ B S0 nL k) : mm_At p l e R s m args below meth c Q D cl tys φ B S0 nL (pc, L, st, S) := by
  obtain ⟨⟨len, hd, rfl, hl⟩, -⟩ := ho
  have hl : len = 1 := hl (fun _ _ _ _ q => by cases q)
  subst hl
  obtain ⟨st', h1, rfl⟩ := mm_mp_inv (show mm_mp _ _ _ _ = some k from h)
  obtain ⟨x, y, r, rfl, rfl⟩ := mm_j2_inv h1
  exact mm_pure (fun ls H locs _ _ _ q => lv_lor hx hb hd q) kk
theorem ms_lshl (hx : p.tables.exec = Jvm.exec) (hb : c.code = cc) {pc nx tg : Nat} {L : mm_L} {st : List Value} {S : mm_S} {k : mm_Kf} (ho : mm_ok cc pc .lshl nx tg) (h : mm_st0 .lshl pc nx tg L st S = some k) (kk : mm_At p l e R s m args below meth c Q D cl tys φ B S0 nL k) : mm_At p l e R s m args below meth c Q D cl tys φ B S0 nL (pc, L, st, S) := by
  obtain ⟨⟨len, hd, rfl, hl⟩, -⟩ := ho
  have hl : len = 1 := hl (fun _ _ _ _ q => by cases q)
  subst hl
  obtain ⟨st', h1, rfl⟩ := mm_mp_inv (show mm_mp _ _ _ _ = some k from h)
  obtain ⟨x, y, r, rfl, rfl⟩ := mm_ji_inv h1
  exact mm_pure (fun ls H locs _ _ _ q => lv_lshl hx hb hd rfl q) kk
theorem ms_lshr (hx : p.tables.exec = Jvm.exec) (hb : c.code = cc) {pc nx tg : Nat} {L : mm_L} {st : List Value} {S : mm_S} {k : mm_Kf} (ho : mm_ok cc pc .lshr nx tg) (h : mm_st0 .lshr pc nx tg L st S = some k) (kk : mm_At p l e R s m args below meth c Q D cl tys φ B S0 nL k) : mm_At p l e R s m args below meth c Q D cl tys φ B S0 nL (pc, L, st, S) := by
  obtain ⟨⟨len, hd, rfl, hl⟩, -⟩ := ho
  have hl : len = 1 := hl (fun _ _ _ _ q => by cases q)
  subst hl
  obtain ⟨st', h1, rfl⟩ := mm_mp_inv (show mm_mp _ _ _ _ = some k from h)
  obtain ⟨x, y, r, rfl, rfl⟩ := mm_ji_inv h1
  exact mm_pure (fun ls H locs _ _ _ q => lv_lshr hx hb hd rfl q) kk
theorem ms_lushr (hx : p.tables.exec = Jvm.exec) (hb : c.code = cc) {pc nx tg : Nat} {L : mm_L} {st : List Value} {S : mm_S} {k : mm_Kf} (ho : mm_ok cc pc .lushr nx tg) (h : mm_st0 .lushr pc nx tg L st S = some k) (kk : mm_At p l e R s m args below meth c Q D cl tys φ B S0 nL k) : mm_At p l e R s m args below meth c Q D cl tys φ B S0 nL (pc, L, st, S) := by
  obtain ⟨⟨len, hd, rfl, hl⟩, -⟩ := ho
  have hl : len = 1 := hl (fun _ _ _ _ q => by cases q)
  subst hl
  obtain ⟨st', h1, rfl⟩ := mm_mp_inv (show mm_mp _ _ _ _ = some k from h)
  obtain ⟨x, y, r, rfl, rfl⟩ := mm_ji_inv h1
  exact mm_pure (fun ls H locs _ _ _ q => lv_lushr hx hb hd rfl q) kk
theorem ms_lcmp (hx : p.tables.exec = Jvm.exec) (hb : c.code = cc) {pc nx tg : Nat} {L : mm_L} {st : List Value} {S : mm_S} {k : mm_Kf} (ho : mm_ok cc pc .lcmp nx tg) (h : mm_st0 .lcmp pc nx tg L st S = some k) (kk : mm_At p l e R s m args below meth c Q D cl tys φ B S0 nL k) : mm_At p l e R s m args below meth c Q D cl tys φ B S0 nL (pc, L, st, S) := by
  obtain ⟨⟨len, hd, rfl, hl⟩, -⟩ := ho
  have hl : len = 1 := hl (fun _ _ _ _ q => by cases q)
  subst hl
  obtain ⟨st', h1, rfl⟩ := mm_mp_inv (show mm_mp _ _ _ _ = some k from h)
  obtain ⟨x, y, r, rfl, rfl⟩ := mm_j2_inv h1
  exact mm_pure (fun ls H locs _ _ _ q => W.lcmp hx hb hd q) kk
theorem ms_i2l (hx : p.tables.exec = Jvm.exec) (hb : c.code = cc) {pc nx tg : Nat} {L : mm_L} {st : List Value} {S : mm_S} {k : mm_Kf} (ho : mm_ok cc pc .i2l nx tg) (h : mm_st0 .i2l pc nx tg L st S = some k) (kk : mm_At p l e R s m args below meth c Q D cl tys φ B S0 nL k) : mm_At p l e R s m args below meth c Q D cl tys φ B S0 nL (pc, L, st, S) := by
  obtain ⟨⟨len, hd, rfl, hl⟩, -⟩ := ho
  have hl : len = 1 := hl (fun _ _ _ _ q => by cases q)
  subst hl
  obtain ⟨st', h1, rfl⟩ := mm_mp_inv (show mm_mp _ _ _ _ = some k from h)
  obtain ⟨x, r, rfl, rfl⟩ := mm_i1_inv h1
  exact mm_pure (fun ls H locs _ _ _ q => lv_i2l hx hb hd rfl q) kk
theorem ms_l2i (hx : p.tables.exec = Jvm.exec) (hb : c.code = cc) {pc nx tg : Nat} {L : mm_L} {st : List Value} {S : mm_S} {k : mm_Kf} (ho : mm_ok cc pc .l2i nx tg) (h : mm_st0 .l2i pc nx tg L st S = some k) (kk : mm_At p l e R s m args below meth c Q D cl tys φ B S0 nL k) : mm_At p l e R s m args below meth c Q D cl tys φ B S0 nL (pc, L, st, S) := by
  obtain ⟨⟨len, hd, rfl, hl⟩, -⟩ := ho
  have hl : len = 1 := hl (fun _ _ _ _ q => by cases q)
  subst hl
  obtain ⟨st', h1, rfl⟩ := mm_mp_inv (show mm_mp _ _ _ _ = some k from h)
  obtain ⟨x, r, rfl, rfl⟩ := mm_j1_inv h1
  exact mm_pure (fun ls H locs _ _ _ q => lv_l2i hx hb hd rfl q) kk
end MA
end
section
section MB5
variable {p : Program} {l : Launch} {e : Env} {R : Room} {s : State} {m : MethodId} {args : Array Value} {below : List Frame} {meth : Method} {c : Code} {Q : State → Prop}
variable {D : va_G} {cl : List vw_C} {tys : List (ClassId × FieldType)} {φ : Nat → Nat} {B : Nat} {S0 : mm_S} {nL : Nat} {cc : ByteArray}
theorem ms_aconst_null (hx : p.tables.exec = Jvm.exec) (hb : c.code = cc) {pc nx tg : Nat} {L : mm_L} {st : List Value} {S : mm_S} {k : mm_Kf} (ho : mm_ok cc pc (.aconst_null) nx tg) (h : mm_st0 (.aconst_null) pc nx tg L st S = some k) (kk : mm_At p l e R s m args below meth c Q D cl tys φ B S0 nL k) : mm_At p l e R s m args below meth c Q D cl tys φ B S0 nL (pc, L, st, S) := by
  obtain ⟨⟨len, hd, rfl, hl⟩, ht⟩ := ho
  have hl : len = 1 := hl (fun _ _ _ _ q => by cases q)
  subst hl
  cases h
  exact mm_pure (fun ls H locs _ _ _ q => lv_null hx hb hd q) kk
theorem ms_iconst (hx : p.tables.exec = Jvm.exec) (hb : c.code = cc) {pc nx tg : Nat} {L : mm_L} {st : List Value} {S : mm_S} {k : mm_Kf} {n : Int} (ho : mm_ok cc pc (.iconst n) nx tg) (h : mm_st0 (.iconst n) pc nx tg L st S = some k) (kk : mm_At p l e R s m args below meth c Q D cl tys φ B S0 nL k) : mm_At p l e R s m args below meth c Q D cl tys φ B S0 nL (pc, L, st, S) := by
  obtain ⟨⟨len, hd, rfl, hl⟩, ht⟩ := ho
  have hl : len = 1 := hl (fun _ _ _ _ q => by cases q)
  subst hl
  cases h
  exact mm_pure (fun ls H locs _ _ _ q => lv_iconst hx hb hd rfl q) kk
theorem ms_bipush (hx : p.tables.exec = Jvm.exec) (hb : c.code = cc) {pc nx tg : Nat} {L : mm_L} {st : List Value} {S : mm_S} {k : mm_Kf} {n : Int} (ho : mm_ok cc pc (.bipush n) nx tg) (h : mm_st0 (.bipush n) pc nx tg L st S = some k) (kk : mm_At p l e R s m args below meth c Q D cl tys φ B S0 nL k) : mm_At p l e R s m args below meth c Q D cl tys φ B S0 nL (pc, L, st, S) := by
  obtain ⟨⟨len, hd, rfl, hl⟩, ht⟩ := ho
  have hl : len = 2 := hl (fun _ _ _ _ q => by cases q)
  subst hl
  cases h
  exact mm_pure (fun ls H locs _ _ _ q => lv_bipush hx hb hd rfl q) kk
theorem ms_sipush (hx : p.tables.exec = Jvm.exec) (hb : c.code = cc) {pc nx tg : Nat} {L : mm_L} {st : List Value} {S : mm_S} {k : mm_Kf} {n : Int} (ho : mm_ok cc pc (.sipush n) nx tg) (h : mm_st0 (.sipush n) pc nx tg L st S = some k) (kk : mm_At p l e R s m args below meth c Q D cl tys φ B S0 nL k) : mm_At p l e R s m args below meth c Q D cl tys φ B S0 nL (pc, L, st, S) := by
  obtain ⟨⟨len, hd, rfl, hl⟩, ht⟩ := ho
  have hl : len = 3 := hl (fun _ _ _ _ q => by cases q)
  subst hl
  cases h
  exact mm_pure (fun ls H locs _ _ _ q => lv_sipush hx hb hd rfl q) kk
theorem ms_lconst (hx : p.tables.exec = Jvm.exec) (hb : c.code = cc) {pc nx tg : Nat} {L : mm_L} {st : List Value} {S : mm_S} {k : mm_Kf} {n : Fin 2} (ho : mm_ok cc pc (.lconst n) nx tg) (h : mm_st0 (.lconst n) pc nx tg L st S = some k) (kk : mm_At p l e R s m args below meth c Q D cl tys φ B S0 nL k) : mm_At p l e R s m args below meth c Q D cl tys φ B S0 nL (pc, L, st, S) := by
  obtain ⟨⟨len, hd, rfl, hl⟩, ht⟩ := ho
  have hl : len = 1 := hl (fun _ _ _ _ q => by cases q)
  subst hl
  cases h
  exact mm_pure (fun ls H locs _ _ _ q => lv_lconst hx hb hd rfl q) kk
theorem ms_iload (hx : p.tables.exec = Jvm.exec) (hb : c.code = cc) {pc nx tg : Nat} {L : mm_L} {st : List Value} {S : mm_S} {k : mm_Kf} {j : Nat} (ho : mm_ok cc pc (.iload j) nx tg) (h : mm_st0 (.iload j) pc nx tg L st S = some k) (kk : mm_At p l e R s m args below meth c Q D cl tys φ B S0 nL k) : mm_At p l e R s m args below meth c Q D cl tys φ B S0 nL (pc, L, st, S) := by
  obtain ⟨⟨len, hd, rfl, hl⟩, ht⟩ := ho
  have hl : len = 2 := hl (fun _ _ _ _ q => by cases q)
  subst hl
  have h : mm_lI L j _ st S = some k := h
  unfold mm_lI at h
  split at h
  · rename_i x hv
    cases h
    exact mm_pure (fun ls H locs _ _ hh q => lv_iload hx hb hd (mm_lv_at hh hv) q) kk
  · cases h
theorem ms_iload_n (hx : p.tables.exec = Jvm.exec) (hb : c.code = cc) {pc nx tg : Nat} {L : mm_L} {st : List Value} {S : mm_S} {k : mm_Kf} {j : Fin 4} (ho : mm_ok cc pc (.iload_n j) nx tg) (h : mm_st0 (.iload_n j) pc nx tg L st S = some k) (kk : mm_At p l e R s m args below meth c Q D cl tys φ B S0 nL k) : mm_At p l e R s m args below meth c Q D cl tys φ B S0 nL (pc, L, st, S) := by
  obtain ⟨⟨len, hd, rfl, hl⟩, ht⟩ := ho
  have hl : len = 1 := hl (fun _ _ _ _ q => by cases q)
  subst hl
  have h : mm_lI L (j : Nat) _ st S = some k := h
  unfold mm_lI at h
  split at h
  · rename_i x hv
    cases h
    exact mm_pure (fun ls H locs _ _ hh q => lv_iload_n hx hb hd rfl (mm_lv_at hh hv) q) kk
  · cases h
theorem ms_lload (hx : p.tables.exec = Jvm.exec) (hb : c.code = cc) {pc nx tg : Nat} {L : mm_L} {st : List Value} {S : mm_S} {k : mm_Kf} {j : Nat} (ho : mm_ok cc pc (.lload j) nx tg) (h : mm_st0 (.lload j) pc nx tg L st S = some k) (kk : mm_At p l e R s m args below meth c Q D cl tys φ B S0 nL k) : mm_At p l e R s m args below meth c Q D cl tys φ B S0 nL (pc, L, st, S) := by
  obtain ⟨⟨len, hd, rfl, hl⟩, ht⟩ := ho
  have hl : len = 2 := hl (fun _ _ _ _ q => by cases q)
  subst hl
  have h : mm_lJ L j _ st S = some k := h
  unfold mm_lJ at h
  split at h
  · rename_i x hv
    cases h
    exact mm_pure (fun ls H locs _ _ hh q => lv_lload hx hb hd (mm_lv_at hh hv) q) kk
  · cases h
theorem ms_lload_n (hx : p.tables.exec = Jvm.exec) (hb : c.code = cc) {pc nx tg : Nat} {L : mm_L} {st : List Value} {S : mm_S} {k : mm_Kf} {j : Fin 4} (ho : mm_ok cc pc (.lload_n j) nx tg) (h : mm_st0 (.lload_n j) pc nx tg L st S = some k) (kk : mm_At p l e R s m args below meth c Q D cl tys φ B S0 nL k) : mm_At p l e R s m args below meth c Q D cl tys φ B S0 nL (pc, L, st, S) := by
  obtain ⟨⟨len, hd, rfl, hl⟩, ht⟩ := ho
  have hl : len = 1 := hl (fun _ _ _ _ q => by cases q)
  subst hl
  have h : mm_lJ L (j : Nat) _ st S = some k := h
  unfold mm_lJ at h
  split at h
  · rename_i x hv
    cases h
    exact mm_pure (fun ls H locs _ _ hh q => lv_lload_n hx hb hd rfl (mm_lv_at hh hv) q) kk
  · cases h
theorem ms_aload (hx : p.tables.exec = Jvm.exec) (hb : c.code = cc) {pc nx tg : Nat} {L : mm_L} {st : List Value} {S : mm_S} {k : mm_Kf} {j : Nat} (ho : mm_ok cc pc (.aload j) nx tg) (h : mm_st0 (.aload j) pc nx tg L st S = some k) (kk : mm_At p l e R s m args below meth c Q D cl tys φ B S0 nL k) : mm_At p l e R s m args below meth c Q D cl tys φ B S0 nL (pc, L, st, S) := by
  obtain ⟨⟨len, hd, rfl, hl⟩, ht⟩ := ho
  have hl : len = 2 := hl (fun _ _ _ _ q => by cases q)
  subst hl
  have h : mm_lA L j _ st S = some k := h
  unfold mm_lA at h
  split at h
  · rename_i x hv
    cases h
    exact mm_pure (fun ls H locs _ _ hh q => lv_aload hx hb hd (mm_lv_at hh hv) q) kk
  · rename_i hv
    cases h
    exact mm_pure (fun ls H locs _ _ hh q => lv_aloadN hx hb hd (mm_lv_at hh hv) q) kk
  · cases h
theorem ms_aload_n (hx : p.tables.exec = Jvm.exec) (hb : c.code = cc) {pc nx tg : Nat} {L : mm_L} {st : List Value} {S : mm_S} {k : mm_Kf} {j : Fin 4} (ho : mm_ok cc pc (.aload_n j) nx tg) (h : mm_st0 (.aload_n j) pc nx tg L st S = some k) (kk : mm_At p l e R s m args below meth c Q D cl tys φ B S0 nL k) : mm_At p l e R s m args below meth c Q D cl tys φ B S0 nL (pc, L, st, S) := by
  obtain ⟨⟨len, hd, rfl, hl⟩, ht⟩ := ho
  have hl : len = 1 := hl (fun _ _ _ _ q => by cases q)
  subst hl
  have h : mm_lA L (j : Nat) _ st S = some k := h
  unfold mm_lA at h
  split at h
  · rename_i x hv
    cases h
    exact mm_pure (fun ls H locs _ _ hh q => lv_aload_n hx hb hd rfl (mm_lv_at hh hv) q) kk
  · rename_i hv
    cases h
    exact mm_pure (fun ls H locs _ _ hh q => lv_aload_nN hx hb hd rfl (mm_lv_at hh hv) q) kk
  · cases h
theorem mm_len_s1 (L : mm_L) (i : Nat) (v : Value) : (mm_s1 L i v).length = L.length := by
  unfold mm_s1
  rw [List.length_set]
  cases i with
  | zero => rfl
  | succ i => simp only [mm_cut]; split <;> simp
theorem mm_len_s2 (L : mm_L) (i : Nat) (v : Value) : (mm_s2 L i v).length = L.length := by
  unfold mm_s2
  rw [List.length_set, List.length_set]
  cases i with
  | zero => rfl
  | succ i => simp only [mm_cut]; split <;> simp
theorem ms_istore (hx : p.tables.exec = Jvm.exec) (hb : c.code = cc) {pc nx tg : Nat} {L : mm_L} {st : List Value} {S : mm_S} {k : mm_Kf} {j : Nat} (ho : mm_ok cc pc (.istore j) nx tg) (h : mm_st0 (.istore j) pc nx tg L st S = some k) (kk : mm_At p l e R s m args below meth c Q D cl tys φ B S0 nL k) : mm_At p l e R s m args below meth c Q D cl tys φ B S0 nL (pc, L, st, S) := by
  obtain ⟨⟨len, hd, rfl, hl⟩, ht⟩ := ho
  have hl : len = 2 := hl (fun _ _ _ _ q => by cases q)
  subst hl
  have h : mm_sI L j _ st S = some k := h
  unfold mm_sI at h
  split at h
  · rename_i x r
    split at h
    · rename_i hlt
      cases h
      intro ls H locs h1 h0 h2 h3 h4 h5
      have h0 : L.length = nL := h0
      exact lv_istore hx hb hd h1 (by omega) rfl (fun ls' hl' => kk ls' H locs (mm_lv_s1 hl') (by rw [mm_len_s1]; exact h0) h2 h3 h4 h5)
    · cases h
  · cases h
theorem ms_istore_n (hx : p.tables.exec = Jvm.exec) (hb : c.code = cc) {pc nx tg : Nat} {L : mm_L} {st : List Value} {S : mm_S} {k : mm_Kf} {j : Fin 4} (ho : mm_ok cc pc (.istore_n j) nx tg) (h : mm_st0 (.istore_n j) pc nx tg L st S = some k) (kk : mm_At p l e R s m args below meth c Q D cl tys φ B S0 nL k) : mm_At p l e R s m args below meth c Q D cl tys φ B S0 nL (pc, L, st, S) := by
  obtain ⟨⟨len, hd, rfl, hl⟩, ht⟩ := ho
  have hl : len = 1 := hl (fun _ _ _ _ q => by cases q)
  subst hl
  have h : mm_sI L (j : Nat) _ st S = some k := h
  unfold mm_sI at h
  split at h
  · rename_i x r
    split at h
    · rename_i hlt
      cases h
      intro ls H locs h1 h0 h2 h3 h4 h5
      have h0 : L.length = nL := h0
      exact lv_istore_n hx hb hd rfl h1 (by omega) rfl (fun ls' hl' => kk ls' H locs (mm_lv_s1 hl') (by rw [mm_len_s1]; exact h0) h2 h3 h4 h5)
    · cases h
  · cases h
theorem ms_lstore (hx : p.tables.exec = Jvm.exec) (hb : c.code = cc) {pc nx tg : Nat} {L : mm_L} {st : List Value} {S : mm_S} {k : mm_Kf} {j : Nat} (ho : mm_ok cc pc (.lstore j) nx tg) (h : mm_st0 (.lstore j) pc nx tg L st S = some k) (kk : mm_At p l e R s m args below meth c Q D cl tys φ B S0 nL k) : mm_At p l e R s m args below meth c Q D cl tys φ B S0 nL (pc, L, st, S) := by
  obtain ⟨⟨len, hd, rfl, hl⟩, ht⟩ := ho
  have hl : len = 2 := hl (fun _ _ _ _ q => by cases q)
  subst hl
  have h : mm_sJ L j _ st S = some k := h
  unfold mm_sJ at h
  split at h
  · rename_i x r
    split at h
    · rename_i hlt
      cases h
      intro ls H locs h1 h0 h2 h3 h4 h5
      have h0 : L.length = nL := h0
      exact lv_lstore hx hb hd h1 (by omega) rfl (fun ls' hl' => kk ls' H locs (mm_lv_s2 hl') (by rw [mm_len_s2]; exact h0) h2 h3 h4 h5)
    · cases h
  · cases h
theorem ms_lstore_n (hx : p.tables.exec = Jvm.exec) (hb : c.code = cc) {pc nx tg : Nat} {L : mm_L} {st : List Value} {S : mm_S} {k : mm_Kf} {j : Fin 4} (ho : mm_ok cc pc (.lstore_n j) nx tg) (h : mm_st0 (.lstore_n j) pc nx tg L st S = some k) (kk : mm_At p l e R s m args below meth c Q D cl tys φ B S0 nL k) : mm_At p l e R s m args below meth c Q D cl tys φ B S0 nL (pc, L, st, S) := by
  obtain ⟨⟨len, hd, rfl, hl⟩, ht⟩ := ho
  have hl : len = 1 := hl (fun _ _ _ _ q => by cases q)
  subst hl
  have h : mm_sJ L (j : Nat) _ st S = some k := h
  unfold mm_sJ at h
  split at h
  · rename_i x r
    split at h
    · rename_i hlt
      cases h
      intro ls H locs h1 h0 h2 h3 h4 h5
      have h0 : L.length = nL := h0
      exact lv_lstore_n hx hb hd rfl h1 (by omega) rfl (fun ls' hl' => kk ls' H locs (mm_lv_s2 hl') (by rw [mm_len_s2]; exact h0) h2 h3 h4 h5)
    · cases h
  · cases h
theorem ms_astore (hx : p.tables.exec = Jvm.exec) (hb : c.code = cc) {pc nx tg : Nat} {L : mm_L} {st : List Value} {S : mm_S} {k : mm_Kf} {j : Nat} (ho : mm_ok cc pc (.astore j) nx tg) (h : mm_st0 (.astore j) pc nx tg L st S = some k) (kk : mm_At p l e R s m args below meth c Q D cl tys φ B S0 nL k) : mm_At p l e R s m args below meth c Q D cl tys φ B S0 nL (pc, L, st, S) := by
  obtain ⟨⟨len, hd, rfl, hl⟩, ht⟩ := ho
  have hl : len = 2 := hl (fun _ _ _ _ q => by cases q)
  subst hl
  have h : mm_sA L j _ st S = some k := h
  unfold mm_sA at h
  split at h
  · rename_i x r
    split at h
    · rename_i hlt
      cases h
      intro ls H locs h1 h0 h2 h3 h4 h5
      have h0 : L.length = nL := h0
      exact lv_astore hx hb hd h1 (by omega) rfl (fun ls' hl' => kk ls' H locs (mm_lv_s1 (v := .ref _) hl') (by rw [mm_len_s1]; exact h0) h2 h3 h4 h5)
    · cases h
  · rename_i r
    split at h
    · rename_i hlt
      cases h
      intro ls H locs h1 h0 h2 h3 h4 h5
      have h0 : L.length = nL := h0
      exact lv_astoreN hx hb hd h1 (by omega) rfl (fun ls' hl' => kk ls' H locs (mm_lv_s1 (v := .null) hl') (by rw [mm_len_s1]; exact h0) h2 h3 h4 h5)
    · cases h
  · cases h
theorem ms_astore_n (hx : p.tables.exec = Jvm.exec) (hb : c.code = cc) {pc nx tg : Nat} {L : mm_L} {st : List Value} {S : mm_S} {k : mm_Kf} {j : Fin 4} (ho : mm_ok cc pc (.astore_n j) nx tg) (h : mm_st0 (.astore_n j) pc nx tg L st S = some k) (kk : mm_At p l e R s m args below meth c Q D cl tys φ B S0 nL k) : mm_At p l e R s m args below meth c Q D cl tys φ B S0 nL (pc, L, st, S) := by
  obtain ⟨⟨len, hd, rfl, hl⟩, ht⟩ := ho
  have hl : len = 1 := hl (fun _ _ _ _ q => by cases q)
  subst hl
  have h : mm_sA L (j : Nat) _ st S = some k := h
  unfold mm_sA at h
  split at h
  · rename_i x r
    split at h
    · rename_i hlt
      cases h
      intro ls H locs h1 h0 h2 h3 h4 h5
      have h0 : L.length = nL := h0
      exact lv_astore_n hx hb hd rfl h1 (by omega) rfl (fun ls' hl' => kk ls' H locs (mm_lv_s1 (v := .ref _) hl') (by rw [mm_len_s1]; exact h0) h2 h3 h4 h5)
    · cases h
  · rename_i r
    split at h
    · rename_i hlt
      cases h
      intro ls H locs h1 h0 h2 h3 h4 h5
      have h0 : L.length = nL := h0
      exact lv_astore_nN hx hb hd rfl h1 (by omega) rfl (fun ls' hl' => kk ls' H locs (mm_lv_s1 (v := .null) hl') (by rw [mm_len_s1]; exact h0) h2 h3 h4 h5)
    · cases h
  · cases h
theorem ms_iinc (hx : p.tables.exec = Jvm.exec) (hb : c.code = cc) {pc nx tg : Nat} {L : mm_L} {st : List Value} {S : mm_S} {k : mm_Kf} {j : Nat} {n : Int} (ho : mm_ok cc pc (.iinc j n) nx tg) (h : mm_st0 (.iinc j n) pc nx tg L st S = some k) (kk : mm_At p l e R s m args below meth c Q D cl tys φ B S0 nL k) : mm_At p l e R s m args below meth c Q D cl tys φ B S0 nL (pc, L, st, S) := by
  obtain ⟨⟨len, hd, rfl, hl⟩, ht⟩ := ho
  have hl : len = 3 := hl (fun _ _ _ _ q => by cases q)
  subst hl
  have h : mm_inc L j n _ st S = some k := h
  unfold mm_inc at h
  split at h
  · rename_i x hv
    split at h
    · rename_i hlt
      cases h
      intro ls H locs h1 h0 h2 h3 h4 h5
      have h0 : L.length = nL := h0
      obtain ⟨q, hq⟩ := List.getElem?_of_mem (mm_prs_in (φ := φ) hv)
      exact lv_iinc hx hb hd h1 (k := q) hq rfl (by omega) rfl (fun ls' hl' => kk ls' H locs (mm_lv_s1 (v := .int (x + Int32.ofInt n)) hl') (by rw [mm_len_s1]; exact h0) h2 h3 h4 h5)
    · cases h
  · cases h
theorem ms_ifCond (hx : p.tables.exec = Jvm.exec) (hb : c.code = cc) {pc nx tg : Nat} {L : mm_L} {st : List Value} {S : mm_S} {k : mm_Kf} {o : ClassFile.Cond} {off : Int} (ho : mm_ok cc pc (.ifCond o off) nx tg) (h : mm_st0 (.ifCond o off) pc nx tg L st S = some k) (kk : mm_At p l e R s m args below meth c Q D cl tys φ B S0 nL k) : mm_At p l e R s m args below meth c Q D cl tys φ B S0 nL (pc, L, st, S) := by
  obtain ⟨⟨len, hd, rfl, hl⟩, ht⟩ := ho
  have hl : len = 3 := hl (fun _ _ _ _ q => by cases q)
  subst hl
  have ht : (pc : Int) + off = (tg : Int) := ht
  have h : mm_if1 o _ tg L st S = some k := h
  unfold mm_if1 at h
  split at h
  · cases h
    intro ls H locs h1 h0 h2 h3 h4 h5
    have kk := kk ls H locs h1 h0 h2 h3 h4 h5
    cases o with
    | eq =>
      refine lv_if_eq hx hb hd ht (fun q => ?_) (fun q => ?_)
      · simpa [mm_icmp, q] using kk
      · simpa [mm_icmp, q] using kk
    | ne =>
      refine lv_if_ne hx hb hd ht (fun q => ?_) (fun q => ?_)
      · simpa [mm_icmp, q] using kk
      · simpa [mm_icmp, q] using kk
    | lt =>
      refine lv_if_lt hx hb hd ht (fun q => ?_) (fun q => ?_)
      · simpa [mm_icmp, q] using kk
      · simpa [mm_icmp, q] using kk
    | ge =>
      refine lv_if_ge hx hb hd ht (fun q => ?_) (fun q => ?_)
      · simpa [mm_icmp, q] using kk
      · simpa [mm_icmp, q] using kk
    | gt =>
      refine lv_if_gt hx hb hd ht (fun q => ?_) (fun q => ?_)
      · simpa [mm_icmp, q] using kk
      · simpa [mm_icmp, q] using kk
    | le =>
      refine lv_if_le hx hb hd ht (fun q => ?_) (fun q => ?_)
      · simpa [mm_icmp, q] using kk
      · simpa [mm_icmp, q] using kk
  · cases h
theorem ms_if_icmp (hx : p.tables.exec = Jvm.exec) (hb : c.code = cc) {pc nx tg : Nat} {L : mm_L} {st : List Value} {S : mm_S} {k : mm_Kf} {o : ClassFile.Cond} {off : Int} (ho : mm_ok cc pc (.if_icmp o off) nx tg) (h : mm_st0 (.if_icmp o off) pc nx tg L st S = some k) (kk : mm_At p l e R s m args below meth c Q D cl tys φ B S0 nL k) : mm_At p l e R s m args below meth c Q D cl tys φ B S0 nL (pc, L, st, S) := by
  obtain ⟨⟨len, hd, rfl, hl⟩, ht⟩ := ho
  have hl : len = 3 := hl (fun _ _ _ _ q => by cases q)
  subst hl
  have ht : (pc : Int) + off = (tg : Int) := ht
  have h : mm_if2 o _ tg L st S = some k := h
  unfold mm_if2 at h
  split at h
  · cases h
    intro ls H locs h1 h0 h2 h3 h4 h5
    have kk := kk ls H locs h1 h0 h2 h3 h4 h5
    cases o with
    | eq =>
      refine lv_icmp_eq hx hb hd ht (fun q => ?_) (fun q => ?_)
      · simpa [mm_icmp, q] using kk
      · simpa [mm_icmp, q] using kk
    | ne =>
      refine lv_icmp_ne hx hb hd ht (fun q => ?_) (fun q => ?_)
      · simpa [mm_icmp, q] using kk
      · simpa [mm_icmp, q] using kk
    | lt =>
      refine lv_icmp_lt hx hb hd ht (fun q => ?_) (fun q => ?_)
      · simpa [mm_icmp, q] using kk
      · simpa [mm_icmp, q] using kk
    | ge =>
      refine lv_icmp_ge hx hb hd ht (fun q => ?_) (fun q => ?_)
      · simpa [mm_icmp, q] using kk
      · simpa [mm_icmp, q] using kk
    | gt =>
      refine lv_icmp_gt hx hb hd ht (fun q => ?_) (fun q => ?_)
      · simpa [mm_icmp, q] using kk
      · simpa [mm_icmp, q] using kk
    | le =>
      refine lv_icmp_le hx hb hd ht (fun q => ?_) (fun q => ?_)
      · simpa [mm_icmp, q] using kk
      · simpa [mm_icmp, q] using kk
  · cases h
theorem ms_goto (hx : p.tables.exec = Jvm.exec) (hb : c.code = cc) {pc nx tg : Nat} {L : mm_L} {st : List Value} {S : mm_S} {k : mm_Kf} {off : Int} (ho : mm_ok cc pc (.goto off) nx tg) (h : mm_st0 (.goto off) pc nx tg L st S = some k) (kk : mm_At p l e R s m args below meth c Q D cl tys φ B S0 nL k) : mm_At p l e R s m args below meth c Q D cl tys φ B S0 nL (pc, L, st, S) := by
  obtain ⟨⟨len, hd, rfl, hl⟩, ht⟩ := ho
  have hl : len = 3 := hl (fun _ _ _ _ q => by cases q)
  subst hl
  have ht : (pc : Int) + off = (tg : Int) := ht
  cases h
  exact mm_pure (fun ls H locs _ _ _ q => lv_goto hx hb hd ht q) kk
theorem ms_dup (hx : p.tables.exec = Jvm.exec) (hb : c.code = cc) {pc nx tg : Nat} {L : mm_L} {st : List Value} {S : mm_S} {k : mm_Kf} (ho : mm_ok cc pc (.dup) nx tg) (h : mm_st0 (.dup) pc nx tg L st S = some k) (kk : mm_At p l e R s m args below meth c Q D cl tys φ B S0 nL k) : mm_At p l e R s m args below meth c Q D cl tys φ B S0 nL (pc, L, st, S) := by
  obtain ⟨⟨len, hd, rfl, hl⟩, ht⟩ := ho
  have hl : len = 1 := hl (fun _ _ _ _ q => by cases q)
  subst hl
  have h : mm_dup _ L st S = some k := h
  unfold mm_dup at h
  split at h
  · split at h
    · rename_i v r hc
      cases h
      exact mm_pure (fun ls H locs _ _ _ q => lv_dup hx hb hd (by rw [mm_tv_cat]; exact hc) q) kk
    · cases h
  · cases h
theorem ms_pop (hx : p.tables.exec = Jvm.exec) (hb : c.code = cc) {pc nx tg : Nat} {L : mm_L} {st : List Value} {S : mm_S} {k : mm_Kf} (ho : mm_ok cc pc (.pop) nx tg) (h : mm_st0 (.pop) pc nx tg L st S = some k) (kk : mm_At p l e R s m args below meth c Q D cl tys φ B S0 nL k) : mm_At p l e R s m args below meth c Q D cl tys φ B S0 nL (pc, L, st, S) := by
  obtain ⟨⟨len, hd, rfl, hl⟩, ht⟩ := ho
  have hl : len = 1 := hl (fun _ _ _ _ q => by cases q)
  subst hl
  have h : mm_pop _ L st S = some k := h
  unfold mm_pop at h
  split at h
  · split at h
    · rename_i v r hc
      cases h
      exact mm_pure (fun ls H locs _ _ _ q => lv_pop hx hb hd (by rw [mm_tv_cat]; exact hc) q) kk
    · cases h
  · cases h
theorem ms_dup_x1 (hx : p.tables.exec = Jvm.exec) (hb : c.code = cc) {pc nx tg : Nat} {L : mm_L} {st : List Value} {S : mm_S} {k : mm_Kf} (ho : mm_ok cc pc (.dup_x1) nx tg) (h : mm_st0 (.dup_x1) pc nx tg L st S = some k) (kk : mm_At p l e R s m args below meth c Q D cl tys φ B S0 nL k) : mm_At p l e R s m args below meth c Q D cl tys φ B S0 nL (pc, L, st, S) := by
  obtain ⟨⟨len, hd, rfl, hl⟩, ht⟩ := ho
  have hl : len = 1 := hl (fun _ _ _ _ q => by cases q)
  subst hl
  have h : mm_dx1 _ L st S = some k := h
  unfold mm_dx1 at h
  split at h
  · split at h
    · rename_i v u r hc
      cases h
      exact mm_pure (fun ls H locs _ _ _ q => lv_dup_x1 hx hb hd (by rw [mm_tv_cat]; exact hc.1) (by rw [mm_tv_cat]; exact hc.2) q) kk
    · cases h
  · cases h
theorem ms_dup2 (hx : p.tables.exec = Jvm.exec) (hb : c.code = cc) {pc nx tg : Nat} {L : mm_L} {st : List Value} {S : mm_S} {k : mm_Kf} (ho : mm_ok cc pc (.dup2) nx tg) (h : mm_st0 (.dup2) pc nx tg L st S = some k) (kk : mm_At p l e R s m args below meth c Q D cl tys φ B S0 nL k) : mm_At p l e R s m args below meth c Q D cl tys φ B S0 nL (pc, L, st, S) := by
  obtain ⟨⟨len, hd, rfl, hl⟩, ht⟩ := ho
  have hl : len = 1 := hl (fun _ _ _ _ q => by cases q)
  subst hl
  have h : mm_dp2 _ L st S = some k := h
  unfold mm_dp2 at h
  split at h
  · split at h
    · rename_i v u r hc
      cases h
      exact mm_pure (fun ls H locs _ _ _ q => lv_dup2_11 hx hb hd (by rw [mm_tv_cat]; exact hc.1) (by rw [mm_tv_cat]; exact hc.2) q) kk
    · cases h
  · cases h
theorem ms_tableswitch (hx : p.tables.exec = Jvm.exec) (hb : c.code = cc) {pc nx tg : Nat} {L : mm_L} {st : List Value} {S : mm_S} {k : mm_Kf} {df lo hi : Int} {offs : Array Int} (ho : mm_ok cc pc (.tableswitch df lo hi offs) nx tg) (h : mm_st0 (.tableswitch df lo hi offs) pc nx tg L st S = some k) (kk : mm_At p l e R s m args below meth c Q D cl tys φ B S0 nL k) : mm_At p l e R s m args below meth c Q D cl tys φ B S0 nL (pc, L, st, S) := by
  obtain ⟨⟨len, hd, rfl, -⟩, -⟩ := ho
  have h : mm_tsw pc df lo hi offs L st S = some k := h
  unfold mm_tsw at h
  split at h
  · split at h
    · rename_i hc
      split at h
      · rename_i hp
        cases h
        exact mm_pure (fun ls H locs _ _ _ q => lv_tableOut hx hb hd hc (by omega) q) kk
      · cases h
    · rename_i hc
      split at h
      · rename_i off hoff
        split at h
        · rename_i hp
          cases h
          exact mm_pure (fun ls H locs _ _ _ q => lv_tableIn hx hb hd (fun z => hc (Or.inl z)) (fun z => hc (Or.inr z)) hoff (by omega) q) kk
        · cases h
      · cases h
  · cases h
set_option maxHeartbeats 4000000 in
theorem ms_all (hx : p.tables.exec = Jvm.exec) (hb : c.code = cc) {i : Instr} {pc nx tg : Nat} {L : mm_L} {st : List Value} {S : mm_S} {k : mm_Kf} (ho : mm_ok cc pc i nx tg) (h : mm_st0 i pc nx tg L st S = some k) (kk : mm_At p l e R s m args below meth c Q D cl tys φ B S0 nL k) : mm_At p l e R s m args below meth c Q D cl tys φ B S0 nL (pc, L, st, S) := by
  cases i

  case aconst_null => exact ms_aconst_null hx hb ho h kk
  case iconst => exact ms_iconst hx hb ho h kk
  case bipush => exact ms_bipush hx hb ho h kk
  case sipush => exact ms_sipush hx hb ho h kk
  case lconst => exact ms_lconst hx hb ho h kk
  case iload => exact ms_iload hx hb ho h kk
  case iload_n => exact ms_iload_n hx hb ho h kk
  case lload => exact ms_lload hx hb ho h kk
  case lload_n => exact ms_lload_n hx hb ho h kk
  case aload => exact ms_aload hx hb ho h kk
  case aload_n => exact ms_aload_n hx hb ho h kk
  case istore => exact ms_istore hx hb ho h kk
  case istore_n => exact ms_istore_n hx hb ho h kk
  case lstore => exact ms_lstore hx hb ho h kk
  case lstore_n => exact ms_lstore_n hx hb ho h kk
  case astore => exact ms_astore hx hb ho h kk
  case astore_n => exact ms_astore_n hx hb ho h kk
  case iinc => exact ms_iinc hx hb ho h kk
  case iadd => exact ms_iadd hx hb ho h kk
  case isub => exact ms_isub hx hb ho h kk
  case imul => exact ms_imul hx hb ho h kk
  case iand => exact ms_iand hx hb ho h kk
  case ior => exact ms_ior hx hb ho h kk
  case ishl => exact ms_ishl hx hb ho h kk
  case ishr => exact ms_ishr hx hb ho h kk
  case iushr => exact ms_iushr hx hb ho h kk
  case ladd => exact ms_ladd hx hb ho h kk
  case lsub => exact ms_lsub hx hb ho h kk
  case lmul => exact ms_lmul hx hb ho h kk
  case land => exact ms_land hx hb ho h kk
  case lor => exact ms_lor hx hb ho h kk
  case lshl => exact ms_lshl hx hb ho h kk
  case lshr => exact ms_lshr hx hb ho h kk
  case lushr => exact ms_lushr hx hb ho h kk
  case lcmp => exact ms_lcmp hx hb ho h kk
  case i2l => exact ms_i2l hx hb ho h kk
  case l2i => exact ms_l2i hx hb ho h kk
  case ifCond => exact ms_ifCond hx hb ho h kk
  case if_icmp => exact ms_if_icmp hx hb ho h kk
  case goto => exact ms_goto hx hb ho h kk
  case dup => exact ms_dup hx hb ho h kk
  case pop => exact ms_pop hx hb ho h kk
  case dup_x1 => exact ms_dup_x1 hx hb ho h kk
  case dup2 => exact ms_dup2 hx hb ho h kk
  case tableswitch => exact ms_tableswitch hx hb ho h kk
  all_goals (cases h)
end MB5
end
