/-! an exception caught: rows of the table are passed or take it, their classes being linked on the way -/
section MK17
variable {e : Env} {s0 S : State} {f : JFrame} {a : Addr} {cell : Cell}
/-- the row is passed: it doesn't cover the place, or its class doesn't take the thrown one's -/
def mk_no (pl : Platform) (s0 : State) (d : ClassId) (pc : Nat) (th : ClassId) (y : ExceptionTableEntry) : Prop := covers y pc = false ∨ (y.catchType ≠ 0 ∧ ∃ c, s0.vm.ClassLinks pl d y.catchType c ∧ s0.vm.assignable th c = false)
/-- the row takes it -/
def mk_yes (pl : Platform) (s0 : State) (d : ClassId) (th : ClassId) (x : ExceptionTableEntry) : Prop := x.catchType ≠ 0 ∧ ∃ c, s0.vm.ClassLinks pl d x.catchType c ∧ s0.vm.assignable th c = true
theorem mk_link {Q : Handler → Pre} {E : CtlPost} {b : Bool} {acts : List Action} {x : ExceptionTableEntry} {t : List ExceptionTableEntry} {c : ClassId} (hx : covers x f.pc = true) (h0 : x.catchType ≠ 0) (hl : S.vm.ClassLinks e.platform f.method.cls x.catchType c) (hcell : S.heap[a]? = some cell) (hobj : ∀ k, cell.vm ≠ .statics k)
    (hk : ∃ k, S.vm.classes[cell.cls]? = some k) (hc : ∃ k, S.vm.classes[c]? = some k) :
    wp (findHandler.go f a (x :: t)) Q E e b acts S ↔ if S.vm.assignable cell.cls c = true then Q (.found x.handlerPc) b acts (S.setVm (S.vm.noted f.method.cls x.catchType (.cls c))) else wp (findHandler.go f a t) Q E e b acts (S.setVm (S.vm.noted f.method.cls x.catchType (.cls c))) := by
  simp only [covers] at hx
  obtain ⟨r1, r2⟩ := (resolveClass_links e.toSetting hl).op (op := VmOp.resolveClass f.method.cls x.catchType) rfl
  have hal : S.vm.Alike (S.vm.noted f.method.cls x.catchType (.cls c)) := (Vm.Alike.refl S.vm).noted _ _ _
  obtain ⟨k1, hk1⟩ := hk
  obtain ⟨k2, hk2⟩ := hc
  obtain ⟨k1', hk1', -⟩ := hal.2.2 _ _ hk1
  obtain ⟨k2', hk2', -⟩ := hal.2.2 _ _ hk2
  have e1 : (S.vm.noted f.method.cls x.catchType (.cls c)).assignable cell.cls c = S.vm.assignable cell.cls c := hal.assignable _ _
  cases hq : S.vm.assignable cell.cls c with
  | true => simp [findHandler.go, hx, h0, r1, r2, hcell, hobj, hk1', hk2', e1, hq, VmOp.dirties, VmOp.acts]
  | false => simp [findHandler.go, hx, h0, r1, r2, hcell, hobj, hk1', hk2', e1, hq, VmOp.dirties, VmOp.acts]
theorem mk_go (hobj : ∀ k, cell.vm ≠ .statics k) (hk0 : ∃ k, s0.vm.classes[cell.cls]? = some k) (x : ExceptionTableEntry) (rest : List ExceptionTableEntry) (hx : covers x f.pc = true) (hy : mk_yes e.platform s0 f.method.cls cell.cls x) :
    ∀ (pre : List ExceptionTableEntry) (S : State), s0.WarmedH S.vm → S.heap[a]? = some cell → (∀ y ∈ pre, mk_no e.platform s0 f.method.cls f.pc cell.cls y) →
      ∃ vm', s0.WarmedH vm' ∧ ∀ (Q : Handler → Pre) (E : CtlPost) (b : Bool) (acts : List Action), wp (findHandler.go f a (pre ++ x :: rest)) Q E e b acts S ↔ Q (.found x.handlerPc) b acts (S.setVm vm') := by
  obtain ⟨k0, hk0⟩ := hk0
  intro pre
  induction pre with
  | nil =>
    intro S hW hcell _
    obtain ⟨k0', hk0', -⟩ := hW.alike.2.2 _ _ hk0
    obtain ⟨h0, c, hl, hfit⟩ := hy
    obtain ⟨dk, _, _, kt, hd, _, _, _, _, hkt, _, hopen⟩ := hl.here
    obtain ⟨kt', hkt', -⟩ := hW.alike.2.2 _ _ hkt
    refine ⟨_, hW.noted hd hopen (State.rightAt_cls hl), fun Q E b acts => ?_⟩
    rw [List.nil_append, mk_link hx h0 (hW.classLinks hl) hcell hobj ⟨k0', hk0'⟩ ⟨kt', hkt'⟩, hW.alike.assignable, if_pos hfit]
  | cons y ys ih =>
    intro S hW hcell hpass
    obtain ⟨k0', hk0', -⟩ := hW.alike.2.2 _ _ hk0
    have hrest : ∀ z ∈ ys, mk_no e.platform s0 f.method.cls f.pc cell.cls z := fun z hz => hpass z (List.mem_cons_of_mem _ hz)
    cases hcov : covers y f.pc with
    | true =>
      rcases hpass y List.mem_cons_self with h | ⟨h0, c, hl, hno⟩
      · rw [h] at hcov; cases hcov
      · obtain ⟨dk, _, _, kt, hd, _, _, _, _, hkt, _, hopen⟩ := hl.here
        obtain ⟨kt', hkt', -⟩ := hW.alike.2.2 _ _ hkt
        obtain ⟨vm', hW', hq⟩ := ih (S.setVm (S.vm.noted f.method.cls y.catchType (.cls c))) (hW.noted hd hopen (State.rightAt_cls hl)) hcell hrest
        refine ⟨vm', hW', fun Q E b acts => ?_⟩
        rw [List.cons_append, mk_link hcov h0 (hW.classLinks hl) hcell hobj ⟨k0', hk0'⟩ ⟨kt', hkt'⟩, hW.alike.assignable, if_neg (by rw [hno]; decide)]
        exact hq Q E b acts
    | false =>
      obtain ⟨vm', hW', hq⟩ := ih S hW hcell hrest
      refine ⟨vm', hW', fun Q E b acts => ?_⟩
      rw [List.cons_append, W.findHandler_go_skip hcov]
      exact hq Q E b acts
theorem mk_step {r : List Frame} {pc : Nat} {vm' : Vm} (hfind : ∀ (Q : Handler → Pre) (E : CtlPost) (b : Bool) (acts : List Action), wp (findHandler f a) Q E e b acts S ↔ Q (.found pc) b acts (S.setVm vm')) :
    (stepThrowing e S a (.java f :: r)).Is ((S.setVm vm').setFrames (.java { f with pc := pc, stack := [.ref a] } :: r)) [] := by
  simp only [stepThrowing, searchFrame, vmDo]
  generalize hr : Sem.go _ e false [] S = res
  obtain ⟨as, rfl, ha⟩ := Sem.eq_ok_of hr (a := Handler.found pc) (s' := S.setVm vm') (acts' := []) (by simp [hfind _ _ _ _])
  exact ⟨rfl, ha⟩
variable {p : Program} {l : Launch} {R : Room} {s : State} {m : MethodId} {args : Array Value} {below : List Frame} {meth : Method} {c : Code} {T : State} {locs : List Loc} {cells slots : Nat}
theorem mk_caught (X : Stand p l e R s m args below meth c T locs cells slots) {g : JFrame} (hg : g.method = m) (hcell : T.heap[a]? = some cell) (hobj : ∀ k, cell.vm ≠ .statics k) (hk0 : ∃ k, s.vm.classes[cell.cls]? = some k)
    (pre : List ExceptionTableEntry) (x : ExceptionTableEntry) (rest : List ExceptionTableEntry) (hsplit : c.exceptionTable.toList = pre ++ x :: rest) (hpass : ∀ y ∈ pre, mk_no e.platform s m.cls g.pc cell.cls y) (hx : covers x g.pc = true) (hend : mk_yes e.platform s m.cls cell.cls x) :
    ∃ vm', Stand p l e R s m args below meth c (T.setVm vm') locs cells slots ∧ ∀ tg, Steps p.tables e below ((T.setVm vm').setTop { g with pc := x.handlerPc, stack := [.ref a] }) tg → Steps p.tables e below ((T.setTop g).pushFrame (.throwing a)) tg := by
  subst hg
  have hh : ((T.setTop g).pushFrame (.throwing a)).heap[a]? = some cell := by rw [Stand.throwing_heap]; exact hcell
  have hv : s.WarmedH ((T.setTop g).pushFrame (.throwing a)).vm := by rw [Stand.throwing_vm]; exact X.warmed
  have hm : ((T.setTop g).pushFrame (.throwing a)).vm.method? g.method = some meth := by rw [Stand.throwing_vm]; exact X.method'
  obtain ⟨vm', hW', hq⟩ := mk_go (e := e) (s0 := s) (f := g) (a := a) hobj hk0 x rest hx hend pre _ hv hh hpass
  refine ⟨vm', X.noted hW', fun tg hrest => ?_⟩
  have hfind : ∀ (Q : Handler → Pre) (E : CtlPost) (b : Bool) (acts : List Action), wp (findHandler g a) Q E e b acts ((T.setTop g).pushFrame (.throwing a)) ↔ Q (.found x.handlerPc) b acts (((T.setTop g).pushFrame (.throwing a)).setVm vm') := fun Q E b acts => by
    rw [W.findHandler_eq hm X.code, hsplit]
    exact hq Q E b acts
  have h := X.here
  obtain ⟨hgo, hw⟩ := h.throwing a
  refine Steps.head hgo hw ?_
  rw [stepThread_throwing (frames_entered h.top _), (mk_step (S := (T.setTop g).pushFrame (.throwing a)) hfind).1]
  obtain ⟨g₀, hg0⟩ := Option.isSome_iff_exists.mp h.top
  obtain ⟨r, hr⟩ := State.topJava?_eq_some.mp hg0
  have hr' : (T.setVm vm').frames = .java g₀ :: r := hr
  rw [State.setTop_of_frames _ hr'] at hrest
  have hsf : ∀ (u : State) (F1 F2 : List Frame), ((u.setFrames F1).setVm vm').setFrames F2 = (u.setVm vm').setFrames F2 := by
    intro u F1 F2
    have h1 : (u.setFrames F1).setVm vm' = (u.setVm vm').setFrames F1 := rfl
    rw [h1, State.setFrames_setFrames]
  rw [hr, List.tail_cons, State.pushFrame, hsf, State.setTop_of_frames _ hr, hsf]
  exact hrest
end MK17
section MK17b
variable {p : Program} {l : Launch} {e : Env} {R : Room} {s : State} {m : MethodId} {args : Array Value} {below : List Frame} {meth : Method} {c : Code}
variable {cc : Nat → ByteArray} {hh : Nat → List (Nat × Nat × Nat × Nat)} {G : mm_G} {TT : mm_T} {D : va_G} {cl : List vw_C} {tys : List (ClassId × FieldType)} {B : Nat} {ex : Nat → Nat} {Ts : List Jvm.Cond} {S0 : mm_S} {aT : List FieldType} {own : Nat → String} {scr : Nat × (Nat → Int32)}
def mk_cov (y : Nat × Nat × Nat × Nat) (pc : Nat) : Bool := covers { startPc := y.1, endPc := y.2.1, handlerPc := y.2.2.1, catchType := y.2.2.2 } pc
/-- what the program's data must say where a method catches: no row covers the place; or the first row that takes the class, behind rows that don't -/
def mm_ctOK (Ts : List Jvm.Cond) (cl : List vw_C) (NC : String → String → Prop) (G : mm_G) (hh : Nat → List (Nat × Nat × Nat × Nat)) (own : Nat → String) (f : Nat) : Prop :=
  (∀ pc ec, mm_hnd G f pc ec = some none → ∀ y ∈ hh f, mk_cov y pc = false) ∧
  ∀ pc ec h, mm_hnd G f pc ec = some (some h) → ∃ (pre : List (Nat × Nat × Nat × Nat)) (y : Nat × Nat × Nat × Nat) (post : List (Nat × Nat × Nat × Nat)) (r : vw_C), hh f = pre ++ y :: post ∧ cl[ec]? = some r ∧ (mk_cov y pc = true ∧ y.2.2.1 = h ∧ y.2.2.2 ≠ 0 ∧ ∃ nm, Jvm.Cond.classLink (own f) y.2.2.2 nm ∈ Ts ∧ Jvm.Cond.castable r.1 nm ∈ Ts) ∧
    ∀ z ∈ pre, mk_cov z pc = false ∨ (z.2.2.2 ≠ 0 ∧ ∃ nm, Jvm.Cond.classLink (own f) z.2.2.2 nm ∈ Ts ∧ NC r.1 nm)
set_option maxHeartbeats 4000000 in
theorem mm_cat_sound {f : Nat} {NC : String → String → Prop} (F : mm_Fix p R s m args meth c D cl tys B ex S0 (mm_nl G f) (cc f) Ts aT TT (own f) (mm_oc G f) (mm_pool G f) (mm_ini G f) scr) (hct : mm_ctOK Ts cl NC G hh own f) (hNC : ∀ x y, NC x y → va_Nc x y s)
    (htab : c.exceptionTable.toList.map (fun h => (h.startPc, h.endPc, h.handlerPc, h.catchType)) = hh f) (hpl : l.admits e → e.platform.magicAccessors = ({} : Platform).magicAccessors) : mm_Cat p l e R s m args below meth c G D cl f := by
  obtain ⟨⟨hx, hb, hml, hown, hlk, hini⟩, ⟨hts, hK, hcl, hplo⟩, -⟩ := F
  refine ⟨fun pc ec hn x hxm => ?_, fun T locs cells slots pc ec h a g hn X hg hpc hat => ?_⟩
  · have := hct.1 pc ec hn (x.startPc, x.endPc, x.handlerPc, x.catchType) (by rw [← htab]; exact List.mem_map.mpr ⟨x, hxm, rfl⟩)
    exact this
  · obtain ⟨pre, y, post, r, hsp, hr, ⟨hy1, hy2, hy3, nm, hy4, hy5⟩, hpre⟩ := hct.2 pc ec h hn
    obtain ⟨vs, r2, hr2, cell, q1, q2, q3, -⟩ := hat
    cases hr.symm.trans hr2
    have q1 : T.heap[a]? = some cell := q1
    rw [hsp] at htab
    obtain ⟨tp, t2, e1, e2, e3⟩ := List.map_eq_append_iff.mp htab
    obtain ⟨x, tq, e4, e5, e6⟩ := List.map_eq_cons_iff.mp e3
    have hfc : s.vm.findClass r.1 = some (D.1 ec) := (hK.1 _ _ hr).2.1
    have hpl' := hpl X.admits
    have hlinks : ∀ (t : Nat) (nm : String), Jvm.Cond.classLink (own f) t nm ∈ Ts → ∃ c', s.vm.findClass nm = some c' ∧ s.vm.ClassLinks e.platform m.cls t c' := by
      intro t nm ht
      obtain ⟨c', hc', hl⟩ := Cond.classLink_spec hown (hts _ ht) e.platform hpl'
      exact ⟨c', hc', hl⟩
    obtain ⟨c', hc', hl'⟩ := hlinks _ _ hy4
    obtain ⟨k1, k2, hk1, hk2, hasg⟩ := Cond.castable_spec (hts _ hy5)
    cases hfc.symm.trans hk1
    cases hc'.symm.trans hk2
    have hxe : (x.startPc, x.endPc, x.handlerPc, x.catchType) = y := e5
    have hxc : x.catchType = y.2.2.2 := by rw [← hxe]
    have hxh : x.handlerPc = h := by rw [← hy2, ← hxe]
    obtain ⟨hSK, hcf, kC, hkC, -⟩ := hK.1 _ _ hr
    have := mk_caught (a := a) (cell := cell) X hg q1 (fun k hk => by rw [q3] at hk; cases hk) ⟨kC, by rw [q2]; exact hkC⟩ tp x tq (by rw [e1, e4]) (fun z hz => ?_) (by
      have : mk_cov (x.startPc, x.endPc, x.handlerPc, x.catchType) pc = true := by rw [hxe]; exact hy1
      rw [hpc]
      exact this) ⟨by rw [hxc]; exact hy3, c', by rw [hxc]; exact hl', by rw [q2]; exact hasg⟩
    · rw [hxh] at this
      exact this
    · have hzm : (z.startPc, z.endPc, z.handlerPc, z.catchType) ∈ pre := by rw [← e2]; exact List.mem_map.mpr ⟨z, hz, rfl⟩
      rcases hpre _ hzm with h1 | ⟨h1, nm2, h2, h3⟩
      · exact Or.inl (by rw [hpc]; exact h1)
      · obtain ⟨c2, hc2, hl2⟩ := hlinks _ _ h2
        obtain ⟨u1, u2, hu1, hu2, hu3⟩ := hNC _ _ h3
        cases hfc.symm.trans hu1
        cases hc2.symm.trans hu2
        exact Or.inr ⟨h1, c2, hl2, by rw [q2]; exact hu3⟩
end MK17b
