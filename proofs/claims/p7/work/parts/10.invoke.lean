/-! from a call's instruction to the callee's entry -/
section MI10
variable {p : Program} {l : Launch} {e : Env} {R : Room} {s : State} {m : MethodId} {args : Array Value} {below : List Frame} {meth : Method} {c : Code} {T : State} {locs : List Loc} {cells slots : Nat}
/-- the call of y with the arguments a from the frame g, the operands 'rest' left on it -/
def mm_Inv (p : Program) (l : Launch) (e : Env) (R : Room) (s : State) (m : MethodId) (args : Array Value) (below : List Frame) (meth : Method) (c : Code) (T : State) (locs : List Loc) (cells slots : Nat) (g : JFrame) (rest : List Value) (y : MethodName) (a : Array Value) : Prop :=
  ∃ (vm₁ : Vm) (mk : MethodId), Stand p l e R s m args below meth c (T.setVm vm₁) locs cells slots ∧ (T.setVm vm₁).methodNamed? y = some mk ∧
    ∀ target, Steps p.tables e below (doInvoke e ((T.setVm vm₁).setTop { g with stack := rest }) [] mk a).1 target → Steps p.tables e below (T.setTop g) target
variable {own C : String} {index : Nat} {host : String} {y : MethodName} {bytes : ByteArray} {maxL : Nat} {ret : Option FieldType} {g : JFrame} {argsL rest : List Value}
theorem mm_invV (X : Stand p l e R s m args below meth c T locs cells slots) (hexec : p.tables.exec = Jvm.exec) (hown : s.vm.findClass own = some m.cls)
    (hlink : (Jvm.Cond.methodLink own index y).before args s = true ∨ (Jvm.Cond.methodLinkNest own index y host).before args s = true) (hinst : (Jvm.Cond.instanceMethod y).before args s = true) (hsel : (Jvm.Cond.selects C y y).before args s = true)
    (hcode : (Jvm.Cond.code y bytes maxL ret).before args s = true) (hy : y.cls ≠ "java/lang/invoke/MethodHandle" ∧ y.cls ≠ "java/lang/invoke/VarHandle")
    {b : Addr} {cellB : Cell} (hcell : T.heap[b]? = some cellB) (hobj : cellB.vm.isStatics = false) (hcls : s.vm.findClass C = some cellB.cls)
    (hg : g.method = m) (hlen : ∀ sig, parseMethodDescriptor y.desc = some sig → argsL.length = sig.parameters.length) (hstack : g.stack = argsL.reverse ++ .ref b :: rest) (hdg : decode c.code g.pc = .ok (.invokevirtual index, 3)) :
    mm_Inv p l e R s m args below meth c T locs cells slots g rest y (Value.ref b :: argsL).toArray := by
  obtain ⟨mk, mt, h1, h2, h3, h4⟩ := Cond.instanceMethod_spec hinst
  obtain ⟨mt', cM, h5, -, -, -, -, -, -, h6⟩ := Cond.code_spec h1 hcode
  cases h2.symm.trans h5
  obtain ⟨c2, r2, m2, q1, q2, q3, q4, kP, q5, q6⟩ := Cond.selects_spec hsel
  cases hcls.symm.trans q1
  cases (State.methodFound?_of_named h1 hy).symm.trans q2
  cases h1.symm.trans q3
  have hselP : selectMethod e.platform s.vm cellB.cls mk = .method mk := by rw [Launch.admits_selectMethod X.admits]; exact q4
  have hns : ∀ z, cellB.vm ≠ .statics z := fun z h => by rw [h] at hobj; cases hobj
  rcases hlink with hlink | hlink
  · obtain ⟨vm₁, X₁, st⟩ := X.invokevirtual hexec hown hlink h1 h2 h3 q5 q6 hy (a := b) (cell := cellB) hcell hns hselP h2 h4 q5 q6 (g := g) hg (argsL := argsL) (rest := rest) (hlen _ h6) hstack hdg
    exact ⟨vm₁, mk, X₁, X₁.named h1, fun target h => st _ fun acts => by rw [doInvoke_state]; exact h⟩
  · obtain ⟨vm₁, X₁, st⟩ := X.invokevirtualNest hexec hown hlink h1 h2 h3 q5 q6 hy (a := b) (cell := cellB) hcell hns hselP h2 h4 q5 q6 (g := g) hg (argsL := argsL) (rest := rest) (hlen _ h6) hstack hdg
    exact ⟨vm₁, mk, X₁, X₁.named h1, fun target h => st _ fun acts => by rw [doInvoke_state]; exact h⟩
/-- a static method, its code with an exception table or not -/
theorem mm_invS (X : Stand p l e R s m args below meth c T locs cells slots) (hexec : p.tables.exec = Jvm.exec) (hown : s.vm.findClass own = some m.cls)
    (hlink : (Jvm.Cond.methodLink own index y).before args s = true ∨ (Jvm.Cond.methodLinkNest own index y host).before args s = true) (hstat : (Jvm.Cond.static y).before args s = true) (hinit : (Jvm.Cond.initialized y.cls).before args s = true)
    {mk : MethodId} {mt : Method} (h1 : s.methodNamed? y = some mk) (h2 : s.vm.method? mk = some mt) (h6 : parseMethodDescriptor y.desc = some mt.sig) (hy : y.cls ≠ "java/lang/invoke/MethodHandle" ∧ y.cls ≠ "java/lang/invoke/VarHandle")
    (hg : g.method = m) (hlen : ∀ sig, parseMethodDescriptor y.desc = some sig → argsL.length = sig.parameters.length) (hstack : g.stack = argsL.reverse ++ rest) (hdg : decode c.code g.pc = .ok (.invokestatic index, 3)) :
    mm_Inv p l e R s m args below meth c T locs cells slots g rest y argsL.toArray := by
  have h3 : mt.isStatic = true := Cond.static_spec h1 h2 hstat
  obtain ⟨kP, q5, -⟩ := className_of_methodNamed h1
  have q6 : kP.init = .initialized := Cond.initialized_spec (findClass_of_methodNamed h1) q5 hinit
  rcases hlink with hlink | hlink
  · obtain ⟨vm₁, X₁, st⟩ := X.invokestatic hexec hown hlink h1 h2 h3 q5 q6 hy (g := g) hg (argsL := argsL) (rest := rest) (hlen _ h6) hstack hdg
    exact ⟨vm₁, mk, X₁, X₁.named h1, fun target h => st _ fun acts => by rw [doInvoke_state]; exact h⟩
  · obtain ⟨vm₁, X₁, st⟩ := X.invokestaticNest hexec hown hlink h1 h2 h3 q5 q6 hy (g := g) hg (argsL := argsL) (rest := rest) (hlen _ h6) hstack hdg
    exact ⟨vm₁, mk, X₁, X₁.named h1, fun target h => st _ fun acts => by rw [doInvoke_state]; exact h⟩
theorem mm_invI (X : Stand p l e R s m args below meth c T locs cells slots) (hexec : p.tables.exec = Jvm.exec) (hown : s.vm.findClass own = some m.cls) (hy1 : y.name = "<init>")
    (hlink : (Jvm.Cond.methodLink own index y).before args s = true ∨ (Jvm.Cond.methodLinkNest own index y host).before args s = true) (hinst : (Jvm.Cond.instanceMethod y).before args s = true)
    (hcode : (Jvm.Cond.code y bytes maxL none).before args s = true) (hy : y.cls ≠ "java/lang/invoke/MethodHandle" ∧ y.cls ≠ "java/lang/invoke/VarHandle")
    (hg : g.method = m) {b : Addr} (hlen : ∀ sig, parseMethodDescriptor y.desc = some sig → argsL.length = sig.parameters.length) (hstack : g.stack = argsL.reverse ++ .ref b :: rest) (hdg : decode c.code g.pc = .ok (.invokespecial index, 3)) :
    mm_Inv p l e R s m args below meth c T locs cells slots g rest y (Value.ref b :: argsL).toArray := by
  subst hg
  have hpl : e.platform.magicAccessors = ({} : Platform).magicAccessors := by rw [X.admits.platform]
  rcases hlink with hlink | hlink
  · obtain ⟨mk, mt, cM, kP, vm₁, h1, -, -, -, -, -, -, -, hW₁, st⟩ := Steps.initColdArgs (e := e) X.here hexec X.warmed hpl hown hy1 hy hlink hinst hcode (f := g) rfl hlen hstack hdg
    have X₁ := X.noted hW₁
    exact ⟨vm₁, mk, X₁, X₁.named h1, fun target h => st _ fun acts => by rw [doInvoke_state]; exact h⟩
  · obtain ⟨mk, mt, cM, kP, vm₁, h1, -, -, -, -, -, -, -, hW₁, st⟩ := Steps.initColdArgsNest (e := e) X.here hexec X.warmed hpl hown hy1 hy hlink hinst hcode (f := g) rfl hlen hstack hdg
    have X₁ := X.noted hW₁
    exact ⟨vm₁, mk, X₁, X₁.named h1, fun target h => st _ fun acts => by rw [doInvoke_state]; exact h⟩
end MI10
