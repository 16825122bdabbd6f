/-! the world around the small machine's cells -/
section PE25
variable {D : va_G} {tys : List (ClassId × FieldType)} {B : Nat} {ex : Nat → Nat} {scr : Nat × (Nat → Int32)}
/-- a static of Throwable, laid below B -/
def pg_ls (n d : String) (B : Nat) (U : State) : Prop := ∃ (c : ClassId) (k : Class) (i : Nat) (f : Field) (a : Nat) (cell : Cell), U.vm.findClass Bundle.tN = some c ∧ U.fieldFound? Bundle.tN n d = some (c, k, i, f) ∧ f.isStatic = true ∧ k.statics = some a ∧ U.heap[a]? = some cell ∧ cell.vm.isStatics = true ∧ cell.cls = c ∧ f.slot < cell.slots.size ∧ k.staticTypes[f.slot]? = some f.type ∧ a < B
theorem pg_ls.moved {n d : String} {B : Nat} {u U : State} (hal : u.vm.Alike U.vm) (hq : ∀ a : Nat, a < B → U.heap[a]? = u.heap[a]?) (h : pg_ls n d B u) : pg_ls n d B U := by
  obtain ⟨c, k, i, f, a, cell, h1, h2, h3, h4, h5, h6, h7, h8, h9, h10⟩ := h
  obtain ⟨k', hi', he⟩ := State.fieldFound?_setVm hal h2
  exact ⟨c, k', i, f, a, cell, by rw [hal.findClass]; exact h1, hi', h3, by rw [he]; exact h4, by rw [hq a h10]; exact h5, h6, h7, h8, by rw [he]; exact h9, h10⟩
theorem pg_ls.use {n d : String} {B : Nat} {U : State} {a : Array Value} (h : pg_ls n d B U) : (Jvm.Cond.laysStatic Bundle.tN n d).before a U = true := by
  obtain ⟨c, k, i, f, a, cell, h1, h2, h3, h4, h5, h6, h7, h8, h9, h10⟩ := h
  exact Cond.laysStatic_of h1 h2 h3 h4 h5 h6 h7 h8 h9
theorem pg_ls.of {n d : String} {U : State} {a : Array Value} (h : (Jvm.Cond.laysStatic Bundle.tN n d).before a U = true) : pg_ls n d U.heap.size U := by
  obtain ⟨c, k, i, f, a, cell, h1, h2, h3, h4, h5, h6⟩ := Cond.laysStatic_spec h
  exact ⟨c, k, i, f, a, cell, h1, h2, h3, h4, h5, h6.1, h6.2.1, h6.2.2.1, h6.2.2.2, (Array.getElem?_eq_some_iff.mp h5).1⟩
def pg_E (D : va_G) (cl : List vw_C) (tys : List (ClassId × FieldType)) (B : Nat) (ex : Nat → Nat) (scr : Nat × (Nat → Int32)) (AO : List String) (SR : List (String × Nat × Nat)) (nx : Nat) (NC : String → String → Prop) (U : State) : Prop :=
  (∀ w ∈ pg_Ts, va_Nw w U) ∧ va_K D cl tys U ∧ (∀ ty, ty = .int ∨ ty = .long ∨ ty = .boolean → (Jvm.Cond.arrayClass ty).before #[] U = true) ∧ (∀ C ∈ AO, va_AO C U) ∧ va_X (ex 0) scr.1 scr.2 U U.heap ∧ (∀ q ∈ SR, ∃ tx, vk_R q.1 q.2.1 tx (ex q.2.2) U) ∧
    ((∀ j, 1 ≤ j → j ≤ nx → va_O "java/lang/String" (ex j) (fun q => B ≤ q) U U.heap) ∧ ∀ cC, U.vm.findClass "java/lang/String" = some cC → U.vm.assignable cC cC = true) ∧
    (va_Zq Bundle.tN "UNASSIGNED_STACK" Bundle.steD (fun q => B ≤ q) U U.heap ∧ va_Zq Bundle.tN "SUPPRESSED_SENTINEL" Bundle.listD (fun q => B ≤ q) U U.heap ∧ pg_ls "UNASSIGNED_STACK" Bundle.steD B U ∧ pg_ls "SUPPRESSED_SENTINEL" Bundle.listD B U) ∧ (∀ x y, NC x y → va_Nc x y U) ∧ mm_Str pg_TT B ex scr U
theorem pg_zq {C n d : String} {A : Nat → Prop} {U : State} {a : Array Value} (h : va_Zq C n d A U U.heap) : (Jvm.Cond.isRef (.static C n d)).before a U = true := by
  rcases h with h | ⟨t, h⟩
  · obtain ⟨cf, kf, fi, f, x, cell, h1, h2, h3, h4, h5, h6, h7, h8⟩ := h
    simp [Cond.before, Cond.holds, Cond.value, Term.eval, State.fieldNamed?, h1, h2, h4, h5, h6, h7]
  · obtain ⟨cf, kf, fi, f, x, cell, h1, h2, h3, h4, h5, h6, h7, h8⟩ := h
    simp [Cond.before, Cond.holds, Cond.value, Term.eval, State.fieldNamed?, h1, h2, h4, h5, h6, h7]
theorem pg_ts_gd {w : Jvm.Cond} (h : w ∈ pg_Ts) : w.onTables = true ∧ (w.keepsH = true ∨ w.faceAtom = true) := by
  have := (List.mem_filter.mp h).2
  unfold pg_gd at this
  rw [Bool.and_eq_true, Bool.or_eq_true] at this
  exact this
theorem pg_EE {cl : List vw_C} {AO : List String} {SR : List (String × Nat × Nat)} {nx : Nat} {NC : String → String → Prop} (h0 : ex 0 < B) : mm_EE B pg_Ts (pg_E D cl tys B ex scr AO SR nx NC) := by
  refine ⟨fun u U h hW hq => ?_, fun U h w hw a => va_Nw.use (pg_ts_gd hw).1 (h.1 w hw)⟩
  obtain ⟨h1, h2, h3, h4, h5, h6, ⟨h7, h8⟩, ⟨h9, h10, h12, h13⟩, h11, h14⟩ := h
  have hal := hW.alike
  have hk : ∀ a : Nat, a < u.heap.size → ¬ (fun q => B ≤ q) a → U.heap[a]? = u.heap[a]? := fun a _ hn => hq a (by have hn : ¬ B ≤ a := hn; omega)
  refine ⟨fun w hw => ?_, va_K.moved hal h2, fun ty ht => word_at hW (Or.inr ⟨ty, rfl⟩) (h3 ty ht), fun C hC => ?_, ?_, fun q hm => ?_, ⟨fun j a b => (va_O.moved hal (h7 j a b)).kept hk, fun cC hc => ?_⟩, ⟨(va_Zq.moved hal h9).kept hk, (va_Zq.moved hal h10).kept hk, h12.moved hal hq, h13.moved hal hq⟩, fun x y hn => va_Nc.moved hal (h11 x y hn), fun j a b => ⟨(va_O.moved hal (h14.1 j a b).1).kept hk, (va_OF.moved hal (h14.1 j a b).2.1).kept hk, (va_OF.moved hal (h14.1 j a b).2.2.1).kept hk, (va_T.moved hal (h14.1 j a b).2.2.2).kept hk⟩, h14.2.1, (va_Z.moved hal h14.2.2.1).kept hk, h14.2.2.2.imp (fun q => ⟨q.1, (va_Z.moved hal q.2).kept hk⟩) (fun q => ⟨q.1, (va_Z.moved hal q.2).kept hk⟩)⟩
  · rcases (pg_ts_gd hw).2 with hk | hk
    · have := Cond.onTables_warmH (args := #[]) (args' := #[]) (T := U) hW (pg_ts_gd hw).1 hk (h1 w hw)
      rw [State.setVm_self] at this
      exact this
    · have h0 := Cond.faceAtom_setVm (args := #[]) hal w hk (h1 w hw)
      rw [Cond.onTables_vm (A' := #[]) (U' := U) U.vm w (pg_ts_gd hw).1, State.setVm_self] at h0
      exact h0
  · exact va_AO.moved hal (h4 C hC)
  · exact (va_X.moved hal h5).kept (hq _ h0)
  · obtain ⟨tx, ht⟩ := h6 q hm
    exact ⟨tx, vk_R.warm hW ht⟩
  · rw [hal.assignable]
    rw [hal.findClass] at hc
    exact h8 cC hc
theorem pg_zw {cl : List vw_C} {AO : List String} {SR : List (String × Nat × Nat)} {nx : Nat} {NC : String → String → Prop} {U : State} {a : Array Value} (h : pg_E D cl tys B ex scr AO SR nx NC U) : ∀ w ∈ mm_zw, w.before a U = true := by
  obtain ⟨-, -, -, -, -, -, -, ⟨h9, h10, h12, h13⟩, -, -⟩ := h
  intro w hw
  simp only [mm_zw, List.mem_cons, List.not_mem_nil, or_false] at hw
  rcases hw with rfl | rfl | rfl | rfl
  · exact pg_zq h9
  · exact pg_zq h10
  · exact h12.use
  · exact h13.use
end PE25
