/-! how a walk of the small machine ends: its returns -/
section ME9
variable {p : Program} {l : Launch} {e : Env} {R : Room} {s : State} {m : MethodId} {args : Array Value} {below : List Frame} {meth : Method} {c : Code}
variable {D : va_G} {cl : List vw_C} {tys : List (ClassId × FieldType)} {B : Nat} {φ : Nat → Nat} {S0 : mm_S} {nL : Nat} {cc : ByteArray}
/-- what the small machine's end says of the real one's -/
def mm_out (φ : Nat → Nat) : mm_O → Outcome
  | .inl v => .returned (v.map (mm_tv φ))
  | .inr (_, a) => .threw (φ a)
def mm_fin (D : va_G) (cl : List vw_C) (tys : List (ClassId × FieldType)) (φ : Nat → Nat) (B : Nat) (S0 : mm_S) (s : State) (below : List Frame) (Q : mm_O → mm_S → Prop) (t : State) : Prop :=
  ∃ (o : mm_O) (S : mm_S), Q o S ∧ t.status = .running ∧ Ended t below (mm_out φ o) ∧ s.WarmedH t.vm ∧ va_P D cl (mm_ws φ tys S) t.heap ∧ (S0.1 ≤ S.1 ∧ S.1 ≤ mm_big) ∧ S0.2.1 ≤ S.2.1 ∧
    (∀ q, q < B → t.heap[q]? = s.heap[q]?) ∧ ∃ L : List Loc, s.sameButNew ({ t with vm := s.vm } : State) L (S.1 - S0.1) (S.2.1 - S0.2.1) ∧ ∀ q ∈ L, B ≤ q.base
theorem mm_mono {H : Heap} {locs : List Loc} {cells slots : Nat} {Q Q' : State → Prop} {g : JFrame} (h : ∀ t, Q t → Q' t) (w : W p l e R s m args below meth c H locs cells slots Q g) : W p l e R s m args below meth c H locs cells slots Q' g := by
  intro U hU X
  obtain ⟨t, a, b⟩ := w U hU X
  exact ⟨t, a, h t b⟩
/-- the common end of all returns -/
theorem mm_ret_end {Q : mm_O → mm_S → Prop} {S : mm_S} {v : Option Value} {H : Heap} {locs : List Loc} {g : JFrame} (hB : B ≤ s.heap.size) (hQ : Q (.inl v) S) (h2 : va_P D cl (mm_ws φ tys S) H) (h3 : va_S (fun q => B ≤ q) s.heap H locs) (h4 : S0.1 ≤ S.1 ∧ S.1 ≤ mm_big) (h5 : S0.2.1 ≤ S.2.1)
    (w : W p l e R s m args below meth c H locs (S.1 - S0.1) (S.2.1 - S0.2.1) (MQ below (fun _ _ o t => o = .returned (v.map (mm_tv φ)) ∧ t.heap = H) args s (S.1 - S0.1) (S.2.1 - S0.2.1) (fun q => B ≤ q)) g) :
    W p l e R s m args below meth c H locs (S.1 - S0.1) (S.2.1 - S0.2.1) (mm_fin D cl tys φ B S0 s below Q) g := by
  refine mm_mono (fun t ht => ?_) w
  obtain ⟨o, hrun, hend, ⟨rfl, hH⟩, L, ⟨-, hW, hsame⟩, hL⟩ := ht
  exact ⟨.inl v, S, hQ, hrun, hend, hW, by rw [hH]; exact h2, h4, h5, fun q hq => by rw [hH]; exact h3.2.1 q (by omega) (by show ¬ B ≤ q; omega), L, hsame, hL⟩
theorem mr_return {Q : mm_O → mm_S → Prop} (hx : p.tables.exec = Jvm.exec) (hb : c.code = cc) (hlk : meth.locks = false) (hr : meth.sig.returnType = none) (hB : B ≤ s.heap.size) {pc : Nat} {L : mm_L} {S : mm_S} (hd : decode cc pc = .ok (.return_, 1)) (hQ : Q (.inl none) S) :
    mm_At p l e R s m args below meth c (mm_fin D cl tys φ B S0 s below Q) D cl tys φ B S0 nL (pc, L, [], S) := by
  intro ls H locs h1 h0 h2 h3 h4 h5
  exact mm_ret_end (v := none) hB hQ h2 h3 h4 h5 (W.vret hx hb hr (fun t ht _ => ⟨rfl, ht⟩) h3.2.2 hd)
theorem mr_ireturn {Q : mm_O → mm_S → Prop} (hx : p.tables.exec = Jvm.exec) (hb : c.code = cc) (hlk : meth.locks = false) (hr : meth.sig.returnType = some .int) (hB : B ≤ s.heap.size) {pc : Nat} {L : mm_L} {S : mm_S} {v : Int32} (hd : decode cc pc = .ok (.ireturn, 1)) (hQ : Q (.inl (some (.int v))) S) :
    mm_At p l e R s m args below meth c (mm_fin D cl tys φ B S0 s below Q) D cl tys φ B S0 nL (pc, L, [.int v], S) := by
  intro ls H locs h1 h0 h2 h3 h4 h5
  exact mm_ret_end (v := some (.int v)) hB hQ h2 h3 h4 h5 (W.iret hx hb hr (fun t ht _ => ⟨rfl, ht⟩) h3.2.2 hd)
theorem mr_zreturn {Q : mm_O → mm_S → Prop} {ty : FieldType} (hx : p.tables.exec = Jvm.exec) (hb : c.code = cc) (hlk : meth.locks = false) (hr : meth.sig.returnType = some ty) (hB : B ≤ s.heap.size) {pc : Nat} {L : mm_L} {S : mm_S} {v : Int32} (hn : narrow ty (.int v) = .int v) (hd : decode cc pc = .ok (.ireturn, 1)) (hQ : Q (.inl (some (.int v))) S) :
    mm_At p l e R s m args below meth c (mm_fin D cl tys φ B S0 s below Q) D cl tys φ B S0 nL (pc, L, [.int v], S) := by
  intro ls H locs h1 h0 h2 h3 h4 h5
  exact mm_ret_end (v := some (.int v)) hB hQ h2 h3 h4 h5 (W.zret hx hb hr hn (fun t ht _ => ⟨rfl, ht⟩) h3.2.2 hd)
theorem mr_lreturn {Q : mm_O → mm_S → Prop} (hx : p.tables.exec = Jvm.exec) (hb : c.code = cc) (hlk : meth.locks = false) (hr : meth.sig.returnType = some .long) (hB : B ≤ s.heap.size) {pc : Nat} {L : mm_L} {S : mm_S} {v : Int64} (hd : decode cc pc = .ok (.lreturn, 1)) (hQ : Q (.inl (some (.long v))) S) :
    mm_At p l e R s m args below meth c (mm_fin D cl tys φ B S0 s below Q) D cl tys φ B S0 nL (pc, L, [.long v], S) := by
  intro ls H locs h1 h0 h2 h3 h4 h5
  exact mm_ret_end (v := some (.long v)) hB hQ h2 h3 h4 h5 (W.lret hx hb hr (fun t ht _ => ⟨rfl, ht⟩) h3.2.2 hd)
theorem mr_areturn {Q : mm_O → mm_S → Prop} (hx : p.tables.exec = Jvm.exec) (hb : c.code = cc) (hlk : meth.locks = false) {rt : FieldType} (hr : meth.sig.returnType = some rt) (hrt : (∃ n, rt = .object n) ∨ ∃ t, rt = .array t) (hB : B ≤ s.heap.size) {pc : Nat} {L : mm_L} {S : mm_S} {a : Nat} (hd : decode cc pc = .ok (.areturn, 1)) (hQ : Q (.inl (some (.ref a))) S) :
    mm_At p l e R s m args below meth c (mm_fin D cl tys φ B S0 s below Q) D cl tys φ B S0 nL (pc, L, [.ref a], S) := by
  intro ls H locs h1 h0 h2 h3 h4 h5
  exact mm_ret_end (v := some (.ref a)) hB hQ h2 h3 h4 h5 (W.aret (v := .ref (φ a)) hx hb hr hrt (Or.inr ⟨_, rfl⟩) (fun t ht _ => ⟨rfl, ht⟩) h3.2.2 hd)
end ME9
