/-! one instruction of the small machine -/
/-- tables of a program: field types; is the field final; a fresh object's fields; an array kind of a class; the class of an array kind; the room -/
abbrev mm_T : Type := (Nat → Nat → FieldType) × (Nat → Nat → Bool) × (Nat → List Value) × (Nat → Nat) × (Nat → Nat) × (Nat × Nat × Nat × Nat × Nat × (Nat → List Int32))
abbrev mm_ft (T : mm_T) := T.1
abbrev mm_fi (T : mm_T) := T.2.1
abbrev mm_fd (T : mm_T) := T.2.2.1
abbrev mm_ka (T : mm_T) := T.2.2.2.1
abbrev mm_kc (T : mm_T) := T.2.2.2.2.1
abbrev mm_lc (T : mm_T) := T.2.2.2.2.2.1
abbrev mm_lsl (T : mm_T) := T.2.2.2.2.2.2.1
abbrev mm_nk (T : mm_T) := T.2.2.2.2.2.2.2.1
abbrev mm_nc (T : mm_T) := T.2.2.2.2.2.2.2.2.1
abbrev mm_nx (T : mm_T) := T.2.2.2.2.2.2.2.2.2.1
abbrev mm_sb (T : mm_T) := T.2.2.2.2.2.2.2.2.2.2
abbrev mm_Kf : Type := Nat × mm_L × List Value × mm_S
def mm_mp (o : Option (List Value)) (nx : Nat) (L : mm_L) (S : mm_S) : Option mm_Kf := match o with
  | some st => some (nx, L, st, S)
  | none => none
def mm_lI (L : mm_L) (i nx : Nat) (st : List Value) (S : mm_S) : Option mm_Kf := match mm_ld L i with
  | some (.int x) => some (nx, L, .int x :: st, S)
  | _ => none
def mm_lJ (L : mm_L) (i nx : Nat) (st : List Value) (S : mm_S) : Option mm_Kf := match mm_ld L i with
  | some (.long x) => some (nx, L, .long x :: st, S)
  | _ => none
def mm_lA (L : mm_L) (i nx : Nat) (st : List Value) (S : mm_S) : Option mm_Kf := match mm_ld L i with
  | some (.ref x) => some (nx, L, .ref x :: st, S)
  | some .null => some (nx, L, .null :: st, S)
  | _ => none
def mm_sI (L : mm_L) (i nx : Nat) (st : List Value) (S : mm_S) : Option mm_Kf := match st with
  | .int x :: r => if i < L.length then some (nx, mm_s1 L i (.int x), r, S) else none
  | _ => none
def mm_sJ (L : mm_L) (i nx : Nat) (st : List Value) (S : mm_S) : Option mm_Kf := match st with
  | .long x :: r => if i + 1 < L.length then some (nx, mm_s2 L i (.long x), r, S) else none
  | _ => none
def mm_sA (L : mm_L) (i nx : Nat) (st : List Value) (S : mm_S) : Option mm_Kf := match st with
  | .ref x :: r => if i < L.length then some (nx, mm_s1 L i (.ref x), r, S) else none
  | .null :: r => if i < L.length then some (nx, mm_s1 L i .null, r, S) else none
  | _ => none
def mm_inc (L : mm_L) (i : Nat) (n : Int) (nx : Nat) (st : List Value) (S : mm_S) : Option mm_Kf := match mm_ld L i with
  | some (.int x) => if i < L.length then some (nx, mm_s1 L i (.int (x + Int32.ofInt n)), st, S) else none
  | _ => none
def mm_if1 (o : ClassFile.Cond) (nx tg : Nat) (L : mm_L) (st : List Value) (S : mm_S) : Option mm_Kf := match st with
  | .int x :: r => some (if mm_icmp o x 0 = true then tg else nx, L, r, S)
  | _ => none
def mm_if2 (o : ClassFile.Cond) (nx tg : Nat) (L : mm_L) (st : List Value) (S : mm_S) : Option mm_Kf := match st with
  | .int y :: .int x :: r => some (if mm_icmp o x y = true then tg else nx, L, r, S)
  | _ => none
def mm_dup (nx : Nat) (L : mm_L) (st : List Value) (S : mm_S) : Option mm_Kf := match st with
  | v :: r => if v.category = 1 then some (nx, L, v :: v :: r, S) else none
  | _ => none
def mm_pop (nx : Nat) (L : mm_L) (st : List Value) (S : mm_S) : Option mm_Kf := match st with
  | v :: r => if v.category = 1 then some (nx, L, r, S) else none
  | _ => none
def mm_dx1 (nx : Nat) (L : mm_L) (st : List Value) (S : mm_S) : Option mm_Kf := match st with
  | v :: u :: r => if v.category = 1 ∧ u.category = 1 then some (nx, L, v :: u :: v :: r, S) else none
  | _ => none
def mm_dp2 (nx : Nat) (L : mm_L) (st : List Value) (S : mm_S) : Option mm_Kf := match st with
  | v :: u :: r => if v.category = 1 ∧ u.category = 1 then some (nx, L, v :: u :: v :: u :: r, S) else none
  | _ => none
def mm_tsw (pc : Nat) (df lo hi : Int) (offs : Array Int) (L : mm_L) (st : List Value) (S : mm_S) : Option mm_Kf := match st with
  | .int x :: r => if x.toInt < lo ∨ hi < x.toInt then (if 0 ≤ (pc : Int) + df then some (((pc : Int) + df).toNat, L, r, S) else none) else match offs[(x.toInt - lo).toNat]? with
    | some off => if 0 ≤ (pc : Int) + off then some (((pc : Int) + off).toNat, L, r, S) else none
    | none => none
  | _ => none
def mm_dvI (f : Int32 → Int32 → Int32) (nx : Nat) (L : mm_L) (st : List Value) (S : mm_S) : Option mm_Kf := match st with
  | .int y :: .int x :: r => if y = 0 then none else some (nx, L, .int (f x y) :: r, S)
  | _ => none
def mm_dvJ (f : Int64 → Int64 → Int64) (nx : Nat) (L : mm_L) (st : List Value) (S : mm_S) : Option mm_Kf := match st with
  | .long y :: .long x :: r => if y = 0 then none else some (nx, L, .long (f x y) :: r, S)
  | _ => none
def mm_dx2 (nx : Nat) (L : mm_L) (st : List Value) (S : mm_S) : Option mm_Kf := match st with
  | v :: u :: w :: r => if v.category = 1 ∧ u.category = 1 ∧ w.category = 1 then some (nx, L, v :: u :: w :: v :: r, S) else none
  | _ => none
def mm_pp2 (nx : Nat) (L : mm_L) (st : List Value) (S : mm_S) : Option mm_Kf := match st with
  | v :: r => if v.category = 2 then some (nx, L, r, S) else none
  | _ => none
def mm_lsw (pc : Nat) (df : Int) (ps : Array (Int × Int)) (L : mm_L) (st : List Value) (S : mm_S) : Option mm_Kf := match st with
  | .int x :: r => if (ps.toList.zip (ps.toList.drop 1)).all (fun (a, next) => a.1 < next.1) = true ∧ 0 ≤ (pc : Int) + Op.lookupswitch.offset ps.toList df x.toInt then some (((pc : Int) + Op.lookupswitch.offset ps.toList df x.toInt).toNat, L, r, S) else none
  | _ => none
def mm_acm (o : ClassFile.ACond) (nx tg : Nat) (L : mm_L) (st : List Value) (S : mm_S) : Option mm_Kf := match st with
  | .ref y :: .ref x :: r => if x < mm_big ∧ y < mm_big then some (match o with
    | .eq => if x = y then tg else nx
    | .ne => if x = y then nx else tg, L, r, S) else none
  | _ => none
/-- the instructions that look at no cell -/
def mm_st0 (i : Instr) (pc nx tg : Nat) (L : mm_L) (st : List Value) (S : mm_S) : Option mm_Kf := match i with
  | .aconst_null => some (nx, L, .null :: st, S)
  | .iconst n => some (nx, L, .int (Int32.ofInt n) :: st, S)
  | .bipush n => some (nx, L, .int (Int8.ofInt n).toInt32 :: st, S)
  | .sipush n => some (nx, L, .int (Int16.ofInt n).toInt32 :: st, S)
  | .lconst n => some (nx, L, .long (Int64.ofNat (n : Nat)) :: st, S)
  | .iload k => mm_lI L k nx st S
  | .iload_n k => mm_lI L (k : Nat) nx st S
  | .lload k => mm_lJ L k nx st S
  | .lload_n k => mm_lJ L (k : Nat) nx st S
  | .aload k => mm_lA L k nx st S
  | .aload_n k => mm_lA L (k : Nat) nx st S
  | .istore k => mm_sI L k nx st S
  | .istore_n k => mm_sI L (k : Nat) nx st S
  | .lstore k => mm_sJ L k nx st S
  | .lstore_n k => mm_sJ L (k : Nat) nx st S
  | .astore k => mm_sA L k nx st S
  | .astore_n k => mm_sA L (k : Nat) nx st S
  | .iinc k n => mm_inc L k n nx st S
  | .iadd => mm_mp (mm_i2 st fun x y => .int (x + y)) nx L S
  | .isub => mm_mp (mm_i2 st fun x y => .int (x - y)) nx L S
  | .imul => mm_mp (mm_i2 st fun x y => .int (x * y)) nx L S
  | .iand => mm_mp (mm_i2 st fun x y => .int (x &&& y)) nx L S
  | .ior => mm_mp (mm_i2 st fun x y => .int (x ||| y)) nx L S
  | .ishl => mm_mp (mm_i2 st fun x y => .int (x <<< (y &&& 31))) nx L S
  | .ishr => mm_mp (mm_i2 st fun x y => .int (x >>> (y &&& 31))) nx L S
  | .iushr => mm_mp (mm_i2 st fun x y => .int (x.toUInt32 >>> (y.toUInt32 &&& Int32.toUInt32 31)).toInt32) nx L S
  | .ladd => mm_mp (mm_j2 st fun x y => .long (x + y)) nx L S
  | .lsub => mm_mp (mm_j2 st fun x y => .long (x - y)) nx L S
  | .lmul => mm_mp (mm_j2 st fun x y => .long (x * y)) nx L S
  | .land => mm_mp (mm_j2 st fun x y => .long (x &&& y)) nx L S
  | .lor => mm_mp (mm_j2 st fun x y => .long (x ||| y)) nx L S
  | .lshl => mm_mp (mm_ji st fun x y => .long (x <<< (y.toInt64 &&& 63))) nx L S
  | .lshr => mm_mp (mm_ji st fun x y => .long (x >>> (y.toInt64 &&& 63))) nx L S
  | .lushr => mm_mp (mm_ji st fun x y => .long (x.toUInt64 >>> (y.toInt64.toUInt64 &&& Int64.toUInt64 63)).toInt64) nx L S
  | .ixor => mm_mp (mm_i2 st fun x y => .int (x ^^^ y)) nx L S
  | .lneg => mm_mp (mm_j1 st fun x => .long (-x)) nx L S
  | .i2c => mm_mp (mm_i1 st fun x => .int (x.toUInt32 % 65536).toInt32) nx L S
  | .i2b => mm_mp (mm_i1 st fun x => .int x.toInt8.toInt32) nx L S
  | .idiv => mm_dvI (fun x y => x / y) nx L st S
  | .irem => mm_dvI (fun x y => x - x / y * y) nx L st S
  | .ldiv => mm_dvJ (fun x y => x / y) nx L st S
  | .lrem => mm_dvJ (fun x y => x - x / y * y) nx L st S
  | .dup_x2 => mm_dx2 nx L st S
  | .pop2 => mm_pp2 nx L st S
  | .lookupswitch df ps => mm_lsw pc df ps L st S
  | .if_acmp o _ => mm_acm o nx tg L st S
  | .lcmp => mm_mp (mm_j2 st fun x y => .int (lg_cmp x y)) nx L S
  | .i2l => mm_mp (mm_i1 st fun x => .long x.toInt64) nx L S
  | .l2i => mm_mp (mm_j1 st fun x => .int x.toInt32) nx L S
  | .ifCond o _ => mm_if1 o nx tg L st S
  | .if_icmp o _ => mm_if2 o nx tg L st S
  | .goto _ => some (tg, L, st, S)
  | .dup => mm_dup nx L st S
  | .pop => mm_pop nx L st S
  | .dup_x1 => mm_dx1 nx L st S
  | .dup2 => mm_dp2 nx L st S
  | .tableswitch df lo hi offs => mm_tsw pc df lo hi offs L st S
  | _ => none
/-- how long an instruction is, where it matters -/
def mm_len : Instr → Nat
  | .bipush _ | .iload _ | .lload _ | .aload _ | .istore _ | .lstore _ | .astore _ | .ldc _ | .newarray _ => 2
  | .sipush _ | .iinc _ _ | .ifCond _ _ | .if_icmp _ _ | .if_acmp _ _ | .goto _ | .getfield _ | .putfield _ | .new _ | .anewarray _ | .ldc_w _ | .ldc2_w _ | .invokevirtual _ | .invokespecial _ | .invokestatic _ | .getstatic _ | .instanceof _ | .checkcast _ => 3
  | _ => 1
def mm_tgt (pc tg : Nat) : Instr → Prop
  | .ifCond _ o => (pc : Int) + o = (tg : Int)
  | .if_icmp _ o => (pc : Int) + o = (tg : Int)
  | .goto o => (pc : Int) + o = (tg : Int)
  | .if_acmp _ o => (pc : Int) + o = (tg : Int)
  | _ => True
/-- an instruction as the small machine's table has it -/
def mm_ok (cc : ByteArray) (pc : Nat) (i : Instr) (nx tg : Nat) : Prop := (∃ len, decode cc pc = .ok (i, len) ∧ nx = pc + len ∧ ((∀ a b c d, i ≠ .tableswitch a b c d) → (∀ a b, i ≠ .lookupswitch a b) → len = mm_len i)) ∧ mm_tgt pc tg i

section MA
variable {p : Program} {l : Launch} {e : Env} {R : Room} {s : State} {m : MethodId} {args : Array Value} {below : List Frame} {meth : Method} {c : Code} {Q : State → Prop}
/-- the walk, at a frame of the small machine -/
def mm_At (p : Program) (l : Launch) (e : Env) (R : Room) (s : State) (m : MethodId) (args : Array Value) (below : List Frame) (meth : Method) (c : Code) (Q : State → Prop) (D : va_G) (cl : List vw_C) (tys : List (ClassId × FieldType)) (φ : Nat → Nat) (B : Nat) (S0 : mm_S) (nL : Nat) (k : mm_Kf) : Prop :=
  ∀ (ls : Array Slot) (H : Heap) (locs : List Loc), lv_has ls nL (mm_prs φ k.2.1) → k.2.1.length = nL → va_P D cl (mm_ws φ tys k.2.2.2) H → va_S (fun q => B ≤ q) s.heap H locs → (S0.1 ≤ k.2.2.2.1 ∧ k.2.2.2.1 ≤ mm_big) → S0.2.1 ≤ k.2.2.2.2.1 →
    W p l e R s m args below meth c H locs (k.2.2.2.1 - S0.1) (k.2.2.2.2.1 - S0.2.1) Q (F0 m k.1 ls (k.2.2.1.map (mm_tv φ)))
variable {D : va_G} {cl : List vw_C} {tys : List (ClassId × FieldType)} {φ : Nat → Nat} {B : Nat} {S0 : mm_S} {nL : Nat} {cc : ByteArray}
theorem mm_pure {pc pc' : Nat} {L : mm_L} {st st' : List Value} {S : mm_S} (h : ∀ (ls : Array Slot) (H : Heap) (locs : List Loc) (x y : Nat), lv_has ls nL (mm_prs φ L) → W p l e R s m args below meth c H locs x y Q (F0 m pc' ls (st'.map (mm_tv φ))) → W p l e R s m args below meth c H locs x y Q (F0 m pc ls (st.map (mm_tv φ))))
    (k : mm_At p l e R s m args below meth c Q D cl tys φ B S0 nL (pc', L, st', S)) : mm_At p l e R s m args below meth c Q D cl tys φ B S0 nL (pc, L, st, S) :=
  fun ls H locs h1 h0 h2 h3 h4 h5 => h ls H locs _ _ h1 (k ls H locs h1 h0 h2 h3 h4 h5)
theorem mm_i2_inv {st st' : List Value} {f : Int32 → Int32 → Value} (h : mm_i2 st f = some st') : ∃ x y r, st = .int y :: .int x :: r ∧ st' = f x y :: r := by
  unfold mm_i2 at h
  split at h
  · cases h; exact ⟨_, _, _, rfl, rfl⟩
  · cases h
theorem mm_i1_inv {st st' : List Value} {f : Int32 → Value} (h : mm_i1 st f = some st') : ∃ x r, st = .int x :: r ∧ st' = f x :: r := by
  unfold mm_i1 at h
  split at h
  · cases h; exact ⟨_, _, rfl, rfl⟩
  · cases h
theorem mm_j1_inv {st st' : List Value} {f : Int64 → Value} (h : mm_j1 st f = some st') : ∃ x r, st = .long x :: r ∧ st' = f x :: r := by
  unfold mm_j1 at h
  split at h
  · cases h; exact ⟨_, _, rfl, rfl⟩
  · cases h
theorem mm_j2_inv {st st' : List Value} {f : Int64 → Int64 → Value} (h : mm_j2 st f = some st') : ∃ x y r, st = .long y :: .long x :: r ∧ st' = f x y :: r := by
  unfold mm_j2 at h
  split at h
  · cases h; exact ⟨_, _, _, rfl, rfl⟩
  · cases h
theorem mm_ji_inv {st st' : List Value} {f : Int64 → Int32 → Value} (h : mm_ji st f = some st') : ∃ x y r, st = .int y :: .long x :: r ∧ st' = f x y :: r := by
  unfold mm_ji at h
  split at h
  · cases h; exact ⟨_, _, _, rfl, rfl⟩
  · cases h
theorem mm_mp_inv {o : Option (List Value)} {nx : Nat} {L : mm_L} {S : mm_S} {k : mm_Kf} (h : mm_mp o nx L S = some k) : ∃ st, o = some st ∧ k = (nx, L, st, S) := by
  unfold mm_mp at h
  split at h
  · cases h; exact ⟨_, rfl, rfl⟩
  · cases h

theorem ms_iadd (hx : p.tables.exec = Jvm.exec) (hb : c.code = cc) {pc nx tg : Nat} {L : mm_L} {st : List Value} {S : mm_S} {k : mm_Kf} (ho : mm_ok cc pc .iadd nx tg) (h : mm_st0 .iadd pc nx tg L st S = some k) (kk : mm_At p l e R s m args below meth c Q D cl tys φ B S0 nL k) : mm_At p l e R s m args below meth c Q D cl tys φ B S0 nL (pc, L, st, S) := by
  obtain ⟨⟨len, hd, rfl, hl⟩, -⟩ := ho
  have hl : len = 1 := hl (fun _ _ _ _ q => by cases q) (fun _ _ q => by cases q)
  subst hl
  obtain ⟨st', h1, rfl⟩ := mm_mp_inv (show mm_mp _ _ _ _ = some k from h)
  obtain ⟨x, y, r, rfl, rfl⟩ := mm_i2_inv h1
  exact mm_pure (fun ls H locs _ _ _ q => lv_iadd hx hb hd q) kk
theorem ms_isub (hx : p.tables.exec = Jvm.exec) (hb : c.code = cc) {pc nx tg : Nat} {L : mm_L} {st : List Value} {S : mm_S} {k : mm_Kf} (ho : mm_ok cc pc .isub nx tg) (h : mm_st0 .isub pc nx tg L st S = some k) (kk : mm_At p l e R s m args below meth c Q D cl tys φ B S0 nL k) : mm_At p l e R s m args below meth c Q D cl tys φ B S0 nL (pc, L, st, S) := by
  obtain ⟨⟨len, hd, rfl, hl⟩, -⟩ := ho
  have hl : len = 1 := hl (fun _ _ _ _ q => by cases q) (fun _ _ q => by cases q)
  subst hl
  obtain ⟨st', h1, rfl⟩ := mm_mp_inv (show mm_mp _ _ _ _ = some k from h)
  obtain ⟨x, y, r, rfl, rfl⟩ := mm_i2_inv h1
  exact mm_pure (fun ls H locs _ _ _ q => lv_isub hx hb hd q) kk
theorem ms_imul (hx : p.tables.exec = Jvm.exec) (hb : c.code = cc) {pc nx tg : Nat} {L : mm_L} {st : List Value} {S : mm_S} {k : mm_Kf} (ho : mm_ok cc pc .imul nx tg) (h : mm_st0 .imul pc nx tg L st S = some k) (kk : mm_At p l e R s m args below meth c Q D cl tys φ B S0 nL k) : mm_At p l e R s m args below meth c Q D cl tys φ B S0 nL (pc, L, st, S) := by
  obtain ⟨⟨len, hd, rfl, hl⟩, -⟩ := ho
  have hl : len = 1 := hl (fun _ _ _ _ q => by cases q) (fun _ _ q => by cases q)
  subst hl
  obtain ⟨st', h1, rfl⟩ := mm_mp_inv (show mm_mp _ _ _ _ = some k from h)
  obtain ⟨x, y, r, rfl, rfl⟩ := mm_i2_inv h1
  exact mm_pure (fun ls H locs _ _ _ q => lv_imul hx hb hd q) kk
theorem ms_iand (hx : p.tables.exec = Jvm.exec) (hb : c.code = cc) {pc nx tg : Nat} {L : mm_L} {st : List Value} {S : mm_S} {k : mm_Kf} (ho : mm_ok cc pc .iand nx tg) (h : mm_st0 .iand pc nx tg L st S = some k) (kk : mm_At p l e R s m args below meth c Q D cl tys φ B S0 nL k) : mm_At p l e R s m args below meth c Q D cl tys φ B S0 nL (pc, L, st, S) := by
  obtain ⟨⟨len, hd, rfl, hl⟩, -⟩ := ho
  have hl : len = 1 := hl (fun _ _ _ _ q => by cases q) (fun _ _ q => by cases q)
  subst hl
  obtain ⟨st', h1, rfl⟩ := mm_mp_inv (show mm_mp _ _ _ _ = some k from h)
  obtain ⟨x, y, r, rfl, rfl⟩ := mm_i2_inv h1
  exact mm_pure (fun ls H locs _ _ _ q => lv_iand hx hb hd q) kk
theorem ms_ior (hx : p.tables.exec = Jvm.exec) (hb : c.code = cc) {pc nx tg : Nat} {L : mm_L} {st : List Value} {S : mm_S} {k : mm_Kf} (ho : mm_ok cc pc .ior nx tg) (h : mm_st0 .ior pc nx tg L st S = some k) (kk : mm_At p l e R s m args below meth c Q D cl tys φ B S0 nL k) : mm_At p l e R s m args below meth c Q D cl tys φ B S0 nL (pc, L, st, S) := by
  obtain ⟨⟨len, hd, rfl, hl⟩, -⟩ := ho
  have hl : len = 1 := hl (fun _ _ _ _ q => by cases q) (fun _ _ q => by cases q)
  subst hl
  obtain ⟨st', h1, rfl⟩ := mm_mp_inv (show mm_mp _ _ _ _ = some k from h)
  obtain ⟨x, y, r, rfl, rfl⟩ := mm_i2_inv h1
  exact mm_pure (fun ls H locs _ _ _ q => lv_ior hx hb hd q) kk
theorem ms_ishl (hx : p.tables.exec = Jvm.exec) (hb : c.code = cc) {pc nx tg : Nat} {L : mm_L} {st : List Value} {S : mm_S} {k : mm_Kf} (ho : mm_ok cc pc .ishl nx tg) (h : mm_st0 .ishl pc nx tg L st S = some k) (kk : mm_At p l e R s m args below meth c Q D cl tys φ B S0 nL k) : mm_At p l e R s m args below meth c Q D cl tys φ B S0 nL (pc, L, st, S) := by
  obtain ⟨⟨len, hd, rfl, hl⟩, -⟩ := ho
  have hl : len = 1 := hl (fun _ _ _ _ q => by cases q) (fun _ _ q => by cases q)
  subst hl
  obtain ⟨st', h1, rfl⟩ := mm_mp_inv (show mm_mp _ _ _ _ = some k from h)
  obtain ⟨x, y, r, rfl, rfl⟩ := mm_i2_inv h1
  exact mm_pure (fun ls H locs _ _ _ q => lv_ishl hx hb hd q) kk
theorem ms_ishr (hx : p.tables.exec = Jvm.exec) (hb : c.code = cc) {pc nx tg : Nat} {L : mm_L} {st : List Value} {S : mm_S} {k : mm_Kf} (ho : mm_ok cc pc .ishr nx tg) (h : mm_st0 .ishr pc nx tg L st S = some k) (kk : mm_At p l e R s m args below meth c Q D cl tys φ B S0 nL k) : mm_At p l e R s m args below meth c Q D cl tys φ B S0 nL (pc, L, st, S) := by
  obtain ⟨⟨len, hd, rfl, hl⟩, -⟩ := ho
  have hl : len = 1 := hl (fun _ _ _ _ q => by cases q) (fun _ _ q => by cases q)
  subst hl
  obtain ⟨st', h1, rfl⟩ := mm_mp_inv (show mm_mp _ _ _ _ = some k from h)
  obtain ⟨x, y, r, rfl, rfl⟩ := mm_i2_inv h1
  exact mm_pure (fun ls H locs _ _ _ q => lv_ishr hx hb hd q) kk
theorem ms_iushr (hx : p.tables.exec = Jvm.exec) (hb : c.code = cc) {pc nx tg : Nat} {L : mm_L} {st : List Value} {S : mm_S} {k : mm_Kf} (ho : mm_ok cc pc .iushr nx tg) (h : mm_st0 .iushr pc nx tg L st S = some k) (kk : mm_At p l e R s m args below meth c Q D cl tys φ B S0 nL k) : mm_At p l e R s m args below meth c Q D cl tys φ B S0 nL (pc, L, st, S) := by
  obtain ⟨⟨len, hd, rfl, hl⟩, -⟩ := ho
  have hl : len = 1 := hl (fun _ _ _ _ q => by cases q) (fun _ _ q => by cases q)
  subst hl
  obtain ⟨st', h1, rfl⟩ := mm_mp_inv (show mm_mp _ _ _ _ = some k from h)
  obtain ⟨x, y, r, rfl, rfl⟩ := mm_i2_inv h1
  exact mm_pure (fun ls H locs _ _ _ q => lv_iushr hx hb hd rfl q) kk
theorem ms_ladd (hx : p.tables.exec = Jvm.exec) (hb : c.code = cc) {pc nx tg : Nat} {L : mm_L} {st : List Value} {S : mm_S} {k : mm_Kf} (ho : mm_ok cc pc .ladd nx tg) (h : mm_st0 .ladd pc nx tg L st S = some k) (kk : mm_At p l e R s m args below meth c Q D cl tys φ B S0 nL k) : mm_At p l e R s m args below meth c Q D cl tys φ B S0 nL (pc, L, st, S) := by
  obtain ⟨⟨len, hd, rfl, hl⟩, -⟩ := ho
  have hl : len = 1 := hl (fun _ _ _ _ q => by cases q) (fun _ _ q => by cases q)
  subst hl
  obtain ⟨st', h1, rfl⟩ := mm_mp_inv (show mm_mp _ _ _ _ = some k from h)
  obtain ⟨x, y, r, rfl, rfl⟩ := mm_j2_inv h1
  exact mm_pure (fun ls H locs _ _ _ q => lv_ladd hx hb hd q) kk
theorem ms_lsub (hx : p.tables.exec = Jvm.exec) (hb : c.code = cc) {pc nx tg : Nat} {L : mm_L} {st : List Value} {S : mm_S} {k : mm_Kf} (ho : mm_ok cc pc .lsub nx tg) (h : mm_st0 .lsub pc nx tg L st S = some k) (kk : mm_At p l e R s m args below meth c Q D cl tys φ B S0 nL k) : mm_At p l e R s m args below meth c Q D cl tys φ B S0 nL (pc, L, st, S) := by
  obtain ⟨⟨len, hd, rfl, hl⟩, -⟩ := ho
  have hl : len = 1 := hl (fun _ _ _ _ q => by cases q) (fun _ _ q => by cases q)
  subst hl
  obtain ⟨st', h1, rfl⟩ := mm_mp_inv (show mm_mp _ _ _ _ = some k from h)
  obtain ⟨x, y, r, rfl, rfl⟩ := mm_j2_inv h1
  exact mm_pure (fun ls H locs _ _ _ q => lv_lsub hx hb hd q) kk
theorem ms_lmul (hx : p.tables.exec = Jvm.exec) (hb : c.code = cc) {pc nx tg : Nat} {L : mm_L} {st : List Value} {S : mm_S} {k : mm_Kf} (ho : mm_ok cc pc .lmul nx tg) (h : mm_st0 .lmul pc nx tg L st S = some k) (kk : mm_At p l e R s m args below meth c Q D cl tys φ B S0 nL k) : mm_At p l e R s m args below meth c Q D cl tys φ B S0 nL (pc, L, st, S) := by
  obtain ⟨⟨len, hd, rfl, hl⟩, -⟩ := ho
  have hl : len = 1 := hl (fun _ _ _ _ q => by cases q) (fun _ _ q => by cases q)
  subst hl
  obtain ⟨st', h1, rfl⟩ := mm_mp_inv (show mm_mp _ _ _ _ = some k from h)
  obtain ⟨x, y, r, rfl, rfl⟩ := mm_j2_inv h1
  exact mm_pure (fun ls H locs _ _ _ q => lv_lmul hx hb hd q) kk
theorem ms_land (hx : p.tables.exec = Jvm.exec) (hb : c.code = cc) {pc nx tg : Nat} {L : mm_L} {st : List Value} {S : mm_S} {k : mm_Kf} (ho : mm_ok cc pc .land nx tg) (h : mm_st0 .land pc nx tg L st S = some k) (kk : mm_At p l e R s m args below meth c Q D cl tys φ B S0 nL k) : mm_At p l e R s m args below meth c Q D cl tys φ B S0 nL (pc, L, st, S) := by
  obtain ⟨⟨len, hd, rfl, hl⟩, -⟩ := ho
  have hl : len = 1 := hl (fun _ _ _ _ q => by cases q) (fun _ _ q => by cases q)
  subst hl
  obtain ⟨st', h1, rfl⟩ := mm_mp_inv (show mm_mp _ _ _ _ = some k from h)
  obtain ⟨x, y, r, rfl, rfl⟩ := mm_j2_inv h1
  exact mm_pure (fun ls H locs _ _ _ q => lv_land hx hb hd q) kk
theorem ms_lor (hx : p.tables.exec = Jvm.exec) (hb : c.code = cc) {pc nx tg : Nat} {L : mm_L} {st : List Value} {S : mm_S} {k : mm_Kf} (ho : mm_ok cc pc .lor nx tg) (h : mm_st0 .lor pc nx tg L st S = some k) (kk : mm_At p l e R s m args below meth c Q D cl tys φ B S0 nL k) : mm_At p l e R s m args below meth c Q D cl tys φ B S0 nL (pc, L, st, S) := by
  obtain ⟨⟨len, hd, rfl, hl⟩, -⟩ := ho
  have hl : len = 1 := hl (fun _ _ _ _ q => by cases q) (fun _ _ q => by cases q)
  subst hl
  obtain ⟨st', h1, rfl⟩ := mm_mp_inv (show mm_mp _ _ _ _ = some k from h)
  obtain ⟨x, y, r, rfl, rfl⟩ := mm_j2_inv h1
  exact mm_pure (fun ls H locs _ _ _ q => lv_lor hx hb hd q) kk
theorem ms_lshl (hx : p.tables.exec = Jvm.exec) (hb : c.code = cc) {pc nx tg : Nat} {L : mm_L} {st : List Value} {S : mm_S} {k : mm_Kf} (ho : mm_ok cc pc .lshl nx tg) (h : mm_st0 .lshl pc nx tg L st S = some k) (kk : mm_At p l e R s m args below meth c Q D cl tys φ B S0 nL k) : mm_At p l e R s m args below meth c Q D cl tys φ B S0 nL (pc, L, st, S) := by
  obtain ⟨⟨len, hd, rfl, hl⟩, -⟩ := ho
  have hl : len = 1 := hl (fun _ _ _ _ q => by cases q) (fun _ _ q => by cases q)
  subst hl
  obtain ⟨st', h1, rfl⟩ := mm_mp_inv (show mm_mp _ _ _ _ = some k from h)
  obtain ⟨x, y, r, rfl, rfl⟩ := mm_ji_inv h1
  exact mm_pure (fun ls H locs _ _ _ q => lv_lshl hx hb hd rfl q) kk
theorem ms_lshr (hx : p.tables.exec = Jvm.exec) (hb : c.code = cc) {pc nx tg : Nat} {L : mm_L} {st : List Value} {S : mm_S} {k : mm_Kf} (ho : mm_ok cc pc .lshr nx tg) (h : mm_st0 .lshr pc nx tg L st S = some k) (kk : mm_At p l e R s m args below meth c Q D cl tys φ B S0 nL k) : mm_At p l e R s m args below meth c Q D cl tys φ B S0 nL (pc, L, st, S) := by
  obtain ⟨⟨len, hd, rfl, hl⟩, -⟩ := ho
  have hl : len = 1 := hl (fun _ _ _ _ q => by cases q) (fun _ _ q => by cases q)
  subst hl
  obtain ⟨st', h1, rfl⟩ := mm_mp_inv (show mm_mp _ _ _ _ = some k from h)
  obtain ⟨x, y, r, rfl, rfl⟩ := mm_ji_inv h1
  exact mm_pure (fun ls H locs _ _ _ q => lv_lshr hx hb hd rfl q) kk
theorem ms_lushr (hx : p.tables.exec = Jvm.exec) (hb : c.code = cc) {pc nx tg : Nat} {L : mm_L} {st : List Value} {S : mm_S} {k : mm_Kf} (ho : mm_ok cc pc .lushr nx tg) (h : mm_st0 .lushr pc nx tg L st S = some k) (kk : mm_At p l e R s m args below meth c Q D cl tys φ B S0 nL k) : mm_At p l e R s m args below meth c Q D cl tys φ B S0 nL (pc, L, st, S) := by
  obtain ⟨⟨len, hd, rfl, hl⟩, -⟩ := ho
  have hl : len = 1 := hl (fun _ _ _ _ q => by cases q) (fun _ _ q => by cases q)
  subst hl
  obtain ⟨st', h1, rfl⟩ := mm_mp_inv (show mm_mp _ _ _ _ = some k from h)
  obtain ⟨x, y, r, rfl, rfl⟩ := mm_ji_inv h1
  exact mm_pure (fun ls H locs _ _ _ q => lv_lushr hx hb hd rfl q) kk
theorem ms_lcmp (hx : p.tables.exec = Jvm.exec) (hb : c.code = cc) {pc nx tg : Nat} {L : mm_L} {st : List Value} {S : mm_S} {k : mm_Kf} (ho : mm_ok cc pc .lcmp nx tg) (h : mm_st0 .lcmp pc nx tg L st S = some k) (kk : mm_At p l e R s m args below meth c Q D cl tys φ B S0 nL k) : mm_At p l e R s m args below meth c Q D cl tys φ B S0 nL (pc, L, st, S) := by
  obtain ⟨⟨len, hd, rfl, hl⟩, -⟩ := ho
  have hl : len = 1 := hl (fun _ _ _ _ q => by cases q) (fun _ _ q => by cases q)
  subst hl
  obtain ⟨st', h1, rfl⟩ := mm_mp_inv (show mm_mp _ _ _ _ = some k from h)
  obtain ⟨x, y, r, rfl, rfl⟩ := mm_j2_inv h1
  exact mm_pure (fun ls H locs _ _ _ q => W.lcmp hx hb hd q) kk
theorem ms_i2l (hx : p.tables.exec = Jvm.exec) (hb : c.code = cc) {pc nx tg : Nat} {L : mm_L} {st : List Value} {S : mm_S} {k : mm_Kf} (ho : mm_ok cc pc .i2l nx tg) (h : mm_st0 .i2l pc nx tg L st S = some k) (kk : mm_At p l e R s m args below meth c Q D cl tys φ B S0 nL k) : mm_At p l e R s m args below meth c Q D cl tys φ B S0 nL (pc, L, st, S) := by
  obtain ⟨⟨len, hd, rfl, hl⟩, -⟩ := ho
  have hl : len = 1 := hl (fun _ _ _ _ q => by cases q) (fun _ _ q => by cases q)
  subst hl
  obtain ⟨st', h1, rfl⟩ := mm_mp_inv (show mm_mp _ _ _ _ = some k from h)
  obtain ⟨x, r, rfl, rfl⟩ := mm_i1_inv h1
  exact mm_pure (fun ls H locs _ _ _ q => lv_i2l hx hb hd rfl q) kk
theorem ms_l2i (hx : p.tables.exec = Jvm.exec) (hb : c.code = cc) {pc nx tg : Nat} {L : mm_L} {st : List Value} {S : mm_S} {k : mm_Kf} (ho : mm_ok cc pc .l2i nx tg) (h : mm_st0 .l2i pc nx tg L st S = some k) (kk : mm_At p l e R s m args below meth c Q D cl tys φ B S0 nL k) : mm_At p l e R s m args below meth c Q D cl tys φ B S0 nL (pc, L, st, S) := by
  obtain ⟨⟨len, hd, rfl, hl⟩, -⟩ := ho
  have hl : len = 1 := hl (fun _ _ _ _ q => by cases q) (fun _ _ q => by cases q)
  subst hl
  obtain ⟨st', h1, rfl⟩ := mm_mp_inv (show mm_mp _ _ _ _ = some k from h)
  obtain ⟨x, r, rfl, rfl⟩ := mm_j1_inv h1
  exact mm_pure (fun ls H locs _ _ _ q => lv_l2i hx hb hd rfl q) kk
end MA
