/-! the abstract machine: ints and longs as integers, references by kind and number; fields and arrays that are tracked have values, of others bounds are known -/
abbrev hw_V : Type := Int ⊕ (Int ⊕ (Nat × Int))
abbrev hw_I (x : Int) : hw_V := .inl x
abbrev hw_J (x : Int) : hw_V := .inr (.inl x)
abbrev hw_R (k : Nat) (i : Int) : hw_V := .inr (.inr (k, i))
abbrev hw_L : Type := List (Option hw_V)
/-- tracked fields, tracked arrays; tracked fields and arrays of many objects, by the object's number -/
abbrev hw_Z : Type := List Int × List (Int → Int) × List (Int → Int) × List (Int → Int → Int)
abbrev hw_K : Type := Nat × hw_L × List hw_V × hw_Z
/-- where it is tracked: nowhere, alone, by its number -/
abbrev hw_Tr : Type := Option (Nat ⊕ Nat)
/-- bounds: none; from, to (none: the room) -/
abbrev hw_B : Type := Option (Int × Option Int)
/-- a number: none: that one; c; c and so often that one -/
abbrev hw_N : Type := Option (Int ⊕ (Int × Int))
/-- a field: an int; a long within bounds; a reference (its kind; its number) -/
abbrev hw_F : Type := (hw_Tr × hw_B) ⊕ ((Int × Int) ⊕ (Nat × hw_N))
/-- an array: its kind of elements, its length (none: the room); ints (tracked, bounds: from, to, how much more a place), or references (their kind, the number of the first) -/
abbrev hw_A : Type := Nat × Option Nat × ((hw_Tr × Option (Int × Int × Int)) ⊕ (Nat × hw_N))
abbrev hw_S : Type := (Nat × List hw_F) ⊕ hw_A
/-- a view: what a kind is, kind and number of a cell, which cells are looked at, the rooms -/
abbrev hw_T : Type := (Nat → hw_S) × (Nat → Nat × Int) × (Nat → Prop) × (Int → Int)
abbrev hw_P : Type := (Nat × Nat) ⊕ (Nat ⊕ (Int ⊕ (Int ⊕ Nat)))
/-- a program: code, pools, throws, methods (class, locals, arguments, constructor, static, what it returns: 0 nothing, 1 int, 2 boolean, 3 long, 4 object) -/
abbrev hw_D : Type := (Nat → Nat → Option (Instr × Nat × Nat)) × (Nat → Nat → Option hw_P) × (Nat → Nat → Option Nat) × (Nat → Nat × Nat × Nat × Bool × Bool × Nat)
def hw_ld (L : hw_L) (i : Nat) : Option hw_V := (L[i]?).join
def hw_cut (L : hw_L) : Nat → hw_L
  | 0 => L
  | i + 1 => match hw_ld L i with
    | some (.inr (.inl _)) => L.set i none
    | _ => L
def hw_s1 (L : hw_L) (i : Nat) (v : hw_V) : hw_L := (hw_cut L i).set i (some v)
def hw_s2 (L : hw_L) (i : Nat) (v : hw_V) : hw_L := ((hw_cut L i).set i (some v)).set (i + 1) none
def hw_cat : hw_V → Nat
  | .inr (.inl _) => 2
  | _ => 1
/-- a list is worked out before one goes on -/
def hw_nl {α : Type} (l : List α) (g : List α → Prop) : Prop := List.rec (motive := fun _ => (List α → Prop) → Prop) (fun g => g []) (fun a _ ih g => ih (fun r => g (a :: r))) l g
def hw_nv (v : hw_V) (g : hw_V → Prop) : Prop := match v with
  | .inl x => g (.inl x)
  | .inr (.inl x) => g (.inr (.inl x))
  | .inr (.inr k) => g (.inr (.inr k))
/-- results -/
def hw_ri (e : Int) (k : Int → Prop) : Prop := ∀ z q : Int, (-2147483648 ≤ z ∧ z ≤ 2147483647) → z = e + 4294967296 * q → k z
def hw_rj (e : Int) (k : Int → Prop) : Prop := ∀ z q : Int, (-9223372036854775808 ≤ z ∧ z ≤ 9223372036854775807) → z = e + 18446744073709551616 * q → k z
def hw_hi (e : Int) (k : Int → Prop) : Prop := ∀ z : Int, (-2147483648 ≤ z ∧ z ≤ 2147483647) → z = e → k z
def hw_hj (e : Int) (k : Int → Prop) : Prop := ∀ z : Int, (-9223372036854775808 ≤ z ∧ z ≤ 9223372036854775807) → z = e → k z
def hw_ka (y z : Int) (k : Prop) : Prop := (0 ≤ y → 0 ≤ z ∧ z ≤ y) → k
def hw_kd (x y z : Int) (k : Prop) : Prop := (0 ≤ x → 0 < y → z = x / y ∧ 0 ≤ z ∧ z ≤ x) → k
def hw_kr (x y z : Int) (k : Prop) : Prop := (0 ≤ x → 0 < y → z = x % y ∧ 0 ≤ z ∧ z < y) → k
def hw_kc (z : Int) (k : Prop) : Prop := (0 ≤ z ∧ z ≤ 65535) → k
def hw_km (x y z : Int) (k : Prop) : Prop := ((x < y → z = -1) ∧ (x = y → z = 0) ∧ (y < x → z = 1)) → k
def hw_i1 (st : List hw_V) (k : Int → List hw_V → Prop) : Prop := match st with
  | .inl x :: r => k x r
  | _ => False
def hw_i2 (st : List hw_V) (k : Int → Int → List hw_V → Prop) : Prop := match st with
  | .inl y :: .inl x :: r => k x y r
  | _ => False
def hw_j1 (st : List hw_V) (k : Int → List hw_V → Prop) : Prop := match st with
  | .inr (.inl x) :: r => k x r
  | _ => False
def hw_j2 (st : List hw_V) (k : Int → Int → List hw_V → Prop) : Prop := match st with
  | .inr (.inl y) :: .inr (.inl x) :: r => k x y r
  | _ => False
def hw_ji (st : List hw_V) (k : Int → Int → List hw_V → Prop) : Prop := match st with
  | .inl y :: .inr (.inl x) :: r => k x y r
  | _ => False
def hw_lI (L : hw_L) (i : Nat) (k : hw_V → Prop) : Prop := match hw_ld L i with
  | some (.inl x) => k (.inl x)
  | _ => False
def hw_lJ (L : hw_L) (i : Nat) (k : hw_V → Prop) : Prop := match hw_ld L i with
  | some (.inr (.inl x)) => k (.inr (.inl x))
  | _ => False
def hw_lA (L : hw_L) (i : Nat) (k : hw_V → Prop) : Prop := match hw_ld L i with
  | some (.inr (.inr x)) => k (.inr (.inr x))
  | _ => False
def hw_sI (L : hw_L) (i : Nat) (st : List hw_V) (k : hw_L → List hw_V → Prop) : Prop := match st with
  | .inl x :: r => bif Nat.blt i L.length then hw_nl (hw_s1 L i (.inl x)) (fun L => k L r) else False
  | _ => False
def hw_sJ (L : hw_L) (i : Nat) (st : List hw_V) (k : hw_L → List hw_V → Prop) : Prop := match st with
  | .inr (.inl x) :: r => bif Nat.blt (i + 1) L.length then hw_nl (hw_s2 L i (.inr (.inl x))) (fun L => k L r) else False
  | _ => False
def hw_sA (L : hw_L) (i : Nat) (st : List hw_V) (k : hw_L → List hw_V → Prop) : Prop := match st with
  | .inr (.inr x) :: r => bif Nat.blt i L.length then hw_nl (hw_s1 L i (.inr (.inr x))) (fun L => k L r) else False
  | _ => False
def hw_inc (L : hw_L) (i : Nat) (n : Int) (k : hw_L → Prop) : Prop := match hw_ld L i with
  | some (.inl x) => bif Nat.blt i L.length then hw_ri (x + n) (fun z => hw_nl (hw_s1 L i (.inl z)) k) else False
  | _ => False
def hw_cn (o : ClassFile.Cond) (x y : Int) : Prop := match o with
  | .eq => x = y
  | .ne => ¬ x = y
  | .lt => x < y
  | .ge => y ≤ x
  | .gt => y < x
  | .le => x ≤ y
/-- a jump, both ways -/
def hw_cb (o : ClassFile.Cond) (x y : Int) (a b : Prop) : Prop := match o with
  | .eq => (x = y → a) ∧ (¬ x = y → b)
  | .ne => (¬ x = y → a) ∧ (x = y → b)
  | .lt => (x < y → a) ∧ (y ≤ x → b)
  | .ge => (y ≤ x → a) ∧ (x < y → b)
  | .gt => (y < x → a) ∧ (x ≤ y → b)
  | .le => (x ≤ y → a) ∧ (y < x → b)
/-- a jump: both ways -/
def hw_br (P : Prop) (a b : Prop) : Prop := (P → a) ∧ (¬ P → b)
/-- the places that a switch leads to -/
def hw_sw (x : Int) (w : Nat → Prop) (df : Nat) : List (Int × Nat) → Prop
  | [] => w df
  | (c, t) :: r => hw_br (x = c) (w t) (hw_sw x w df r)
def hw_dp (st : List hw_V) (k : List hw_V → Prop) : Prop := match st with
  | v :: r => bif Nat.beq (hw_cat v) 1 then k (v :: v :: r) else False
  | _ => False
def hw_pp (st : List hw_V) (k : List hw_V → Prop) : Prop := match st with
  | v :: r => bif Nat.beq (hw_cat v) 1 then k r else False
  | _ => False
def hw_pp2 (st : List hw_V) (k : List hw_V → Prop) : Prop := match st with
  | v :: r => bif Nat.beq (hw_cat v) 2 then k r else False
  | _ => False
def hw_dx1 (st : List hw_V) (k : List hw_V → Prop) : Prop := match st with
  | v :: u :: r => bif Nat.beq (hw_cat v) 1 && Nat.beq (hw_cat u) 1 then k (v :: u :: v :: r) else False
  | _ => False
def hw_dx2 (st : List hw_V) (k : List hw_V → Prop) : Prop := match st with
  | v :: u :: t :: r => bif Nat.beq (hw_cat v) 1 && (Nat.beq (hw_cat u) 1 && Nat.beq (hw_cat t) 1) then k (v :: u :: t :: v :: r) else False
  | _ => False
def hw_dp2 (st : List hw_V) (k : List hw_V → Prop) : Prop := match st with
  | v :: u :: r => bif Nat.beq (hw_cat v) 1 && Nat.beq (hw_cat u) 1 then k (v :: u :: v :: u :: r) else False
  | _ => False
def hw_ib (lo hi n : Int) (k : Prop) : Prop := bif decide (lo ≤ n) && decide (n ≤ hi) then k else False
/-- a table switch as places: the offsets in order -/
def hw_tsl (pc : Nat) : Int → List Int → List (Int × Nat)
  | _, [] => []
  | c, o :: r => (c, ((pc : Int) + o).toNat) :: hw_tsl pc (c + 1) r
def hw_lsl (pc : Nat) : List (Int × Int) → List (Int × Nat)
  | [] => []
  | (c, o) :: r => (c, ((pc : Int) + o).toNat) :: hw_lsl pc r
/-- the instructions that look at no cell -/
def hw_i0 (i : Instr) (pc nx tg : Nat) (L : hw_L) (st : List hw_V) (Z : hw_Z) (w : hw_K → Prop) : Prop := match i with
  | .iconst n => hw_ib (-128) 127 n (w (nx, L, hw_I n :: st, Z))
  | .bipush n => hw_ib (-128) 127 n (w (nx, L, hw_I n :: st, Z))
  | .sipush n => hw_ib (-32768) 32767 n (w (nx, L, hw_I n :: st, Z))
  | .lconst n => bif Nat.beq n.val 0 then w (nx, L, hw_J 0 :: st, Z) else w (nx, L, hw_J 1 :: st, Z)
  | .iload k => hw_lI L k (fun v => w (nx, L, v :: st, Z))
  | .iload_n k => hw_lI L k.val (fun v => w (nx, L, v :: st, Z))
  | .lload k => hw_lJ L k (fun v => w (nx, L, v :: st, Z))
  | .lload_n k => hw_lJ L k.val (fun v => w (nx, L, v :: st, Z))
  | .aload k => hw_lA L k (fun v => w (nx, L, v :: st, Z))
  | .aload_n k => hw_lA L k.val (fun v => w (nx, L, v :: st, Z))
  | .istore k => hw_sI L k st (fun L r => w (nx, L, r, Z))
  | .istore_n k => hw_sI L k.val st (fun L r => w (nx, L, r, Z))
  | .lstore k => hw_sJ L k st (fun L r => w (nx, L, r, Z))
  | .lstore_n k => hw_sJ L k.val st (fun L r => w (nx, L, r, Z))
  | .astore k => hw_sA L k st (fun L r => w (nx, L, r, Z))
  | .astore_n k => hw_sA L k.val st (fun L r => w (nx, L, r, Z))
  | .iinc k n => hw_ib (-32768) 32767 n (hw_inc L k n (fun L => w (nx, L, st, Z)))
  | .iadd => hw_i2 st (fun x y r => hw_ri (x + y) (fun z => w (nx, L, hw_I z :: r, Z)))
  | .isub => hw_i2 st (fun x y r => hw_ri (x - y) (fun z => w (nx, L, hw_I z :: r, Z)))
  | .imul => hw_i2 st (fun x y r => hw_ri (x * y) (fun z => w (nx, L, hw_I z :: r, Z)))
  | .iand => hw_i2 st (fun x y r => hw_hi (hb_and x y) (fun z => hw_ka y z <| w (nx, L, hw_I z :: r, Z)))
  | .ior => hw_i2 st (fun x y r => hw_hi (hb_or x y) (fun z => w (nx, L, hw_I z :: r, Z)))
  | .ixor => hw_i2 st (fun x y r => hw_hi (hb_xor x y) (fun z => w (nx, L, hw_I z :: r, Z)))
  | .ishl => hw_i2 st (fun x y r => hw_hi (hb_shl x y) (fun z => w (nx, L, hw_I z :: r, Z)))
  | .ishr => hw_i2 st (fun x y r => hw_hi (hb_shr x y) (fun z => w (nx, L, hw_I z :: r, Z)))
  | .iushr => hw_i2 st (fun x y r => hw_hi (hb_ushr x y) (fun z => w (nx, L, hw_I z :: r, Z)))
  | .idiv => hw_i2 st (fun x y r => ¬ y = 0 ∧ hw_hi (hb_div x y) (fun z => hw_kd x y z <| w (nx, L, hw_I z :: r, Z)))
  | .irem => hw_i2 st (fun x y r => ¬ y = 0 ∧ hw_hi (hb_rem x y) (fun z => hw_kr x y z <| w (nx, L, hw_I z :: r, Z)))
  | .ladd => hw_j2 st (fun x y r => hw_rj (x + y) (fun z => w (nx, L, hw_J z :: r, Z)))
  | .lsub => hw_j2 st (fun x y r => hw_rj (x - y) (fun z => w (nx, L, hw_J z :: r, Z)))
  | .lmul => hw_j2 st (fun x y r => hw_rj (x * y) (fun z => w (nx, L, hw_J z :: r, Z)))
  | .land => hw_j2 st (fun x y r => hw_hj (hb_land x y) (fun z => hw_ka y z <| w (nx, L, hw_J z :: r, Z)))
  | .lor => hw_j2 st (fun x y r => hw_hj (hb_lor x y) (fun z => w (nx, L, hw_J z :: r, Z)))
  | .lshl => hw_ji st (fun x y r => hw_hj (hb_lshl x y) (fun z => w (nx, L, hw_J z :: r, Z)))
  | .lshr => hw_ji st (fun x y r => hw_hj (hb_lshr x y) (fun z => w (nx, L, hw_J z :: r, Z)))
  | .lushr => hw_ji st (fun x y r => hw_hj (hb_lushr x y) (fun z => w (nx, L, hw_J z :: r, Z)))
  | .ldiv => hw_j2 st (fun x y r => ¬ y = 0 ∧ hw_hj (hb_ldiv x y) (fun z => hw_kd x y z <| w (nx, L, hw_J z :: r, Z)))
  | .lrem => hw_j2 st (fun x y r => ¬ y = 0 ∧ hw_hj (hb_lrem x y) (fun z => hw_kr x y z <| w (nx, L, hw_J z :: r, Z)))
  | .lneg => hw_j1 st (fun x r => hw_rj (-x) (fun z => w (nx, L, hw_J z :: r, Z)))
  | .lcmp => hw_j2 st (fun x y r => ∀ z, hw_km x y z <| w (nx, L, hw_I z :: r, Z))
  | .i2l => hw_i1 st (fun x r => w (nx, L, hw_J x :: r, Z))
  | .l2i => hw_j1 st (fun x r => hw_ri x (fun z => w (nx, L, hw_I z :: r, Z)))
  | .i2b => hw_i1 st (fun x r => ∀ z : Int, (-128 ≤ z ∧ z ≤ 127) → z = hb_i2b x → w (nx, L, hw_I z :: r, Z))
  | .i2c => hw_i1 st (fun x r => hw_hi (hb_i2c x) (fun z => hw_kc z <| w (nx, L, hw_I z :: r, Z)))
  | .ifCond o _ => hw_i1 st (fun x r => hw_cb o x 0 (w (tg, L, r, Z)) (w (nx, L, r, Z)))
  | .if_icmp o _ => hw_i2 st (fun x y r => hw_cb o x y (w (tg, L, r, Z)) (w (nx, L, r, Z)))
  | .goto _ => w (tg, L, st, Z)
  | .dup => hw_dp st (fun st => w (nx, L, st, Z))
  | .pop => hw_pp st (fun st => w (nx, L, st, Z))
  | .pop2 => hw_pp2 st (fun st => w (nx, L, st, Z))
  | .dup_x1 => hw_dx1 st (fun st => w (nx, L, st, Z))
  | .dup_x2 => hw_dx2 st (fun st => w (nx, L, st, Z))
  | .dup2 => hw_dp2 st (fun st => w (nx, L, st, Z))
  | _ => False
