/-! the small machine: cells by their numbers, a method's frame as lists -/
abbrev mm_E : Type := (Nat × vp_A) ⊕ (Nat × List Value)
abbrev mm_M : Type := Nat → mm_E
/-- how many cells, how many slots, the cells -/
abbrev mm_S : Type := Nat × Nat × mm_M
abbrev mm_L : Type := List (Option Value)
/-- returned, or thrown: which class, which cell -/
abbrev mm_O : Type := Option Value ⊕ (Nat × Nat)
/-- a pool's entry: a field (class, place), a method, a class, an int, a long, an outer cell -/
abbrev mm_P : Type := (Nat × Nat) ⊕ (Nat ⊕ (Nat ⊕ (Int32 ⊕ (Int64 ⊕ Nat))))
abbrev mm_pF (c k : Nat) : mm_P := .inl (c, k)
abbrev mm_pM (k : Nat) : mm_P := .inr (.inl k)
abbrev mm_pC (k : Nat) : mm_P := .inr (.inr (.inl k))
abbrev mm_pI (v : Int32) : mm_P := .inr (.inr (.inr (.inl v)))
abbrev mm_pJ (v : Int64) : mm_P := .inr (.inr (.inr (.inr (.inl v))))
abbrev mm_pX (k : Nat) : mm_P := .inr (.inr (.inr (.inr (.inr k))))
def mm_big : Nat := 1099511627776
abbrev mm_aI (n : Nat) (f : Nat → Int32) : mm_E := .inl (0, n, .inl f)
abbrev mm_aJ (n : Nat) (f : Nat → Int64) : mm_E := .inl (1, n, .inr (.inl f))
abbrev mm_aZ (n : Nat) (f : Nat → Int32) : mm_E := .inl (2, n, .inl f)
abbrev mm_aA (k n : Nat) (f : Nat → Option Nat) : mm_E := .inl (k, n, .inr (.inr (.inr (.inr f))))
abbrev mm_ob (c : Nat) (fs : List Value) : mm_E := .inr (c, fs)
def mm_ld (ls : mm_L) (i : Nat) : Option Value := (ls[i]?).join
/-- a long before the place loses its second half -/
def mm_cut (ls : mm_L) : Nat → mm_L
  | 0 => ls
  | i + 1 => match mm_ld ls i with
    | some (.long _) => ls.set i none
    | some (.double _) => ls.set i none
    | _ => ls
def mm_s1 (ls : mm_L) (i : Nat) (v : Value) : mm_L := (mm_cut ls i).set i (some v)
def mm_s2 (ls : mm_L) (i : Nat) (v : Value) : mm_L := ((mm_cut ls i).set i (some v)).set (i + 1) none
def mm_inb (j : Int32) (n : Nat) : Bool := decide (0 ≤ j.toInt) && decide (j.toInt < (n : Int))
/-- may the value stand in a field of that type? -/
def mm_fit (ty : FieldType) (v : Value) : Bool := match ty, v with
  | .int, .int _ => true
  | .long, .long _ => true
  | .boolean, .int x => x == 0 || x == 1
  | .object _, .ref _ => true
  | .object _, .null => true
  | .array _, .ref _ => true
  | .array _, .null => true
  | _, _ => false
def mm_icmp (o : ClassFile.Cond) (x y : Int32) : Bool := match o with
  | .eq => decide (x = y)
  | .ne => decide (¬ x = y)
  | .lt => decide (x < y)
  | .ge => decide (y ≤ x)
  | .gt => decide (y < x)
  | .le => decide (x ≤ y)
def mm_up (S : mm_S) (a : Nat) (e : mm_E) : mm_S := (S.1, S.2.1, va_up S.2.2 a e)
def mm_add (S : mm_S) (n : Nat) (e : mm_E) : mm_S := (S.1 + 1, S.2.1 + n, va_up S.2.2 S.1 e)
def mm_i1 (st : List Value) (f : Int32 → Value) : Option (List Value) := match st with
  | .int x :: r => some (f x :: r)
  | _ => none
def mm_i2 (st : List Value) (f : Int32 → Int32 → Value) : Option (List Value) := match st with
  | .int y :: .int x :: r => some (f x y :: r)
  | _ => none
def mm_j1 (st : List Value) (f : Int64 → Value) : Option (List Value) := match st with
  | .long x :: r => some (f x :: r)
  | _ => none
def mm_j2 (st : List Value) (f : Int64 → Int64 → Value) : Option (List Value) := match st with
  | .long y :: .long x :: r => some (f x y :: r)
  | _ => none
def mm_ji (st : List Value) (f : Int64 → Int32 → Value) : Option (List Value) := match st with
  | .int y :: .long x :: r => some (f x y :: r)
  | _ => none
def mm_lcmp (x y : Int64) : Int32 := if x = y then 0 else if x < y then -1 else 1
