/-! the abstract machine's instructions that look at cells -/
def hw_up (g : Int → Int) (i x : Int) : Int → Int := fun q => if q = i then x else g q
def hw_rf (f : hw_F) (Z : hw_Z) (k : hw_V → Prop) : Prop := match f with
  | .inl (j, b) => match Z.1[j]? with
    | some x => (-2147483648 ≤ x ∧ x ≤ 2147483647) → (bif b then (x = 0 ∨ x = 1 → k (.inl x)) else k (.inl x))
    | none => False
  | .inr (.inl (lo, hi)) => ∀ x, (-2147483648 ≤ x ∧ x ≤ 2147483647) → lo ≤ x → x ≤ hi → k (.inl x)
  | .inr (.inr (.inl (lo, hi))) => ∀ x, (-9223372036854775808 ≤ x ∧ x ≤ 9223372036854775807) → lo ≤ x → x ≤ hi → k (.inr (.inl x))
  | .inr (.inr (.inr c)) => k (.inr (.inr c))
/-- an object's field of that class at that place -/
def hw_of (T : hw_T) (k ci p : Nat) (g : hw_F → Prop) : Prop := bif Nat.blt k 1000000 then (match T.1 k with
  | .inl (c, fs) => bif Nat.beq c ci then (match fs[p]? with
    | some f => g f
    | none => False) else False
  | .inr _ => False) else False
def hw_gf (T : hw_T) (ci p : Nat) (st : List hw_V) (Z : hw_Z) (w : List hw_V → Prop) : Prop := match st with
  | .inr (.inr k) :: r => hw_of T k ci p (fun f => hw_rf f Z (fun v => w (v :: r)))
  | _ => False
def hw_fitI (ty : FieldType) (x : Int) (P : Prop) : Prop := match ty with
  | .int => P
  | .boolean => (x = 0 ∨ x = 1) ∧ P
  | _ => False
def hw_fitJ (ty : FieldType) (P : Prop) : Prop := match ty with
  | .long => P
  | _ => False
def hw_wf (ty : FieldType) (f : hw_F) (v : hw_V) (Z : hw_Z) (w : hw_Z → Prop) : Prop := match f, v with
  | .inl (j, b), .inl x => hw_fitI ty x (bif b then ((x = 0 ∨ x = 1) ∧ hw_nl (Z.1.set j x) (fun l => w (l, Z.2))) else hw_nl (Z.1.set j x) (fun l => w (l, Z.2)))
  | .inr (.inl (lo, hi)), .inl x => hw_fitI ty x (lo ≤ x ∧ x ≤ hi ∧ w Z)
  | .inr (.inr (.inl (lo, hi))), .inr (.inl x) => hw_fitJ ty (lo ≤ x ∧ x ≤ hi ∧ w Z)
  | _, _ => False
def hw_pf (TT : mm_T) (T : hw_T) (ci p : Nat) (st : List hw_V) (Z : hw_Z) (w : List hw_V → hw_Z → Prop) : Prop := match st with
  | v :: .inr (.inr k) :: r => bif !(mm_fi TT ci p) then hw_of T k ci p (fun f => hw_wf (mm_ft TT ci p) f v Z (w r)) else False
  | _ => False
/-- an array -/
def hw_oa (T : hw_T) (k : Nat) (g : hw_A → Prop) : Prop := bif Nat.blt k 1000000 then (match T.1 k with
  | .inr a => g a
  | .inl _ => False) else False
def hw_ra (kk : Nat) (A : hw_A) (i : Int) (Z : hw_Z) (k : Int → Prop) : Prop := match A with
  | (k', n, .inl (lo, hi, m)) => bif Nat.beq k' kk then ((0 ≤ i ∧ i < n) ∧ ∀ x, lo ≤ x → x ≤ hi + m * i → k x) else False
  | (k', n, .inr (.inr j)) => bif Nat.beq k' kk then ((0 ≤ i ∧ i < n) ∧ (match Z.2[j]? with
    | some g => k (g i)
    | none => False)) else False
  | _ => False
def hw_ia (kk : Nat) (T : hw_T) (st : List hw_V) (Z : hw_Z) (w : List hw_V → Prop) : Prop := match st with
  | .inl i :: .inr (.inr k) :: r => hw_oa T k (fun A => hw_ra kk A i Z (fun x => (-2147483648 ≤ x ∧ x ≤ 2147483647) → w (.inl x :: r)))
  | _ => False
def hw_ja (T : hw_T) (st : List hw_V) (Z : hw_Z) (w : List hw_V → Prop) : Prop := match st with
  | .inl i :: .inr (.inr k) :: r => hw_oa T k (fun A => hw_ra 1 A i Z (fun x => (-9223372036854775808 ≤ x ∧ x ≤ 9223372036854775807) → w (.inr (.inl x) :: r)))
  | _ => False
def hw_aa (TT : mm_T) (T : hw_T) (st : List hw_V) (w : List hw_V → Prop) : Prop := match st with
  | .inl i :: .inr (.inr k) :: r => hw_oa T k (fun A => match A with
    | (kk, n, .inr (.inl c)) => bif Nat.blt kk (mm_nk TT) then ((0 ≤ i ∧ i < n) ∧ w (.inr (.inr c) :: r)) else False
    | _ => False)
  | _ => False
/-- bounds that every value of that kind keeps -/
def hw_full (kk : Nat) (lo hi m : Int) : Bool := bif Nat.beq kk 1 then decide (lo ≤ -9223372036854775808) && (decide (9223372036854775807 ≤ hi) && decide (m = 0)) else decide (lo ≤ -2147483648) && (decide (2147483647 ≤ hi) && decide (m = 0))
def hw_wa (kk : Nat) (A : hw_A) (i x : Int) (Z : hw_Z) (w : hw_Z → Prop) : Prop := match A with
  | (k', n, .inl (lo, hi, m)) => bif Nat.beq k' kk then ((0 ≤ i ∧ i < n) ∧ (bif hw_full kk lo hi m then w Z else ((lo ≤ x ∧ x ≤ hi + m * i) ∧ w Z))) else False
  | (k', n, .inr (.inr j)) => bif Nat.beq k' kk then ((0 ≤ i ∧ i < n) ∧ (match Z.2[j]? with
    | some g => hw_nl (Z.2.set j (hw_up g i x)) (fun l => w (Z.1, l))
    | none => False)) else False
  | _ => False
def hw_is (T : hw_T) (st : List hw_V) (Z : hw_Z) (w : List hw_V → hw_Z → Prop) : Prop := match st with
  | .inl x :: .inl i :: .inr (.inr k) :: r => hw_oa T k (fun A => hw_wa 0 A i x Z (w r))
  | _ => False
def hw_zs (T : hw_T) (st : List hw_V) (Z : hw_Z) (w : List hw_V → hw_Z → Prop) : Prop := match st with
  | .inl x :: .inl i :: .inr (.inr k) :: r => (x = 0 ∨ x = 1) ∧ hw_oa T k (fun A => hw_wa 2 A i x Z (w r))
  | _ => False
def hw_js (T : hw_T) (st : List hw_V) (Z : hw_Z) (w : List hw_V → hw_Z → Prop) : Prop := match st with
  | .inr (.inl x) :: .inl i :: .inr (.inr k) :: r => hw_oa T k (fun A => hw_wa 1 A i x Z (w r))
  | _ => False
def hw_al (TT : mm_T) (T : hw_T) (st : List hw_V) (w : List hw_V → Prop) : Prop := match st with
  | .inr (.inr k) :: r => hw_oa T k (fun A => match A with
    | (kk, n, _) => bif Nat.blt kk (mm_nk TT) && Nat.blt n 2147483648 then w (.inl (n : Int) :: r) else False)
  | _ => False
def hw_ac (T : hw_T) (st : List hw_V) (w : List hw_V → Prop) (w' : List hw_V → Prop) : Prop := match st with
  | .inr (.inr k) :: .inr (.inr k') :: r => bif Nat.blt k 1000000 && Nat.blt k' 1000000 then (w r ∧ w' r) else False
  | _ => False
def hw_ts (pc : Nat) (df lo hi : Int) (offs : List Int) (x : Int) (w : Nat → Prop) : Prop := bif decide (hi - lo + 1 = (offs.length : Int)) && (decide (0 ≤ (pc : Int) + df) && offs.all (fun o => decide (0 ≤ (pc : Int) + o))) then hw_sw x w ((pc : Int) + df).toNat (hw_tsl pc lo offs) else False
def hw_lk (pc : Nat) (df : Int) (ps : List (Int × Int)) (x : Int) (w : Nat → Prop) : Prop := bif (ps.zip (ps.drop 1)).all (fun (a, next) => a.1 < next.1) && (decide (0 ≤ (pc : Int) + df) && ps.all (fun o => decide (0 ≤ (pc : Int) + o.2))) then hw_sw x w ((pc : Int) + df).toNat (hw_lsl pc ps) else False
def hw_m (TT : mm_T) (T : hw_T) (P : Nat → Option hw_P) (i : Instr) (pc nx tg : Nat) (L : hw_L) (st : List hw_V) (Z : hw_Z) (w : hw_K → Prop) : Prop := match i with
  | .getfield x => match P x with
    | some (.inl (ci, p)) => hw_gf T ci p st Z (fun st => w (nx, L, st, Z))
    | _ => False
  | .putfield x => match P x with
    | some (.inl (ci, p)) => hw_pf TT T ci p st Z (fun st Z => w (nx, L, st, Z))
    | _ => False
  | .iaload => hw_ia 0 T st Z (fun st => w (nx, L, st, Z))
  | .baload => hw_ia 2 T st Z (fun st => w (nx, L, st, Z))
  | .laload => hw_ja T st Z (fun st => w (nx, L, st, Z))
  | .aaload => hw_aa TT T st (fun st => w (nx, L, st, Z))
  | .iastore => hw_is T st Z (fun st Z => w (nx, L, st, Z))
  | .bastore => hw_zs T st Z (fun st Z => w (nx, L, st, Z))
  | .lastore => hw_js T st Z (fun st Z => w (nx, L, st, Z))
  | .arraylength => hw_al TT T st (fun st => w (nx, L, st, Z))
  | .ldc x => match P x with
    | some (.inr (.inr (.inl c))) => w (nx, L, .inl c :: st, Z)
    | some (.inr (.inr (.inr (.inr k)))) => w (nx, L, .inr (.inr (1000000 + k)) :: st, Z)
    | _ => False
  | .ldc_w x => match P x with
    | some (.inr (.inr (.inl c))) => w (nx, L, .inl c :: st, Z)
    | _ => False
  | .ldc2_w x => match P x with
    | some (.inr (.inr (.inr (.inl c)))) => w (nx, L, .inr (.inl c) :: st, Z)
    | _ => False
  | .if_acmp _ _ => hw_ac T st (fun st => w (tg, L, st, Z)) (fun st => w (nx, L, st, Z))
  | .tableswitch df lo hi offs => hw_i1 st (fun x r => hw_ts pc df lo hi offs.toList x (fun t => w (t, L, r, Z)))
  | .lookupswitch df ps => hw_i1 st (fun x r => hw_lk pc df ps.toList x (fun t => w (t, L, r, Z)))
  | _ => False
/-- the pool as the small machine has it -/
def hw_pk (P : Nat → Option hw_P) (pool : Nat → Option mm_P) : Prop := ∀ x q, P x = some q → (match q with
  | .inl (ci, p) => pool x = some (.inl (ci, p))
  | .inr (.inl g) => pool x = some (.inr (.inl g))
  | .inr (.inr (.inl c)) => ∃ v : Int32, pool x = some (.inr (.inr (.inr (.inl v)))) ∧ v.toInt = c
  | .inr (.inr (.inr (.inl c))) => ∃ v : Int64, pool x = some (.inr (.inr (.inr (.inr (.inl v))))) ∧ v.toInt = c
  | .inr (.inr (.inr (.inr k))) => pool x = some (.inr (.inr (.inr (.inr (.inr k))))))
