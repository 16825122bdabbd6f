/-! the abstract machine's instructions that look at cells -/
/-- what bounds tell of a value that is read -/
def hw_bi (rm : Int) (b : hw_B) (x : Int) (P : Prop) : Prop := match b with
  | none => (-2147483648 ≤ x ∧ x ≤ 2147483647) → P
  | some (lo, some hi) => (lo ≤ x ∧ x ≤ hi) → P
  | some (lo, none) => (lo ≤ x ∧ x ≤ rm ∧ rm ≤ 2000) → P
/-- what bounds want of a value that is written -/
def hw_bo (rm : Int) (b : hw_B) (x : Int) (P : Prop) : Prop := match b with
  | none => P
  | some (lo, some hi) => (lo ≤ x ∧ x ≤ hi) ∧ P
  | some (lo, none) => (lo ≤ x ∧ x ≤ rm) ∧ P
/-- the room of a number -/
def hw_rmk (T : hw_T) (i : Int) (k : Int → Prop) : Prop := match T with
  | (_, _, _, rm) => k (rm i)
def hw_rf (rm : Int) (f : hw_F) (i : Int) (Z : hw_Z) (k : hw_V → Prop) : Prop := match f with
  | .inl (tr, b) => match tr with
    | none => ∀ x, hw_bi rm b x (k (.inl x))
    | some (.inl j) => match Z.1[j]? with
      | some x => hw_bi rm b x (k (.inl x))
      | none => False
    | some (.inr j) => match Z.2.2.1[j]? with
      | some f => hw_bi rm b (f i) (k (.inl (f i)))
      | none => False
  | .inr (.inl (lo, hi)) => ∀ x, (-9223372036854775808 ≤ x ∧ x ≤ 9223372036854775807) → lo ≤ x → x ≤ hi → k (.inr (.inl x))
  | .inr (.inr (c, o)) => match o with
    | none => k (.inr (.inr (c, i)))
    | some (.inl d) => k (.inr (.inr (c, d)))
    | some (.inr (d, a)) => k (.inr (.inr (c, d + a * i)))
/-- an object's field of that class at that place -/
def hw_of (T : hw_T) (k ci p : Nat) (g : hw_F → Prop) : Prop := bif Nat.blt k 1000000 then (match T.1 k with
  | .inl (c, fs) => bif Nat.beq c ci then (match fs[p]? with
    | some f => g f
    | none => False) else False
  | .inr _ => False) else False
def hw_gf (T : hw_T) (ci p : Nat) (st : List hw_V) (Z : hw_Z) (w : List hw_V → Prop) : Prop := match st with
  | .inr (.inr (k, i)) :: r => hw_rmk T i (fun rm => hw_of T k ci p (fun f => hw_rf rm f i Z (fun v => w (v :: r))))
  | _ => False
def hw_fitI (ty : FieldType) (x : Int) (P : Prop) : Prop := match ty with
  | .int => P
  | .boolean => (x = 0 ∨ x = 1) ∧ P
  | _ => False
def hw_fitJ (ty : FieldType) (P : Prop) : Prop := match ty with
  | .long => P
  | _ => False
/-- the tracked values behind a write -/
def hw_tz (Z : hw_Z) (i : Int) (tr : hw_Tr) (x : Int) (w : hw_Z → Prop) : Prop := match tr with
  | none => w Z
  | some (.inl j) => match Z with
    | (z1, z2) => hw_nl (z1.set j x) (fun l => w (l, z2))
  | some (.inr j) => match Z with
    | (z1, z2, z3, z4) => match z3[j]? with
      | some f => hw_nl (z3.set j (hw_up f i x)) (fun l => w (z1, z2, l, z4))
      | none => False
def hw_az (Z : hw_Z) (i : Int) (tr : hw_Tr) (p x : Int) (w : hw_Z → Prop) : Prop := match tr with
  | none => w Z
  | some (.inl j) => match Z with
    | (z1, z2, z3) => match z2[j]? with
      | some g => hw_nl (z2.set j (hw_up g p x)) (fun l => w (z1, l, z3))
      | none => False
  | some (.inr j) => match Z with
    | (z1, z2, z3, z4) => match z4[j]? with
      | some h => hw_nl (z4.set j (hw_up h i (hw_up (h i) p x))) (fun l => w (z1, z2, z3, l))
      | none => False
def hw_wf (rm : Int) (ty : FieldType) (f : hw_F) (i : Int) (v : hw_V) (Z : hw_Z) (w : hw_Z → Prop) : Prop := match f, v with
  | .inl (tr, b), .inl x => hw_fitI ty x (hw_bo rm b x (hw_tz Z i tr x w))
  | .inr (.inl (lo, hi)), .inr (.inl x) => hw_fitJ ty (lo ≤ x ∧ x ≤ hi ∧ w Z)
  | _, _ => False
def hw_pf (TT : mm_T) (T : hw_T) (ci p : Nat) (st : List hw_V) (Z : hw_Z) (w : List hw_V → hw_Z → Prop) : Prop := match st with
  | v :: .inr (.inr (k, i)) :: r => bif !(mm_fi TT ci p) then hw_rmk T i (fun rm => hw_of T k ci p (fun f => hw_wf rm (mm_ft TT ci p) f i v Z (w r))) else False
  | _ => False
/-- an array -/
def hw_oa (T : hw_T) (k : Nat) (g : hw_A → Prop) : Prop := bif Nat.blt k 1000000 then (match T.1 k with
  | .inr a => g a
  | .inl _ => False) else False
/-- a place in an array -/
def hw_lq (ln : Option Nat) (rm p : Int) : Prop := match ln with
  | some n => 0 ≤ p ∧ p < (n : Int)
  | none => 0 ≤ p ∧ p < rm
def hw_aq (kk : Nat) (b : Option (Int × Int × Int)) (p x : Int) (P : Prop) : Prop := match b with
  | none => bif Nat.beq kk 1 then ((-9223372036854775808 ≤ x ∧ x ≤ 9223372036854775807) → P) else ((-2147483648 ≤ x ∧ x ≤ 2147483647) → P)
  | some (lo, hi, m) => (lo ≤ x ∧ x ≤ hi + m * p) → P
def hw_ao (b : Option (Int × Int × Int)) (p x : Int) (P : Prop) : Prop := match b with
  | none => P
  | some (lo, hi, m) => (lo ≤ x ∧ x ≤ hi + m * p) ∧ P
def hw_ra (rm : Int) (kk : Nat) (A : hw_A) (i p : Int) (Z : hw_Z) (k : Int → Prop) : Prop := match A with
  | (k', ln, .inl (tr, b)) => bif Nat.beq k' kk then (hw_lq ln rm p ∧ (match tr with
    | none => ∀ x, hw_aq kk b p x (k x)
    | some (.inl j) => match Z.2.1[j]? with
      | some g => hw_aq kk b p (g p) (k (g p))
      | none => False
    | some (.inr j) => match Z.2.2.2[j]? with
      | some h => hw_aq kk b p (h i p) (k (h i p))
      | none => False)) else False
  | _ => False
def hw_ia (kk : Nat) (T : hw_T) (st : List hw_V) (Z : hw_Z) (w : List hw_V → Prop) : Prop := match st with
  | .inl p :: .inr (.inr (k, i)) :: r => hw_rmk T i (fun rm => hw_oa T k (fun A => hw_ra rm kk A i p Z (fun x => w (.inl x :: r))))
  | _ => False
def hw_ja (T : hw_T) (st : List hw_V) (Z : hw_Z) (w : List hw_V → Prop) : Prop := match st with
  | .inl p :: .inr (.inr (k, i)) :: r => hw_rmk T i (fun rm => hw_oa T k (fun A => hw_ra rm 1 A i p Z (fun x => w (.inr (.inl x) :: r))))
  | _ => False
def hw_aa (TT : mm_T) (T : hw_T) (st : List hw_V) (w : List hw_V → Prop) : Prop := match st with
  | .inl p :: .inr (.inr (k, i)) :: r => hw_rmk T i (fun rm => hw_oa T k (fun A => match A with
    | (kk, ln, .inr (c, o)) => bif Nat.blt kk (mm_nk TT) then (hw_lq ln rm p ∧ (match o with
      | none => w (.inr (.inr (c, p)) :: r)
      | some (.inl d) => w (.inr (.inr (c, d + p)) :: r)
      | some (.inr (d, a)) => w (.inr (.inr (c, d + a * i + p)) :: r))) else False
    | _ => False))
  | _ => False
def hw_wa (rm : Int) (kk : Nat) (A : hw_A) (i p x : Int) (Z : hw_Z) (w : hw_Z → Prop) : Prop := match A with
  | (k', ln, .inl (tr, b)) => bif Nat.beq k' kk then (hw_lq ln rm p ∧ hw_ao b p x (hw_az Z i tr p x w)) else False
  | _ => False
def hw_is (T : hw_T) (st : List hw_V) (Z : hw_Z) (w : List hw_V → hw_Z → Prop) : Prop := match st with
  | .inl x :: .inl p :: .inr (.inr (k, i)) :: r => hw_rmk T i (fun rm => hw_oa T k (fun A => hw_wa rm 0 A i p x Z (w r)))
  | _ => False
def hw_zs (T : hw_T) (st : List hw_V) (Z : hw_Z) (w : List hw_V → hw_Z → Prop) : Prop := match st with
  | .inl x :: .inl p :: .inr (.inr (k, i)) :: r => (x = 0 ∨ x = 1) ∧ hw_rmk T i (fun rm => hw_oa T k (fun A => hw_wa rm 2 A i p x Z (w r)))
  | _ => False
def hw_js (T : hw_T) (st : List hw_V) (Z : hw_Z) (w : List hw_V → hw_Z → Prop) : Prop := match st with
  | .inr (.inl x) :: .inl p :: .inr (.inr (k, i)) :: r => hw_rmk T i (fun rm => hw_oa T k (fun A => hw_wa rm 1 A i p x Z (w r)))
  | _ => False
def hw_al (TT : mm_T) (T : hw_T) (st : List hw_V) (w : List hw_V → Prop) : Prop := match st with
  | .inr (.inr (k, i)) :: r => hw_rmk T i (fun rm => hw_oa T k (fun A => match A with
    | (kk, ln, _) => bif Nat.blt kk (mm_nk TT) then (match ln with
      | some n => bif Nat.blt n 2147483648 then w (.inl (n : Int) :: r) else False
      | none => (0 ≤ rm ∧ rm ≤ 2000) → w (.inl rm :: r)) else False))
  | _ => False
def hw_ac (T : hw_T) (o : ClassFile.ACond) (st : List hw_V) (w : List hw_V → Prop) (w' : List hw_V → Prop) : Prop := match st with
  | .inr (.inr (k, i)) :: .inr (.inr (k', i')) :: r => bif Nat.blt k 1000000 && Nat.blt k' 1000000 then (match o with
    | .eq => bif Nat.beq k k' then ((i = i' → w r) ∧ (¬ i = i' → w' r)) else w' r
    | .ne => bif Nat.beq k k' then ((¬ i = i' → w r) ∧ (i = i' → w' r)) else w r) else False
  | _ => False
def hw_ts (pc : Nat) (df lo hi : Int) (offs : List Int) (x : Int) (w : Nat → Prop) : Prop := bif decide (hi - lo + 1 = (offs.length : Int)) && (decide (0 ≤ (pc : Int) + df) && offs.all (fun o => decide (0 ≤ (pc : Int) + o))) then hw_sw x w ((pc : Int) + df).toNat (hw_tsl pc lo offs) else False
def hw_lk (pc : Nat) (df : Int) (ps : List (Int × Int)) (x : Int) (w : Nat → Prop) : Prop := bif (ps.zip (ps.drop 1)).all (fun (a, next) => a.1 < next.1) && (decide (0 ≤ (pc : Int) + df) && ps.all (fun o => decide (0 ≤ (pc : Int) + o.2))) then hw_sw x w ((pc : Int) + df).toNat (hw_lsl pc ps) else False
/-- how many Strings there are, their octets -/
def hw_nxk (TT : mm_T) (k : Nat → (Nat → List Int32) → Prop) : Prop := match TT with
  | (_, _, _, _, _, _, _, _, _, n, sb) => k n sb
/-- a String's length, its octets -/
def hw_sl (sb : Nat → List Int32) (i : Int) : Int := (Int32.ofNat (sb i.toNat).length).toInt
def hw_sc (sb : Nat → List Int32) (i p : Int) : Int := ((sb i.toNat).getD p.toNat 0).toInt
def hw_sg (TT : mm_T) (k : Nat) (st : List hw_V) (w : List hw_V → Prop) : Prop := match st with
  | .inr (.inr (kd, i)) :: r => bif Nat.beq kd 1000000 then hw_nxk TT (fun n _ => (1 ≤ i ∧ i ≤ (n : Int)) ∧ (bif Nat.beq k 2000 then w (.inr (.inr (1000001, i)) :: r) else (bif Nat.beq k 2001 then w (.inl 0 :: r) else False))) else False
  | _ => False
def hw_sio (TT : mm_T) (k : Nat) (st : List hw_V) (w : List hw_V → Prop) : Prop := match st with
  | .inr (.inr (kd, i)) :: r => bif Nat.beq kd 1000000 && Nat.beq k 2003 then hw_nxk TT (fun n _ => (1 ≤ i ∧ i ≤ (n : Int)) ∧ w (.inl 1 :: r)) else False
  | _ => False
def hw_scc (TT : mm_T) (k : Nat) (st : List hw_V) (w : List hw_V → Prop) : Prop := match st with
  | .inr (.inr (kd, i)) :: r => bif Nat.beq kd 1000000 && Nat.beq k 2003 then hw_nxk TT (fun n _ => (1 ≤ i ∧ i ≤ (n : Int)) ∧ w (.inr (.inr (1000000, i)) :: r)) else False
  | _ => False
def hw_ba (TT : mm_T) (T : hw_T) (st : List hw_V) (Z : hw_Z) (w : List hw_V → Prop) : Prop := match st with
  | .inl p :: .inr (.inr (k, i)) :: r => bif Nat.beq k 1000001 then hw_nxk TT (fun n sb => (1 ≤ i ∧ i ≤ (n : Int)) ∧ (0 ≤ p ∧ p < hw_sl sb i) ∧ ∀ z : Int, (-2147483648 ≤ z ∧ z ≤ 2147483647) → z = hw_sc sb i p → w (.inl z :: r)) else hw_ia 2 T st Z w
  | _ => False
def hw_aln (TT : mm_T) (T : hw_T) (st : List hw_V) (w : List hw_V → Prop) : Prop := match st with
  | .inr (.inr (k, i)) :: r => bif Nat.beq k 1000001 then hw_nxk TT (fun n sb => (1 ≤ i ∧ i ≤ (n : Int)) ∧ ∀ z : Int, (-2147483648 ≤ z ∧ z ≤ 2147483647) → z = hw_sl sb i → w (.inl z :: r)) else hw_al TT T st w
  | _ => False
def hw_acs (TT : mm_T) (T : hw_T) (o : ClassFile.ACond) (st : List hw_V) (w : List hw_V → Prop) (w' : List hw_V → Prop) : Prop := match st with
  | .inr (.inr (k, i)) :: .inr (.inr (k', i')) :: r => bif Nat.beq k 1000000 && Nat.beq k' 1000000 then hw_nxk TT (fun n _ => ((1 ≤ i ∧ i ≤ (n : Int)) ∧ (1 ≤ i' ∧ i' ≤ (n : Int))) ∧ (match o with
    | .eq => (i = i' → w r) ∧ (¬ i = i' → w' r)
    | .ne => (¬ i = i' → w r) ∧ (i = i' → w' r))) else hw_ac T o st w w'
  | _ => False
def hw_lqe (ln : Option Nat) (rm e : Int) : Prop := match ln with
  | some n => e ≤ (n : Int)
  | none => e ≤ rm
/-- what a copy leaves -/
def hw_cpf (f g : Int → Int) (sp dp n : Int) : Int → Int := fun q => if dp ≤ q ∧ q < dp + n then f (sp + (q - dp)) else g q
/-- a copy into an array that is not tracked, or tracked alone -/
def hw_cpy (T : hw_T) (st : List hw_V) (Z : hw_Z) (w : List hw_V → hw_Z → Prop) : Prop := match st with
  | .inl n :: .inl dp :: .inr (.inr (k, i)) :: .inl sp :: .inr (.inr (k', i')) :: r => bif Nat.ble (r.map hw_cat).sum 8 then hw_rmk T i (fun rm => hw_rmk T i' (fun rm' => hw_oa T k (fun A => hw_oa T k' (fun A' => match A, A' with
    | (kk, ln, .inl (none, none)), (kk', ln', .inl _) => bif Nat.beq kk 0 && Nat.beq kk' 0 then ((0 ≤ sp ∧ 0 ≤ dp ∧ 0 ≤ n ∧ hw_lqe ln' rm' (sp + n) ∧ hw_lqe ln rm (dp + n)) ∧ w r Z) else False
    | (kk, ln, .inl (some (.inl j), none)), (kk', ln', .inl (some (.inl j'), _)) => bif Nat.beq kk 0 && Nat.beq kk' 0 then ((0 ≤ sp ∧ 0 ≤ dp ∧ 0 ≤ n ∧ hw_lqe ln' rm' (sp + n) ∧ hw_lqe ln rm (dp + n)) ∧ (match Z with
      | (z1, z2, z3) => match z2[j]?, z2[j']? with
        | some g, some f => hw_nl (z2.set j (hw_cpf f g sp dp n)) (fun l => w r (z1, l, z3))
        | _, _ => False)) else False
    | _, _ => False)))) else False
  | _ => False
def hw_m (TT : mm_T) (T : hw_T) (P : Nat → Option hw_P) (i : Instr) (pc nx tg : Nat) (L : hw_L) (st : List hw_V) (Z : hw_Z) (w : hw_K → Prop) : Prop := match i with
  | .getfield x => match P x with
    | some (.inl (ci, p)) => hw_gf T ci p st Z (fun st => w (nx, L, st, Z))
    | some (.inr (.inr (.inr (.inr k)))) => hw_sg TT k st (fun st => w (nx, L, st, Z))
    | _ => False
  | .getstatic x => match P x with
    | some (.inr (.inr (.inr (.inr k)))) => bif Nat.beq k 2002 then w (nx, L, .inl 1 :: st, Z) else False
    | _ => False
  | .instanceof x => match P x with
    | some (.inr (.inr (.inr (.inr k)))) => hw_sio TT k st (fun st => w (nx, L, st, Z))
    | _ => False
  | .checkcast x => match P x with
    | some (.inr (.inr (.inr (.inr k)))) => hw_scc TT k st (fun st => w (nx, L, st, Z))
    | _ => False
  | .putfield x => match P x with
    | some (.inl (ci, p)) => hw_pf TT T ci p st Z (fun st Z => w (nx, L, st, Z))
    | _ => False
  | .iaload => hw_ia 0 T st Z (fun st => w (nx, L, st, Z))
  | .baload => hw_ba TT T st Z (fun st => w (nx, L, st, Z))
  | .laload => hw_ja T st Z (fun st => w (nx, L, st, Z))
  | .aaload => hw_aa TT T st (fun st => w (nx, L, st, Z))
  | .iastore => hw_is T st Z (fun st Z => w (nx, L, st, Z))
  | .bastore => hw_zs T st Z (fun st Z => w (nx, L, st, Z))
  | .lastore => hw_js T st Z (fun st Z => w (nx, L, st, Z))
  | .arraylength => hw_aln TT T st (fun st => w (nx, L, st, Z))
  | .ldc x => match P x with
    | some (.inr (.inr (.inl c))) => w (nx, L, .inl c :: st, Z)
    | some (.inr (.inr (.inr (.inr k)))) => bif Nat.blt 0 k && Nat.blt k 2000 then w (nx, L, .inr (.inr (1000000, (k : Int))) :: st, Z) else False
    | _ => False
  | .ldc_w x => match P x with
    | some (.inr (.inr (.inl c))) => w (nx, L, .inl c :: st, Z)
    | _ => False
  | .ldc2_w x => match P x with
    | some (.inr (.inr (.inr (.inl c)))) => w (nx, L, .inr (.inl c) :: st, Z)
    | _ => False
  | .if_acmp o _ => hw_acs TT T o st (fun st => w (tg, L, st, Z)) (fun st => w (nx, L, st, Z))
  | .tableswitch df lo hi offs => hw_i1 st (fun x r => hw_ts pc df lo hi offs.toList x (fun t => w (t, L, r, Z)))
  | .lookupswitch df ps => hw_i1 st (fun x r => hw_lk pc df ps.toList x (fun t => w (t, L, r, Z)))
  | _ => False
/-- the pool as the small machine has it -/
def hw_pk (P : Nat → Option hw_P) (pool : Nat → Option mm_P) : Prop := ∀ x q, P x = some q → (match q with
  | .inl (ci, p) => pool x = some (.inl (ci, p))
  | .inr (.inl g) => pool x = some (.inr (.inl g))
  | .inr (.inr (.inl c)) => ∃ v : Int32, pool x = some (.inr (.inr (.inr (.inl v)))) ∧ v.toInt = c
  | .inr (.inr (.inr (.inl c))) => ∃ v : Int64, pool x = some (.inr (.inr (.inr (.inr (.inl v))))) ∧ v.toInt = c
  | .inr (.inr (.inr (.inr k))) => pool x = some (.inr (.inr (.inr (.inr (.inr k))))))
