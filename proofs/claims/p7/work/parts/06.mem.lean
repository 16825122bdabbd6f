/-! the instructions that look at cells -/
def mm_gf (pool : Nat → Option mm_P) (x nx : Nat) (L : mm_L) (st : List Value) (S : mm_S) : Option mm_Kf := match pool x, st with
  | some (.inl (ci, k)), .ref a :: r => match S.2.2 a with
    | .inr (c', fs) => if a < S.1 ∧ c' = ci then (match fs[k]? with
      | some v => some (nx, L, v :: r, S)
      | none => none) else none
    | _ => none
  | _, _ => none
def mm_pf (T : mm_T) (ini : Bool) (oc : Nat) (pool : Nat → Option mm_P) (x nx : Nat) (L : mm_L) (st : List Value) (S : mm_S) : Option mm_Kf := match pool x, st with
  | some (.inl (ci, k)), v :: .ref a :: r => match S.2.2 a with
    | .inr (c', fs) => if a < S.1 ∧ c' = ci ∧ k < fs.length ∧ mm_fit (mm_ft T ci k) v = true ∧ (mm_fi T ci k = false ∨ (ini = true ∧ ci = oc)) then some (nx, L, r, mm_up S a (.inr (ci, fs.set k v))) else none
    | _ => none
  | _, _ => none
def mm_ia (scr : Nat × (Nat → Int32)) (nx : Nat) (L : mm_L) (st : List Value) (S : mm_S) : Option mm_Kf := match st with
  | .int j :: .ref a :: r => if a = mm_big then (if mm_inb j scr.1 = true then some (nx, L, .int (scr.2 j.toNatClampNeg) :: r, S) else none) else (match S.2.2 a with
    | .inl (0, n, .inl f) => if a < S.1 ∧ mm_inb j n = true then some (nx, L, .int (f j.toNatClampNeg) :: r, S) else none
    | _ => none)
  | _ => none
def mm_za (nx : Nat) (L : mm_L) (st : List Value) (S : mm_S) : Option mm_Kf := match st with
  | .int j :: .ref a :: r => match S.2.2 a with
    | .inl (2, n, .inl f) => if a < S.1 ∧ mm_inb j n = true then some (nx, L, .int (f j.toNatClampNeg) :: r, S) else none
    | _ => none
  | _ => none
def mm_ja (nx : Nat) (L : mm_L) (st : List Value) (S : mm_S) : Option mm_Kf := match st with
  | .int j :: .ref a :: r => match S.2.2 a with
    | .inl (1, n, .inr (.inl f)) => if a < S.1 ∧ mm_inb j n = true then some (nx, L, .long (f j.toNatClampNeg) :: r, S) else none
    | _ => none
  | _ => none
def mm_aa (T : mm_T) (nx : Nat) (L : mm_L) (st : List Value) (S : mm_S) : Option mm_Kf := match st with
  | .int j :: .ref a :: r => match S.2.2 a with
    | .inl (k, n, .inr (.inr (.inr (.inr f)))) => if a < S.1 ∧ mm_inb j n = true ∧ 3 ≤ k ∧ k < mm_nk T then some (nx, L, va_rf (f j.toNatClampNeg) :: r, S) else none
    | _ => none
  | _ => none
def mm_is (nx : Nat) (L : mm_L) (st : List Value) (S : mm_S) : Option mm_Kf := match st with
  | .int x :: .int j :: .ref a :: r => match S.2.2 a with
    | .inl (0, n, .inl f) => if a < S.1 ∧ mm_inb j n = true then some (nx, L, r, mm_up S a (.inl (0, n, .inl (upd f j.toNatClampNeg x)))) else none
    | _ => none
  | _ => none
def mm_zs (nx : Nat) (L : mm_L) (st : List Value) (S : mm_S) : Option mm_Kf := match st with
  | .int x :: .int j :: .ref a :: r => match S.2.2 a with
    | .inl (2, n, .inl f) => if a < S.1 ∧ mm_inb j n = true then some (nx, L, r, mm_up S a (.inl (2, n, .inl (upd f j.toNatClampNeg (vp_nar .boolean x))))) else none
    | _ => none
  | _ => none
def mm_js (nx : Nat) (L : mm_L) (st : List Value) (S : mm_S) : Option mm_Kf := match st with
  | .long x :: .int j :: .ref a :: r => match S.2.2 a with
    | .inl (1, n, .inr (.inl f)) => if a < S.1 ∧ mm_inb j n = true then some (nx, L, r, mm_up S a (.inl (1, n, .inr (.inl (vp_updL f j.toNatClampNeg x))))) else none
    | _ => none
  | _ => none
def mm_as (T : mm_T) (nx : Nat) (L : mm_L) (st : List Value) (S : mm_S) : Option mm_Kf := match st with
  | .ref b :: .int j :: .ref a :: r => match S.2.2 a with
    | .inl (k, n, .inr (.inr (.inr (.inr f)))) => if a < S.1 ∧ mm_inb j n = true ∧ (3 ≤ k ∧ k < mm_nk T) then (if b < S.1 then (match S.2.2 b with
        | .inr (ci, _) => if mm_kc T k = ci then some (nx, L, r, mm_up S a (.inl (k, n, .inr (.inr (.inr (.inr (va_up f j.toNatClampNeg (some b)))))))) else none
        | _ => none) else (if k = 5 ∧ mm_big < b ∧ b ≤ mm_big + mm_nx T then some (nx, L, r, mm_up S a (.inl (k, n, .inr (.inr (.inr (.inr (va_up f j.toNatClampNeg (some b)))))))) else none)) else none
    | _ => none
  | _ => none
def mm_al (T : mm_T) (scr : Nat × (Nat → Int32)) (nx : Nat) (L : mm_L) (st : List Value) (S : mm_S) : Option mm_Kf := match st with
  | .ref a :: r => if a = mm_big then some (nx, L, .int (Int32.ofNat scr.1) :: r, S) else (match S.2.2 a with
    | .inl (k, n, _) => if a < S.1 ∧ k < mm_nk T then some (nx, L, .int (Int32.ofNat n) :: r, S) else none
    | _ => none)
  | _ => none
def mm_nw (T : mm_T) (pool : Nat → Option mm_P) (x nx : Nat) (L : mm_L) (st : List Value) (S : mm_S) : Option mm_Kf := match pool x with
  | some (.inr (.inr (.inl ci))) => if (S.1 + 1 ≤ mm_lc T ∧ S.2.1 + (mm_fd T ci).length ≤ mm_lsl T) ∧ ci < mm_nc T then some (nx, L, .ref S.1 :: st, mm_add S (mm_fd T ci).length (.inr (ci, mm_fd T ci))) else none
  | _ => none
def mm_na (T : mm_T) (t : ArrayType) (nx : Nat) (L : mm_L) (st : List Value) (S : mm_S) : Option mm_Kf := match st with
  | .int x :: r => if 0 ≤ x.toInt ∧ x.toNatClampNeg ≤ 60000000 ∧ S.1 + 1 ≤ mm_lc T ∧ S.2.1 + x.toNatClampNeg ≤ mm_lsl T then (match t with
    | .int => some (nx, L, .ref S.1 :: r, mm_add S x.toNatClampNeg (.inl (0, x.toNatClampNeg, .inl (fun _ => 0))))
    | .long => some (nx, L, .ref S.1 :: r, mm_add S x.toNatClampNeg (.inl (1, x.toNatClampNeg, .inr (.inl (fun _ => 0)))))
    | .boolean => some (nx, L, .ref S.1 :: r, mm_add S x.toNatClampNeg (.inl (2, x.toNatClampNeg, .inl (fun _ => 0))))
    | _ => none) else none
  | _ => none
def mm_nq (T : mm_T) (pool : Nat → Option mm_P) (x nx : Nat) (L : mm_L) (st : List Value) (S : mm_S) : Option mm_Kf := match pool x, st with
  | some (.inr (.inr (.inl ci))), .int n :: r => if 0 ≤ n.toInt ∧ n.toNatClampNeg ≤ 60000000 ∧ S.1 + 1 ≤ mm_lc T ∧ S.2.1 + n.toNatClampNeg ≤ mm_lsl T ∧ (3 ≤ mm_ka T ci ∧ mm_ka T ci < mm_nk T) then some (nx, L, .ref S.1 :: r, mm_add S n.toNatClampNeg (.inl (mm_ka T ci, n.toNatClampNeg, .inr (.inr (.inr (.inr (fun _ => none))))))) else none
  | _, _ => none
def mm_lc1 (pool : Nat → Option mm_P) (x nx : Nat) (L : mm_L) (st : List Value) (S : mm_S) : Option mm_Kf := match pool x with
  | some (.inr (.inr (.inr (.inl v)))) => some (nx, L, .int v :: st, S)
  | some (.inr (.inr (.inr (.inr (.inr k))))) => if 0 < k ∧ k < 2000 then some (nx, L, .ref (mm_big + k) :: st, S) else none
  | _ => none
def mm_lc2 (pool : Nat → Option mm_P) (x nx : Nat) (L : mm_L) (st : List Value) (S : mm_S) : Option mm_Kf := match pool x with
  | some (.inr (.inr (.inr (.inr (.inl v))))) => some (nx, L, .long v :: st, S)
  | _ => none
def mm_lcw (pool : Nat → Option mm_P) (x nx : Nat) (L : mm_L) (st : List Value) (S : mm_S) : Option mm_Kf := match pool x with
  | some (.inr (.inr (.inr (.inl v)))) => some (nx, L, .int v :: st, S)
  | _ => none
def mm_st1 (T : mm_T) (ini : Bool) (oc : Nat) (pool : Nat → Option mm_P) (scr : Nat × (Nat → Int32)) (i : Instr) (nx : Nat) (L : mm_L) (st : List Value) (S : mm_S) : Option mm_Kf := match i with
  | .getfield x => mm_gf pool x nx L st S
  | .putfield x => mm_pf T ini oc pool x nx L st S
  | .iaload => mm_ia scr nx L st S
  | .baload => mm_za nx L st S
  | .laload => mm_ja nx L st S
  | .aaload => mm_aa T nx L st S
  | .iastore => mm_is nx L st S
  | .bastore => mm_zs nx L st S
  | .lastore => mm_js nx L st S
  | .aastore => mm_as T nx L st S
  | .arraylength => mm_al T scr nx L st S
  | .new x => mm_nw T pool x nx L st S
  | .newarray t => mm_na T t nx L st S
  | .anewarray x => mm_nq T pool x nx L st S
  | .ldc x => mm_lc1 pool x nx L st S
  | .ldc2_w x => mm_lc2 pool x nx L st S
  | .ldc_w x => mm_lcw pool x nx L st S
  | _ => none
/-! what the program's tables must be -/
def mm_clOK (Ts : List Jvm.Cond) (cl : List vw_C) (T : mm_T) : Prop := ∀ (ci : Nat) (r : vw_C), cl[ci]? = some r → (∀ w ∈ u_ws r.1 r.2.1 r.2.2, w ∈ Ts) ∧ (∀ k, k < r.2.2 → parseFieldDescriptor (r.2.1 k).2.2.1 = some (mm_ft T ci k)) ∧ (∀ a, a < r.2.2 → ∀ b, b < r.2.2 → a ≠ b → (r.2.1 a).2.1 ≠ (r.2.1 b).2.1) ∧ (∀ k, k < r.2.2 → mm_fi T ci k = (r.2.1 k).2.2.2) ∧ ((mm_fd T ci).length = r.2.2 ∧ ∀ j, j < r.2.2 → vp_V (mm_fd T ci) j = defaultValue (mm_ft T ci j))
/-- a method's pool: its class's name, that class's number -/
def mm_plOK (Ts : List Jvm.Cond) (cl : List vw_C) (aT : List FieldType) (T : mm_T) (own : String) (oc : Nat) (pool : Nat → Option mm_P) : Prop :=
  (∀ x ci k, pool x = some (.inl (ci, k)) → ∃ r : vw_C, cl[ci]? = some r ∧ k < r.2.2 ∧ (Jvm.Cond.fieldLink own x (r.2.1 k).1 (r.2.1 k).2.1 (r.2.1 k).2.2.1 ∈ Ts ∨ (ci ≠ oc ∧ ∃ host, Jvm.Cond.fieldLinkNest own x (r.2.1 k).1 (r.2.1 k).2.1 (r.2.1 k).2.2.1 host ∈ Ts)) ∧ (ci = oc → (r.2.1 k).1 = own)) ∧
  (∀ x ci, pool x = some (.inr (.inr (.inl ci))) → ∃ C : String, Jvm.Cond.classLink own x C ∈ Ts ∧ (∀ r : vw_C, cl[ci]? = some r → r.1 = C ∧ Jvm.Cond.instantiable C r.2.2 ∈ Ts ∧ Jvm.Cond.initialized C ∈ Ts) ∧ (3 ≤ mm_ka T ci → mm_ka T ci < mm_nk T → aT[mm_ka T ci]? = some (.object C))) ∧
  (∀ x v, pool x = some (.inr (.inr (.inr (.inl v)))) → Jvm.Cond.constant own x v ∈ Ts) ∧
  (∀ x v, pool x = some (.inr (.inr (.inr (.inr (.inl v))))) → Jvm.Cond.constantLong own x v ∈ Ts)
theorem mm_fit_ok {φ : Nat → Nat} {ty : FieldType} {v : Value} (h : mm_fit ty v = true) : narrow ty (mm_tv φ v) = mm_tv φ v ∧ fits ty (mm_tv φ v) = true := by
  unfold mm_fit at h
  split at h
  · exact ⟨rfl, rfl⟩
  · exact ⟨rfl, rfl⟩
  · rename_i x
    rcases (by simpa using h : x = 0 ∨ x = 1) with rfl | rfl
    · exact ⟨(show narrow FieldType.boolean (Value.int 0) = Value.int 0 by decide +kernel), (show fits FieldType.boolean (Value.int 0) = true by decide +kernel)⟩
    · exact ⟨(show narrow FieldType.boolean (Value.int 1) = Value.int 1 by decide +kernel), (show fits FieldType.boolean (Value.int 1) = true by decide +kernel)⟩
  all_goals first | (exact ⟨rfl, rfl⟩) | (cases h)
theorem mm_inb_ok {j : Int32} {n : Nat} (h : mm_inb j n = true) : vp_in j n := by
  rw [vp_in_iff]
  unfold mm_inb at h
  rw [Bool.and_eq_true, decide_eq_true_eq, decide_eq_true_eq] at h
  exact h
