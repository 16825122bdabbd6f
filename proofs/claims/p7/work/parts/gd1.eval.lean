/-! an evaluator of the small machine: memory as lists; branches that are chosen beforehand are noted -/
abbrev fx_C : Type := (Nat × Nat × List (Nat × Value)) ⊕ (Nat × List Value)
abbrev fx_T : Type := List (List (List fx_C))
abbrev fx_S : Type := Nat × Nat × fx_T
abbrev fx_K : Type := Nat × mm_L × List Value × fx_S
abbrev fx_R : Type := (fx_K ⊕ (mm_O × fx_S)) × List Bool
abbrev fx_X : Type := Nat → List Value → fx_S → Option ((mm_O × fx_S) × List Bool)
abbrev fx_O : Type := List (Nat × Nat × Nat)
/-- what is known of the script: its length, its first numbers -/
abbrev fx_sc : Type := Option Nat × List Int32
def fx_vi (o : Option Value) : Int32 := match o with
  | some (.int v) => v
  | _ => 0
def fx_vj (o : Option Value) : Int64 := match o with
  | some (.long v) => v
  | _ => 0
def fx_vr (o : Option Value) : Option Nat := match o with
  | some (.ref b) => some b
  | _ => none
def fx_lk : List (Nat × Value) → Nat → Option Value
  | [], _ => none
  | (i, v) :: r, j => if j = i then some v else fx_lk r j
def fx_da (k : Nat) (us : List (Nat × Value)) : (Nat → Int32) ⊕ (Nat → Int64) ⊕ (Nat → UInt32) ⊕ (Nat → UInt64) ⊕ (Nat → Option Nat) := match k with
  | 0 => .inl (fun j => fx_vi (fx_lk us j))
  | 1 => .inr (.inl (fun j => fx_vj (fx_lk us j)))
  | 2 => .inl (fun j => fx_vi (fx_lk us j))
  | _ => .inr (.inr (.inr (.inr (fun j => fx_vr (fx_lk us j)))))
/-- a cell as the small machine has it -/
def fx_dec (c : fx_C) : mm_E := match c with
  | .inr q => .inr q
  | .inl (k, n, us) => .inl (k, n, fx_da k us)
noncomputable def fx_nth {α : Type} (l : List α) (n : Nat) : Option α := List.rec (motive := fun _ => Nat → Option α) (fun _ => none) (fun a _ ih m => Nat.rec (motive := fun _ => Option α) (some a) (fun q _ => ih q) m) l n
noncomputable def fx_mod {α : Type} (g : α → α) (l : List α) (n : Nat) : List α := List.rec (motive := fun _ => Nat → List α) (fun _ => []) (fun a r ih m => Nat.rec (motive := fun _ => List α) (g a :: r) (fun q _ => a :: ih q) m) l n
/-- what is worked out before one goes on: a number, a list's cells, an int, a list with one place changed -/
noncomputable def fx_fn {β : Type} (n : Nat) (g : Nat → β) : β := Nat.rec (motive := fun _ => β) (g 0) (fun m _ => g (m + 1)) n
noncomputable def fx_nl {α β : Type} (l : List α) (g : List α → β) : β := List.rec (motive := fun _ => (List α → β) → β) (fun g => g []) (fun a _ ih g => ih (fun r => g (a :: r))) l g
noncomputable def fx_fi {β : Type} (x : Int32) (g : Int32 → β) : β := fx_fn x.toBitVec.toNat (fun n => g (Int32.ofNat n))
noncomputable def fx_mk {α β : Type} (h : α → (α → β) → β) (l : List α) (n : Nat) (g : List α → β) : β := List.rec (motive := fun _ => Nat → (List α → β) → β) (fun _ g => g []) (fun a r ih m g => Nat.rec (motive := fun _ => β) (h a (fun b => g (b :: r))) (fun q _ => ih q (fun l => g (a :: l))) m) l n g
noncomputable def fx_look (T : fx_T) (a : Nat) : Option fx_C := match fx_nth T (a / 256) with
  | none => none
  | some u => match fx_nth u (a / 16 % 16) with
    | none => none
    | some w => fx_nth w (a % 16)
noncomputable def fx_set (T : fx_T) (a : Nat) (e : fx_C) : fx_T := fx_mod (fun u => fx_mod (fun w => fx_mod (fun _ => e) w (a % 16)) u (a / 16 % 16)) T (a / 256)
noncomputable def fx_sk {β : Type} (T : fx_T) (a : Nat) (e : fx_C) (g : fx_T → β) : β := fx_mk (fun u g => fx_mk (fun w g => fx_mk (fun _ g => g e) w (a % 16) g) u (a / 16 % 16) g) T (a / 256) g
noncomputable def fx_mem (T : fx_T) (a : Nat) : mm_E := match fx_look T a with
  | none => .inr (0, [])
  | some e => fx_dec e
noncomputable def fx_mS (S : fx_S) : mm_S := match S with
  | (c, s, T) => (c, s, fx_mem T)
noncomputable def fx_mK (k : fx_K) : mm_Kf := match k with
  | (pc, L, st, S) => (pc, L, st, fx_mS S)
noncomputable def fx_fr (c : Nat) (T : fx_T) : Bool := (fx_look T c).isSome
/-- the instructions that write or make cells -/
noncomputable def fx_pf (T : mm_T) (ini : Bool) (oc : Nat) (pool : Nat → Option mm_P) (x nx : Nat) (L : mm_L) (st : List Value) (S : fx_S) : Option fx_K := match S with
  | (c, s, M) => match pool x, st with
    | some (.inl (ci, k)), v :: .ref a :: r => match fx_look M a with
      | some (.inr (c', fs)) => if a < c ∧ c' = ci ∧ k < fs.length ∧ mm_fit (mm_ft T ci k) v = true ∧ (mm_fi T ci k = false ∨ (ini = true ∧ ci = oc)) then fx_nl (fs.set k v) (fun fs => fx_sk M a (.inr (ci, fs)) (fun M => some (nx, L, r, c, s, M))) else none
      | _ => none
    | _, _ => none
noncomputable def fx_is (nx : Nat) (L : mm_L) (st : List Value) (S : fx_S) : Option fx_K := match S with
  | (c, s, M) => match st with
    | .int x :: .int j :: .ref a :: r => match fx_look M a with
      | some (.inl (0, n, us)) => if a < c ∧ mm_inb j n = true then fx_sk M a (.inl (0, n, (j.toNatClampNeg, .int x) :: us)) (fun M => some (nx, L, r, c, s, M)) else none
      | _ => none
    | _ => none
noncomputable def fx_zs (nx : Nat) (L : mm_L) (st : List Value) (S : fx_S) : Option fx_K := match S with
  | (c, s, M) => match st with
    | .int x :: .int j :: .ref a :: r => match fx_look M a with
      | some (.inl (2, n, us)) => if a < c ∧ mm_inb j n = true then fx_sk M a (.inl (2, n, (j.toNatClampNeg, .int (vp_nar .boolean x)) :: us)) (fun M => some (nx, L, r, c, s, M)) else none
      | _ => none
    | _ => none
noncomputable def fx_js (nx : Nat) (L : mm_L) (st : List Value) (S : fx_S) : Option fx_K := match S with
  | (c, s, M) => match st with
    | .long x :: .int j :: .ref a :: r => match fx_look M a with
      | some (.inl (1, n, us)) => if a < c ∧ mm_inb j n = true then fx_sk M a (.inl (1, n, (j.toNatClampNeg, .long x) :: us)) (fun M => some (nx, L, r, c, s, M)) else none
      | _ => none
    | _ => none
noncomputable def fx_as (T : mm_T) (nx : Nat) (L : mm_L) (st : List Value) (S : fx_S) : Option fx_K := match S with
  | (c, s, M) => match st with
    | .ref b :: .int j :: .ref a :: r => match fx_look M a with
      | some (.inl (k + 3, n, us)) => if a < c ∧ mm_inb j n = true ∧ k + 3 < mm_nk T then (if b < c then (match fx_look M b with
          | some (.inr (ci, _)) => if mm_kc T (k + 3) = ci then fx_sk M a (.inl (k + 3, n, (j.toNatClampNeg, .ref b) :: us)) (fun M => some (nx, L, r, c, s, M)) else none
          | _ => none) else (if k = 2 ∧ mm_big < b ∧ b ≤ mm_big + mm_nx T then fx_sk M a (.inl (k + 3, n, (j.toNatClampNeg, .ref b) :: us)) (fun M => some (nx, L, r, c, s, M)) else none)) else none
      | _ => none
    | _ => none
noncomputable def fx_nw (T : mm_T) (pool : Nat → Option mm_P) (x nx : Nat) (L : mm_L) (st : List Value) (S : fx_S) : Option fx_K := match S with
  | (c, s, M) => match pool x with
    | some (.inr (.inr (.inl ci))) => if ((c + 1 ≤ mm_lc T ∧ s + (mm_fd T ci).length ≤ mm_lsl T) ∧ ci < mm_nc T) ∧ fx_fr c M = true then fx_nl (mm_fd T ci) (fun fs => fx_sk M c (.inr (ci, fs)) (fun M => some (nx, L, .ref c :: st, c + 1, s + fs.length, M))) else none
    | _ => none
noncomputable def fx_na (T : mm_T) (t : ArrayType) (nx : Nat) (L : mm_L) (st : List Value) (S : fx_S) : Option fx_K := match S with
  | (c, s, M) => match st with
    | .int x :: r => if (0 ≤ x.toInt ∧ x.toNatClampNeg ≤ 60000000 ∧ c + 1 ≤ mm_lc T ∧ s + x.toNatClampNeg ≤ mm_lsl T) ∧ fx_fr c M = true then (match t with
      | .int => fx_fn x.toNatClampNeg (fun n => fx_sk M c (.inl (0, n, [])) (fun M => some (nx, L, .ref c :: r, c + 1, s + n, M)))
      | .long => fx_fn x.toNatClampNeg (fun n => fx_sk M c (.inl (1, n, [])) (fun M => some (nx, L, .ref c :: r, c + 1, s + n, M)))
      | .boolean => fx_fn x.toNatClampNeg (fun n => fx_sk M c (.inl (2, n, [])) (fun M => some (nx, L, .ref c :: r, c + 1, s + n, M)))
      | _ => none) else none
    | _ => none
noncomputable def fx_nq (T : mm_T) (pool : Nat → Option mm_P) (x nx : Nat) (L : mm_L) (st : List Value) (S : fx_S) : Option fx_K := match S with
  | (c, s, M) => match pool x, st with
    | some (.inr (.inr (.inl ci))), .int n :: r => if (0 ≤ n.toInt ∧ n.toNatClampNeg ≤ 60000000 ∧ c + 1 ≤ mm_lc T ∧ s + n.toNatClampNeg ≤ mm_lsl T ∧ (3 ≤ mm_ka T ci ∧ mm_ka T ci < mm_nk T)) ∧ fx_fr c M = true then fx_fn n.toNatClampNeg (fun q => fx_fn (mm_ka T ci) (fun k => fx_sk M c (.inl (k, q, [])) (fun M => some (nx, L, .ref c :: r, c + 1, s + q, M)))) else none
    | _, _ => none
/-- the instructions that read cells -/
noncomputable def fx_gf (pool : Nat → Option mm_P) (x nx : Nat) (L : mm_L) (st : List Value) (S : fx_S) : Option fx_K := match S with
  | (c, s, M) => match pool x, st with
    | some (.inl (ci, k)), .ref a :: r => match fx_look M a with
      | some (.inr (c', fs)) => if a < c ∧ c' = ci then (match fs[k]? with
        | some v => some (nx, L, v :: r, c, s, M)
        | none => none) else none
      | _ => none
    | _, _ => none
noncomputable def fx_ia (scr : fx_sc) (nx : Nat) (L : mm_L) (st : List Value) (S : fx_S) : Option fx_K := match S, scr with
  | (c, s, M), (_, g) => match st with
    | .int j :: .ref a :: r => if a = mm_big then (if 0 ≤ j.toInt then (match fx_nth g j.toNatClampNeg with
        | some v => some (nx, L, .int v :: r, c, s, M)
        | none => none) else none) else (match fx_look M a with
      | some (.inl (0, n, us)) => if a < c ∧ mm_inb j n = true then some (nx, L, .int (fx_vi (fx_lk us j.toNatClampNeg)) :: r, c, s, M) else none
      | _ => none)
    | _ => none
noncomputable def fx_za (nx : Nat) (L : mm_L) (st : List Value) (S : fx_S) : Option fx_K := match S with
  | (c, s, M) => match st with
    | .int j :: .ref a :: r => match fx_look M a with
      | some (.inl (2, n, us)) => if a < c ∧ mm_inb j n = true then some (nx, L, .int (fx_vi (fx_lk us j.toNatClampNeg)) :: r, c, s, M) else none
      | _ => none
    | _ => none
noncomputable def fx_ja (nx : Nat) (L : mm_L) (st : List Value) (S : fx_S) : Option fx_K := match S with
  | (c, s, M) => match st with
    | .int j :: .ref a :: r => match fx_look M a with
      | some (.inl (1, n, us)) => if a < c ∧ mm_inb j n = true then some (nx, L, .long (fx_vj (fx_lk us j.toNatClampNeg)) :: r, c, s, M) else none
      | _ => none
    | _ => none
noncomputable def fx_aa (T : mm_T) (nx : Nat) (L : mm_L) (st : List Value) (S : fx_S) : Option fx_K := match S with
  | (c, s, M) => match st with
    | .int j :: .ref a :: r => match fx_look M a with
      | some (.inl (k + 3, n, us)) => if a < c ∧ mm_inb j n = true ∧ k + 3 < mm_nk T then some (nx, L, va_rf (fx_vr (fx_lk us j.toNatClampNeg)) :: r, c, s, M) else none
      | _ => none
    | _ => none
noncomputable def fx_al (T : mm_T) (scr : fx_sc) (nx : Nat) (L : mm_L) (st : List Value) (S : fx_S) : Option fx_K := match S, scr with
  | (c, s, M), (q, _) => match st with
    | .ref a :: r => if a = mm_big then (match q with
        | some n => some (nx, L, .int (Int32.ofNat n) :: r, c, s, M)
        | none => none) else (match fx_look M a with
      | some (.inl (k, n, _)) => if a < c ∧ k < mm_nk T then some (nx, L, .int (Int32.ofNat n) :: r, c, s, M) else none
      | _ => none)
    | _ => none
noncomputable def fx_or (os : fx_O) (f pc : Nat) : Option Nat := List.rec (motive := fun _ => Option Nat) none (fun q _ ih => bif Nat.beq q.1 f && Nat.beq q.2.1 pc then some q.2.2 else ih) os
noncomputable def fx_ot (o : Option mm_Kf) (S : fx_S) : Option (fx_K × List Bool) := match o with
  | some (pc, L, st, _) => some ((pc, L, st, S), [])
  | none => none
noncomputable def fx_ok (o : Option fx_K) : Option (fx_K × List Bool) := match o with
  | some k => some (k, [])
  | none => none
/-- the small machine's memory where none is wanted -/
def fx_S9 : mm_S := (0, 0, fun _ => .inr (0, []))
/-- a plain step -/
noncomputable def fx_pl (G : mm_G) (T : mm_T) (scr : fx_sc) (os : fx_O) (f : Nat) (i : Instr) (pc nx tg : Nat) (L : mm_L) (st : List Value) (S : fx_S) : Option (fx_K × List Bool) := match i with
  | .putfield x => fx_ok (fx_pf T (mm_ini G f) (mm_oc G f) (mm_pool G f) x nx L st S)
  | .iastore => fx_ok (fx_is nx L st S)
  | .bastore => fx_ok (fx_zs nx L st S)
  | .lastore => fx_ok (fx_js nx L st S)
  | .aastore => fx_ok (fx_as T nx L st S)
  | .new x => fx_ok (fx_nw T (mm_pool G f) x nx L st S)
  | .newarray t => fx_ok (fx_na T t nx L st S)
  | .anewarray x => fx_ok (fx_nq T (mm_pool G f) x nx L st S)
  | .getfield x => fx_ok (fx_gf (mm_pool G f) x nx L st S)
  | .iaload => fx_ok (fx_ia scr nx L st S)
  | .baload => fx_ok (fx_za nx L st S)
  | .laload => fx_ok (fx_ja nx L st S)
  | .aaload => fx_ok (fx_aa T nx L st S)
  | .arraylength => fx_ok (fx_al T scr nx L st S)
  | .ldc x => fx_ot (mm_lc1 (mm_pool G f) x nx L st fx_S9) S
  | .ldc2_w x => fx_ot (mm_lc2 (mm_pool G f) x nx L st fx_S9) S
  | .ldc_w x => fx_ot (mm_lcw (mm_pool G f) x nx L st fx_S9) S
  | .ifCond o q => match fx_or os f pc with
    | none => fx_ot (mm_if1 o nx tg L st fx_S9) S
    | some v => match st with
      | .int x :: r => some ((if v = 1 then tg else nx, L, r, S), [mm_icmp o x 0 == (v == 1)])
      | _ => none
  | .if_icmp o q => match fx_or os f pc with
    | none => fx_ot (mm_if2 o nx tg L st fx_S9) S
    | some v => match st with
      | .int y :: .int x :: r => some ((if v = 1 then tg else nx, L, r, S), [mm_icmp o x y == (v == 1)])
      | _ => none
  | .tableswitch df lo hi offs => match fx_or os f pc with
    | none => fx_ot (mm_tsw pc df lo hi offs L st fx_S9) S
    | some v => match st with
      | .int x :: r => match mm_tsw pc df lo hi offs L (.int (Int32.ofNat v) :: r) fx_S9 with
        | some (pc', L', st', _) => some ((pc', L', st', S), [decide (x = Int32.ofNat v)])
        | none => none
      | _ => none
  | i => fx_ot (mm_st0 i pc nx tg L st fx_S9) S
noncomputable def fx_rok (stc : Bool) (oc : Nat) (as : List Value) (c : Nat) (M : fx_T) : Bool := stc || (match as with
  | .ref b :: _ => decide (b < c) && (match fx_look M b with
    | some (.inr (c', _)) => decide (c' = oc) && decide (oc ≠ 998)
    | _ => false)
  | _ => false)
noncomputable def fx_cl (G : mm_G) (T : mm_T) (X : fx_X) (f g pc nx : Nat) (L : mm_L) (st : List Value) (S : fx_S) : Option fx_R := match S with
  | (c, s, M) => if (c ≤ mm_lc T ∧ s ≤ mm_lsl T) ∧ mm_na' G g ≤ st.length ∧ ((st.drop (mm_na' G g)).map Value.category).sum ≤ 8 ∧ fx_rok (mm_stc G g) (mm_oc G g) (st.take (mm_na' G g)).reverse c M = true then
      match X g (st.take (mm_na' G g)).reverse (c, s, M) with
      | none => none
      | some ((.inl v, S'), cs) => some (.inl (nx, L, v.toList ++ st.drop (mm_na' G g), S'), cs)
      | some ((.inr (ec, a), (c2, s2, M2)), cs) => match mm_hnd G f pc ec with
        | some (some h) => if a < c2 then (match fx_look M2 a with
          | some (.inr (c', vs)) => if c' = ec then some (.inl (h, L, [.ref a], (c2, s2, M2)), cs) else none
          | _ => none) else none
        | some none => some (.inr (.inr (ec, a), (c2, s2, M2)), cs)
        | none => none
    else none
noncomputable def fx_thr (G : mm_G) (T : mm_T) (scr : fx_sc) (os : fx_O) (f : Nat) (i : Instr) (pc nx tg : Nat) (L : mm_L) (st : List Value) (S : fx_S) : Option fx_R := match mm_thr G f pc with
  | some ec => match S with
    | (c, s, M) => if (c + 1 ≤ mm_lc T ∧ s + 6 ≤ mm_lsl T ∧ (st.map Value.category).sum ≤ 8) ∧ fx_fr c M = true then fx_sk M c (.inr (ec, [])) (fun M => some (.inr (.inr (ec, c), (c + 1, s + 6, M)), [])) else none
  | none => match fx_pl G T scr os f i pc nx tg L st S with
    | some (k, cs) => some (.inl k, cs)
    | none => none
noncomputable def fx_one (G : mm_G) (T : mm_T) (scr : fx_sc) (os : fx_O) (X : fx_X) (f pc : Nat) (L : mm_L) (st : List Value) (S : fx_S) : Option (Instr × Nat × Nat) → Option fx_R
  | none => none
  | some (i, nx, tg) => match i with
    | .return_ => match st, mm_rt G f with
      | [], none => some (.inr (.inl none, S), [])
      | _, _ => none
    | .ireturn => match st, mm_rt G f with
      | [.int v], some .int => some (.inr (.inl (some (.int v)), S), [])
      | [.int v], some .boolean => if v = 0 ∨ v = 1 then some (.inr (.inl (some (.int v)), S), []) else none
      | _, _ => none
    | .lreturn => match st, mm_rt G f with
      | [.long v], some .long => some (.inr (.inl (some (.long v)), S), [])
      | _, _ => none
    | .areturn => match st, mm_rt G f with
      | [.ref a], some (.object _) => some (.inr (.inl (some (.ref a)), S), [])
      | _, _ => none
    | .invokespecial x => match mm_pool G f x with
      | some (.inr (.inl 0)) => match st with
        | .ref _ :: r => if (r.map Value.category).sum ≤ 8 then some (.inl (nx, L, r, S), []) else none
        | _ => none
      | some (.inr (.inl (g + 1))) => if mm_stc G (g + 1) = false ∧ mm_ini G (g + 1) = true then fx_cl G T X f (g + 1) pc nx L st S else none
      | _ => none
    | .invokevirtual x => match mm_pool G f x with
      | some (.inr (.inl (g + 1))) => if mm_stc G (g + 1) = false ∧ mm_ini G (g + 1) = false then fx_cl G T X f (g + 1) pc nx L st S else none
      | _ => none
    | .invokestatic x => match mm_pool G f x with
      | some (.inr (.inl (g + 1))) => if mm_stc G (g + 1) = true then fx_cl G T X f (g + 1) pc nx L st S else none
      | _ => none
    | i => fx_thr G T scr os f i pc nx tg L st S
noncomputable def fx_end (o : Option fx_R) : Option ((mm_O × fx_S) × List Bool) := match o with
  | some (.inr r, cs) => some (r, cs)
  | _ => none
noncomputable def fx_T0 : fx_T := List.replicate 16 (List.replicate 16 (List.replicate 16 (.inr (0, []))))
noncomputable def fx_S0 : fx_S := (0, 0, fx_T0)
