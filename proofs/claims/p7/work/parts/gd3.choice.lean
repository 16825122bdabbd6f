/-! the evaluator with a quick choice of what to do -/
noncomputable def fy_mm (o : Option mm_Kf) (S : fx_S) : Option fx_R := match o with
  | some (pc, L, st, _) => some (.inl (pc, L, st, S), [])
  | none => none
noncomputable def fy_ok (o : Option fx_K) : Option fx_R := match o with
  | some k => some (.inl k, [])
  | none => none
noncomputable def fy_bk (b : Bool) (x : Option fx_R) : Option fx_R := bif b then x else none
noncomputable def fy_inc (L : mm_L) (i : Nat) (n : Int) (nx : Nat) (st : List Value) (S : fx_S) : Option fx_R := match mm_ld L i with
  | some (.int x) => if i < L.length then fx_fi (x + Int32.ofInt n) (fun y => some (.inl (nx, mm_s1 L i (.int y), st, S), [])) else none
  | _ => none
noncomputable def fy_a2 (h : Int32 → Int32 → Int32) (nx : Nat) (L : mm_L) (st : List Value) (S : fx_S) : Option fx_R := match st with
  | .int y :: .int x :: r => fx_fi (h x y) (fun z => some (.inl (nx, L, .int z :: r, S), []))
  | _ => none
noncomputable def fy_i1 (os : fx_O) (f pc : Nat) (o : ClassFile.Cond) (nx tg : Nat) (L : mm_L) (st : List Value) (S : fx_S) : Option fx_R := match fx_or os f pc with
  | none => fy_mm (mm_if1 o nx tg L st fx_S9) S
  | some v => match st with
    | .int x :: r => some (.inl (if v = 1 then tg else nx, L, r, S), [mm_icmp o x 0 == (v == 1)])
    | _ => none
noncomputable def fy_i2 (os : fx_O) (f pc : Nat) (o : ClassFile.Cond) (nx tg : Nat) (L : mm_L) (st : List Value) (S : fx_S) : Option fx_R := match fx_or os f pc with
  | none => fy_mm (mm_if2 o nx tg L st fx_S9) S
  | some v => match st with
    | .int y :: .int x :: r => some (.inl (if v = 1 then tg else nx, L, r, S), [mm_icmp o x y == (v == 1)])
    | _ => none
noncomputable def fy_ret (G : mm_G) (f : Nat) (st : List Value) (S : fx_S) : Option fx_R := match st, mm_rt G f with
  | [], none => some (.inr (.inl none, S), [])
  | _, _ => none
noncomputable def fy_iret (G : mm_G) (f : Nat) (st : List Value) (S : fx_S) : Option fx_R := match st, mm_rt G f with
  | [.int v], some .int => some (.inr (.inl (some (.int v)), S), [])
  | [.int v], some .boolean => if v = 0 ∨ v = 1 then some (.inr (.inl (some (.int v)), S), []) else none
  | _, _ => none
noncomputable def fy_isp (G : mm_G) (T : mm_T) (X : fx_X) (f pc nx : Nat) (L : mm_L) (st : List Value) (S : fx_S) (x : Nat) : Option fx_R := match mm_pool G f x with
  | some (.inr (.inl 0)) => match st with
    | .ref _ :: r => if (r.map Value.category).sum ≤ 8 then some (.inl (nx, L, r, S), []) else none
    | _ => none
  | some (.inr (.inl (g + 1))) => if mm_stc G (g + 1) = false ∧ mm_ini G (g + 1) = true then fx_cl G T X f (g + 1) pc nx L st S else none
  | _ => none
noncomputable def fy_ivi (G : mm_G) (T : mm_T) (X : fx_X) (f pc nx : Nat) (L : mm_L) (st : List Value) (S : fx_S) (x : Nat) : Option fx_R := match mm_pool G f x with
  | some (.inr (.inl (g + 1))) => if mm_stc G (g + 1) = false ∧ mm_ini G (g + 1) = false then fx_cl G T X f (g + 1) pc nx L st S else none
  | _ => none
noncomputable def fy_ist (G : mm_G) (T : mm_T) (X : fx_X) (f pc nx : Nat) (L : mm_L) (st : List Value) (S : fx_S) (x : Nat) : Option fx_R := match mm_pool G f x with
  | some (.inr (.inl (g + 1))) => if mm_stc G (g + 1) = true then fx_cl G T X f (g + 1) pc nx L st S else none
  | _ => none
abbrev fy_F : Type := mm_G → mm_T → fx_sc → fx_O → fx_X → Nat → Nat → Nat → Nat → mm_L → List Value → fx_S → Int → Nat → Option fx_R
noncomputable def fy_0 : fy_F := fun G T scr os X f pc nx tg L st S a b => fy_mm (mm_lA L b nx st fx_S9) S
noncomputable def fy_1 : fy_F := fun G T scr os X f pc nx tg L st S a b => fy_mm (mm_lA L 0 nx st fx_S9) S
noncomputable def fy_2 : fy_F := fun G T scr os X f pc nx tg L st S a b => fy_mm (mm_lA L 1 nx st fx_S9) S
noncomputable def fy_3 : fy_F := fun G T scr os X f pc nx tg L st S a b => fy_mm (mm_lA L 2 nx st fx_S9) S
noncomputable def fy_4 : fy_F := fun G T scr os X f pc nx tg L st S a b => fy_mm (mm_lA L 3 nx st fx_S9) S
noncomputable def fy_5 : fy_F := fun G T scr os X f pc nx tg L st S a b => fy_mm (mm_lI L b nx st fx_S9) S
noncomputable def fy_6 : fy_F := fun G T scr os X f pc nx tg L st S a b => fy_mm (mm_lI L 0 nx st fx_S9) S
noncomputable def fy_7 : fy_F := fun G T scr os X f pc nx tg L st S a b => fy_mm (mm_lI L 1 nx st fx_S9) S
noncomputable def fy_8 : fy_F := fun G T scr os X f pc nx tg L st S a b => fy_mm (mm_lI L 2 nx st fx_S9) S
noncomputable def fy_9 : fy_F := fun G T scr os X f pc nx tg L st S a b => fy_mm (mm_lI L 3 nx st fx_S9) S
noncomputable def fy_10 : fy_F := fun G T scr os X f pc nx tg L st S a b => fy_mm (mm_lJ L b nx st fx_S9) S
noncomputable def fy_11 : fy_F := fun G T scr os X f pc nx tg L st S a b => fy_mm (mm_lJ L 0 nx st fx_S9) S
noncomputable def fy_12 : fy_F := fun G T scr os X f pc nx tg L st S a b => fy_mm (mm_lJ L 1 nx st fx_S9) S
noncomputable def fy_13 : fy_F := fun G T scr os X f pc nx tg L st S a b => fy_mm (mm_lJ L 2 nx st fx_S9) S
noncomputable def fy_14 : fy_F := fun G T scr os X f pc nx tg L st S a b => fy_mm (mm_lJ L 3 nx st fx_S9) S
noncomputable def fy_15 : fy_F := fun G T scr os X f pc nx tg L st S a b => fy_mm (mm_sI L b nx st fx_S9) S
noncomputable def fy_16 : fy_F := fun G T scr os X f pc nx tg L st S a b => fy_mm (mm_sI L 0 nx st fx_S9) S
noncomputable def fy_17 : fy_F := fun G T scr os X f pc nx tg L st S a b => fy_mm (mm_sI L 1 nx st fx_S9) S
noncomputable def fy_18 : fy_F := fun G T scr os X f pc nx tg L st S a b => fy_mm (mm_sI L 2 nx st fx_S9) S
noncomputable def fy_19 : fy_F := fun G T scr os X f pc nx tg L st S a b => fy_mm (mm_sI L 3 nx st fx_S9) S
noncomputable def fy_20 : fy_F := fun G T scr os X f pc nx tg L st S a b => fy_mm (mm_sA L b nx st fx_S9) S
noncomputable def fy_21 : fy_F := fun G T scr os X f pc nx tg L st S a b => fy_mm (mm_sA L 0 nx st fx_S9) S
noncomputable def fy_22 : fy_F := fun G T scr os X f pc nx tg L st S a b => fy_mm (mm_sA L 1 nx st fx_S9) S
noncomputable def fy_23 : fy_F := fun G T scr os X f pc nx tg L st S a b => fy_mm (mm_sA L 2 nx st fx_S9) S
noncomputable def fy_24 : fy_F := fun G T scr os X f pc nx tg L st S a b => fy_mm (mm_sA L 3 nx st fx_S9) S
noncomputable def fy_25 : fy_F := fun G T scr os X f pc nx tg L st S a b => fy_mm (mm_sJ L b nx st fx_S9) S
noncomputable def fy_26 : fy_F := fun G T scr os X f pc nx tg L st S a b => fy_mm (mm_sJ L 0 nx st fx_S9) S
noncomputable def fy_27 : fy_F := fun G T scr os X f pc nx tg L st S a b => fy_mm (mm_sJ L 1 nx st fx_S9) S
noncomputable def fy_28 : fy_F := fun G T scr os X f pc nx tg L st S a b => fy_mm (mm_sJ L 2 nx st fx_S9) S
noncomputable def fy_29 : fy_F := fun G T scr os X f pc nx tg L st S a b => fy_mm (mm_sJ L 3 nx st fx_S9) S
noncomputable def fy_30 : fy_F := fun G T scr os X f pc nx tg L st S a b => fy_mm (some (nx, L, .int (Int32.ofInt (-1)) :: st, fx_S9)) S
noncomputable def fy_31 : fy_F := fun G T scr os X f pc nx tg L st S a b => fy_mm (some (nx, L, .int (Int32.ofInt (0)) :: st, fx_S9)) S
noncomputable def fy_32 : fy_F := fun G T scr os X f pc nx tg L st S a b => fy_mm (some (nx, L, .int (Int32.ofInt (1)) :: st, fx_S9)) S
noncomputable def fy_33 : fy_F := fun G T scr os X f pc nx tg L st S a b => fy_mm (some (nx, L, .int (Int32.ofInt (2)) :: st, fx_S9)) S
noncomputable def fy_34 : fy_F := fun G T scr os X f pc nx tg L st S a b => fy_mm (some (nx, L, .int (Int32.ofInt (3)) :: st, fx_S9)) S
noncomputable def fy_35 : fy_F := fun G T scr os X f pc nx tg L st S a b => fy_mm (some (nx, L, .int (Int32.ofInt (4)) :: st, fx_S9)) S
noncomputable def fy_36 : fy_F := fun G T scr os X f pc nx tg L st S a b => fy_mm (some (nx, L, .int (Int32.ofInt (5)) :: st, fx_S9)) S
noncomputable def fy_37 : fy_F := fun G T scr os X f pc nx tg L st S a b => fy_mm (some (nx, L, .int (Int8.ofInt a).toInt32 :: st, fx_S9)) S
noncomputable def fy_38 : fy_F := fun G T scr os X f pc nx tg L st S a b => fy_mm (some (nx, L, .int (Int16.ofInt a).toInt32 :: st, fx_S9)) S
noncomputable def fy_39 : fy_F := fun G T scr os X f pc nx tg L st S a b => fy_mm (some (nx, L, .long (Int64.ofNat 0) :: st, fx_S9)) S
noncomputable def fy_40 : fy_F := fun G T scr os X f pc nx tg L st S a b => fy_mm (some (nx, L, .long (Int64.ofNat 1) :: st, fx_S9)) S
noncomputable def fy_41 : fy_F := fun G T scr os X f pc nx tg L st S a b => fy_inc L b a nx st S
noncomputable def fy_42 : fy_F := fun G T scr os X f pc nx tg L st S a b => fy_mm (mm_dup nx L st fx_S9) S
noncomputable def fy_43 : fy_F := fun G T scr os X f pc nx tg L st S a b => fy_a2 (fun x y => x + y) nx L st S
noncomputable def fy_44 : fy_F := fun G T scr os X f pc nx tg L st S a b => fy_a2 (fun x y => x - y) nx L st S
noncomputable def fy_45 : fy_F := fun G T scr os X f pc nx tg L st S a b => fy_a2 (fun x y => x * y) nx L st S
noncomputable def fy_46 : fy_F := fun G T scr os X f pc nx tg L st S a b => fy_mm (mm_mp (mm_i2 st fun x y => .int (x &&& y)) nx L fx_S9) S
noncomputable def fy_47 : fy_F := fun G T scr os X f pc nx tg L st S a b => fy_mm (mm_mp (mm_i1 st fun x => .long x.toInt64) nx L fx_S9) S
noncomputable def fy_48 : fy_F := fun G T scr os X f pc nx tg L st S a b => fy_mm (mm_mp (mm_j1 st fun x => .int x.toInt32) nx L fx_S9) S
noncomputable def fy_49 : fy_F := fun G T scr os X f pc nx tg L st S a b => fy_mm (mm_mp (mm_j2 st fun x y => .long (x &&& y)) nx L fx_S9) S
noncomputable def fy_50 : fy_F := fun G T scr os X f pc nx tg L st S a b => fy_mm (mm_mp (mm_ji st fun x y => .long (x.toUInt64 >>> (y.toInt64.toUInt64 &&& Int64.toUInt64 63)).toInt64) nx L fx_S9) S
noncomputable def fy_51 : fy_F := fun G T scr os X f pc nx tg L st S a b => fy_mm (mm_mp (mm_i2 st fun x y => .int (x.toUInt32 >>> (y.toUInt32 &&& Int32.toUInt32 31)).toInt32) nx L fx_S9) S
noncomputable def fy_52 : fy_F := fun G T scr os X f pc nx tg L st S a b => fy_mm (mm_mp (mm_j2 st fun x y => .int (lg_cmp x y)) nx L fx_S9) S
noncomputable def fy_53 : fy_F := fun G T scr os X f pc nx tg L st S a b => fy_mm (some (tg, L, st, fx_S9)) S
noncomputable def fy_54 : fy_F := fun G T scr os X f pc nx tg L st S a b => fy_mm (mm_dx1 nx L st fx_S9) S
noncomputable def fy_55 : fy_F := fun G T scr os X f pc nx tg L st S a b => fy_i1 os f pc .eq nx tg L st S
noncomputable def fy_56 : fy_F := fun G T scr os X f pc nx tg L st S a b => fy_i2 os f pc .eq nx tg L st S
noncomputable def fy_57 : fy_F := fun G T scr os X f pc nx tg L st S a b => fy_i1 os f pc .ne nx tg L st S
noncomputable def fy_58 : fy_F := fun G T scr os X f pc nx tg L st S a b => fy_i2 os f pc .ne nx tg L st S
noncomputable def fy_59 : fy_F := fun G T scr os X f pc nx tg L st S a b => fy_i1 os f pc .lt nx tg L st S
noncomputable def fy_60 : fy_F := fun G T scr os X f pc nx tg L st S a b => fy_i2 os f pc .lt nx tg L st S
noncomputable def fy_61 : fy_F := fun G T scr os X f pc nx tg L st S a b => fy_i1 os f pc .ge nx tg L st S
noncomputable def fy_62 : fy_F := fun G T scr os X f pc nx tg L st S a b => fy_i2 os f pc .ge nx tg L st S
noncomputable def fy_63 : fy_F := fun G T scr os X f pc nx tg L st S a b => fy_i1 os f pc .gt nx tg L st S
noncomputable def fy_64 : fy_F := fun G T scr os X f pc nx tg L st S a b => fy_i2 os f pc .gt nx tg L st S
noncomputable def fy_65 : fy_F := fun G T scr os X f pc nx tg L st S a b => fy_i1 os f pc .le nx tg L st S
noncomputable def fy_66 : fy_F := fun G T scr os X f pc nx tg L st S a b => fy_i2 os f pc .le nx tg L st S
noncomputable def fy_67 : fy_F := fun G T scr os X f pc nx tg L st S a b => fy_ok (fx_gf (mm_pool G f) b nx L st S)
noncomputable def fy_68 : fy_F := fun G T scr os X f pc nx tg L st S a b => fy_ok (fx_pf T (mm_ini G f) (mm_oc G f) (mm_pool G f) b nx L st S)
noncomputable def fy_69 : fy_F := fun G T scr os X f pc nx tg L st S a b => fy_ok (fx_ia scr nx L st S)
noncomputable def fy_70 : fy_F := fun G T scr os X f pc nx tg L st S a b => fy_ok (fx_za nx L st S)
noncomputable def fy_71 : fy_F := fun G T scr os X f pc nx tg L st S a b => fy_ok (fx_ja nx L st S)
noncomputable def fy_72 : fy_F := fun G T scr os X f pc nx tg L st S a b => fy_ok (fx_aa T nx L st S)
noncomputable def fy_73 : fy_F := fun G T scr os X f pc nx tg L st S a b => fy_ok (fx_is nx L st S)
noncomputable def fy_74 : fy_F := fun G T scr os X f pc nx tg L st S a b => fy_ok (fx_zs nx L st S)
noncomputable def fy_75 : fy_F := fun G T scr os X f pc nx tg L st S a b => fy_ok (fx_js nx L st S)
noncomputable def fy_76 : fy_F := fun G T scr os X f pc nx tg L st S a b => fy_ok (fx_as T nx L st S)
noncomputable def fy_77 : fy_F := fun G T scr os X f pc nx tg L st S a b => fy_ok (fx_al T scr nx L st S)
noncomputable def fy_78 : fy_F := fun G T scr os X f pc nx tg L st S a b => fy_ok (fx_nw T (mm_pool G f) b nx L st S)
noncomputable def fy_79 : fy_F := fun G T scr os X f pc nx tg L st S a b => fy_ok (fx_na T .int nx L st S)
noncomputable def fy_80 : fy_F := fun G T scr os X f pc nx tg L st S a b => fy_ok (fx_na T .long nx L st S)
noncomputable def fy_81 : fy_F := fun G T scr os X f pc nx tg L st S a b => fy_ok (fx_na T .boolean nx L st S)
noncomputable def fy_82 : fy_F := fun G T scr os X f pc nx tg L st S a b => fy_ok (fx_nq T (mm_pool G f) b nx L st S)
noncomputable def fy_83 : fy_F := fun G T scr os X f pc nx tg L st S a b => fy_mm (mm_lc1 (mm_pool G f) b nx L st fx_S9) S
noncomputable def fy_84 : fy_F := fun G T scr os X f pc nx tg L st S a b => fy_mm (mm_lc2 (mm_pool G f) b nx L st fx_S9) S
noncomputable def fy_85 : fy_F := fun G T scr os X f pc nx tg L st S a b => fy_mm (mm_lcw (mm_pool G f) b nx L st fx_S9) S
noncomputable def fy_86 : fy_F := fun G T scr os X f pc nx tg L st S a b => fy_ret G f st S
noncomputable def fy_87 : fy_F := fun G T scr os X f pc nx tg L st S a b => fy_iret G f st S
noncomputable def fy_88 : fy_F := fun G T scr os X f pc nx tg L st S a b => fy_isp G T X f pc nx L st S b
noncomputable def fy_89 : fy_F := fun G T scr os X f pc nx tg L st S a b => fy_ivi G T X f pc nx L st S b
noncomputable def fy_90 : fy_F := fun G T scr os X f pc nx tg L st S a b => fy_ist G T X f pc nx L st S b
noncomputable def fy_91 : fy_F := fun G T scr os X f pc nx tg L st S a b => fy_a2 (fun x y => x <<< (y &&& 31)) nx L st S
noncomputable def fy_92 : fy_F := fun G T scr os X f pc nx tg L st S a b => fy_a2 (fun x y => x ||| y) nx L st S
noncomputable def fy_93 : fy_F := fun G T scr os X f pc nx tg L st S a b => fy_mm (mm_mp (mm_i2 st fun x y => .int (x >>> (y &&& 31))) nx L fx_S9) S
noncomputable def fy_94 : fy_F := fun G T scr os X f pc nx tg L st S a b => fy_mm (mm_mp (mm_j2 st fun x y => .long (x + y)) nx L fx_S9) S
noncomputable def fy_95 : fy_F := fun G T scr os X f pc nx tg L st S a b => fy_mm (mm_mp (mm_j2 st fun x y => .long (x * y)) nx L fx_S9) S
noncomputable def fy_96 : fy_F := fun G T scr os X f pc nx tg L st S a b => fy_mm (mm_mp (mm_j2 st fun x y => .long (x ||| y)) nx L fx_S9) S
noncomputable def fy_97 : fy_F := fun G T scr os X f pc nx tg L st S a b => fy_mm (mm_mp (mm_ji st fun x y => .long (x <<< (y.toInt64 &&& 63))) nx L fx_S9) S
noncomputable def fy_98 : fy_F := fun G T scr os X f pc nx tg L st S a b => fy_mm (mm_mp (mm_ji st fun x y => .long (x >>> (y.toInt64 &&& 63))) nx L fx_S9) S
noncomputable def fy_tab : List (List fy_F) := [[fy_0, fy_1, fy_2, fy_3, fy_4, fy_5, fy_6, fy_7, fy_8, fy_9], [fy_10, fy_11, fy_12, fy_13, fy_14, fy_15, fy_16, fy_17, fy_18, fy_19], [fy_20, fy_21, fy_22, fy_23, fy_24, fy_25, fy_26, fy_27, fy_28, fy_29], [fy_30, fy_31, fy_32, fy_33, fy_34, fy_35, fy_36, fy_37, fy_38, fy_39], [fy_40, fy_41, fy_42, fy_43, fy_44, fy_45, fy_46, fy_47, fy_48, fy_49], [fy_50, fy_51, fy_52, fy_53, fy_54, fy_55, fy_56, fy_57, fy_58, fy_59], [fy_60, fy_61, fy_62, fy_63, fy_64, fy_65, fy_66, fy_67, fy_68, fy_69], [fy_70, fy_71, fy_72, fy_73, fy_74, fy_75, fy_76, fy_77, fy_78, fy_79], [fy_80, fy_81, fy_82, fy_83, fy_84, fy_85, fy_86, fy_87, fy_88, fy_89], [fy_90, fy_91, fy_92, fy_93, fy_94, fy_95, fy_96, fy_97, fy_98]]
def fy_dtab : List (List (Int → Nat → Instr)) := [[fun a b => .aload b, fun a b => .aload_n 0, fun a b => .aload_n 1, fun a b => .aload_n 2, fun a b => .aload_n 3, fun a b => .iload b, fun a b => .iload_n 0, fun a b => .iload_n 1, fun a b => .iload_n 2, fun a b => .iload_n 3],
  [fun a b => .lload b, fun a b => .lload_n 0, fun a b => .lload_n 1, fun a b => .lload_n 2, fun a b => .lload_n 3, fun a b => .istore b, fun a b => .istore_n 0, fun a b => .istore_n 1, fun a b => .istore_n 2, fun a b => .istore_n 3],
  [fun a b => .astore b, fun a b => .astore_n 0, fun a b => .astore_n 1, fun a b => .astore_n 2, fun a b => .astore_n 3, fun a b => .lstore b, fun a b => .lstore_n 0, fun a b => .lstore_n 1, fun a b => .lstore_n 2, fun a b => .lstore_n 3],
  [fun a b => .iconst (-1), fun a b => .iconst (0), fun a b => .iconst (1), fun a b => .iconst (2), fun a b => .iconst (3), fun a b => .iconst (4), fun a b => .iconst (5), fun a b => .bipush a, fun a b => .sipush a, fun a b => .lconst 0],
  [fun a b => .lconst 1, fun a b => .iinc b a, fun a b => .dup, fun a b => .iadd, fun a b => .isub, fun a b => .imul, fun a b => .iand, fun a b => .i2l, fun a b => .l2i, fun a b => .land],
  [fun a b => .lushr, fun a b => .iushr, fun a b => .lcmp, fun a b => .goto a, fun a b => .dup_x1, fun a b => .ifCond .eq a, fun a b => .if_icmp .eq a, fun a b => .ifCond .ne a, fun a b => .if_icmp .ne a, fun a b => .ifCond .lt a],
  [fun a b => .if_icmp .lt a, fun a b => .ifCond .ge a, fun a b => .if_icmp .ge a, fun a b => .ifCond .gt a, fun a b => .if_icmp .gt a, fun a b => .ifCond .le a, fun a b => .if_icmp .le a, fun a b => .getfield b, fun a b => .putfield b, fun a b => .iaload],
  [fun a b => .baload, fun a b => .laload, fun a b => .aaload, fun a b => .iastore, fun a b => .bastore, fun a b => .lastore, fun a b => .aastore, fun a b => .arraylength, fun a b => .new b, fun a b => .newarray .int],
  [fun a b => .newarray .long, fun a b => .newarray .boolean, fun a b => .anewarray b, fun a b => .ldc b, fun a b => .ldc2_w b, fun a b => .ldc_w b, fun a b => .return_, fun a b => .ireturn, fun a b => .invokespecial b, fun a b => .invokevirtual b],
  [fun a b => .invokestatic b, fun a b => .ishl, fun a b => .ior, fun a b => .ishr, fun a b => .ladd, fun a b => .lmul, fun a b => .lor, fun a b => .lshl, fun a b => .lshr]]
noncomputable def fy_dec (t : Nat) (a : Int) (b : Nat) : Option Instr := match fx_two fy_dtab t with
  | none => none
  | some g => some (g a b)
abbrev fy_Q : Type := Nat × Int × Nat × Nat × Nat
noncomputable def fy_one (G : mm_G) (T : mm_T) (scr : fx_sc) (os : fx_O) (X : fx_X) (f pc : Nat) (L : mm_L) (st : List Value) (S : fx_S) (q : Option fy_Q) : Option fx_R := match q with
  | none => fx_one G T scr os X f pc L st S (mm_code G f pc)
  | some (t, a, b, nx, tg) => match fx_two fy_tab t with
    | none => none
    | some h => h G T scr os X f pc nx tg L st S a b
noncomputable def fx_nK {β : Type} (k : fx_K) (g : fx_K → β) : β := match k with
  | (pc, L, st, c, s, M) => fx_fn pc (fun pc => fx_nl L (fun L => fx_nl st (fun st => fx_fn c (fun c => fx_fn s (fun s => g (pc, L, st, c, s, M))))))
noncomputable def fy_go (G : mm_G) (T : mm_T) (cd : Nat → Nat → Option fy_Q) (scr : fx_sc) (os : fx_O) (X : fx_X) (f : Nat) (n : Nat) (k : fx_K) (cs : List Bool) : Option fx_R :=
  Nat.rec (motive := fun _ => fx_K → List Bool → Option fx_R) (fun k cs => some (.inl k, cs)) (fun _ ih k cs => match k with
    | (pc, L, st, S) => match fy_one G T scr os X f pc L st S (cd f pc) with
      | none => none
      | some (.inr r, cs') => some (.inr r, cs' ++ cs)
      | some (.inl k', cs') => fx_nK k' (fun k' => ih k' (cs' ++ cs))) n k cs
noncomputable def fy_ev (G : mm_G) (T : mm_T) (cd : Nat → Nat → Option fy_Q) (scr : fx_sc) (os : fx_O) (d : Nat) : fx_X :=
  Nat.rec (motive := fun _ => fx_X) (fun _ _ _ => none) (fun _ ih g as S => if (mm_entry (mm_nl G g) as).length = mm_nl G g then fx_nl (mm_entry (mm_nl G g) as) (fun L => fx_end (fy_go G T cd scr os ih g 1000000 (0, L, [], S) [])) else none) d
