/-! the quick choice is the right one -/
noncomputable def fx_pr (o : Option (fx_K × List Bool)) : Option fx_R := match o with
  | some (k, cs) => some (.inl k, cs)
  | none => none
section FYT
variable {G : mm_G} {T : mm_T} {sc : fx_sc} {os : fx_O} {X : fx_X} {f pc nx tg : Nat} {L : mm_L} {st : List Value} {S : fx_S}
theorem fx_thr_none {i : Instr} (ht : mm_thr G f pc = none) : fx_thr G T sc os f i pc nx tg L st S = fx_pr (fx_pl G T sc os f i pc nx tg L st S) := by
  unfold fx_thr
  rw [ht]
  rfl
theorem fy_mm_eq (o : Option mm_Kf) (S : fx_S) : fy_mm o S = fx_pr (fx_ot o S) := by
  cases o with
  | none => rfl
  | some k => rfl
theorem fy_ok_eq (o : Option fx_K) : fy_ok o = fx_pr (fx_ok o) := by
  cases o with
  | none => rfl
  | some k => rfl
theorem fy_i1_eq (o : ClassFile.Cond) (a : Int) : fy_i1 os f pc o nx tg L st S = fx_pr (fx_pl G T sc os f (.ifCond o a) pc nx tg L st S) := by
  unfold fy_i1 fx_pl
  dsimp only
  cases fx_or os f pc with
  | none => exact fy_mm_eq _ _
  | some v =>
    dsimp only
    split
    · rfl
    · rename_i hne
      first
        | rfl
        | (split
           · first | exact (hne _ _ rfl).elim | exact (hne _ _ _ rfl).elim
           · rfl)
theorem fy_i2_eq (o : ClassFile.Cond) (a : Int) : fy_i2 os f pc o nx tg L st S = fx_pr (fx_pl G T sc os f (.if_icmp o a) pc nx tg L st S) := by
  unfold fy_i2 fx_pl
  dsimp only
  cases fx_or os f pc with
  | none => exact fy_mm_eq _ _
  | some v =>
    dsimp only
    split
    · rfl
    · rename_i hne
      first
        | rfl
        | (split
           · first | exact (hne _ _ rfl).elim | exact (hne _ _ _ rfl).elim
           · rfl)
theorem fy_inc_eq (L : mm_L) (i : Nat) (n : Int) (nx : Nat) (st : List Value) (S : fx_S) : fy_inc L i n nx st S = fx_pr (fx_ot (mm_inc L i n nx st fx_S9) S) := by
  unfold fy_inc mm_inc
  cases mm_ld L i with
  | none => rfl
  | some v =>
    cases v
    case int x =>
      dsimp only
      by_cases hi : i < L.length
      · rw [if_pos hi, if_pos hi, fx_fi_eq]
        rfl
      · rw [if_neg hi, if_neg hi]
        rfl
    all_goals rfl
theorem fy_a2_eq (h : Int32 → Int32 → Int32) (nx : Nat) (L : mm_L) (st : List Value) (S : fx_S) : fy_a2 h nx L st S = fx_pr (fx_ot (mm_mp (mm_i2 st fun x y => .int (h x y)) nx L fx_S9) S) := by
  unfold fy_a2 mm_i2
  rcases st with _ | ⟨a, _ | ⟨b, r⟩⟩
  · rfl
  · cases a <;> rfl
  · cases a
    case int x =>
      cases b
      case int y =>
        dsimp only
        rw [fx_fi_eq]
        rfl
      all_goals rfl
    all_goals rfl
theorem fy_q0 (ht : mm_thr G f pc = none) (a : Int) (b : Nat) : fy_0 G T sc os X f pc nx tg L st S a b = fx_one G T sc os X f pc L st S (some (.aload b, nx, tg)) := (fy_mm_eq _ _).trans (fx_thr_none (G := G) (T := T) (sc := sc) (os := os) (pc := pc) (nx := nx) (tg := tg) (L := L) (st := st) (S := S) (i := .aload b) ht).symm
theorem fy_q1 (ht : mm_thr G f pc = none) (a : Int) (b : Nat) : fy_1 G T sc os X f pc nx tg L st S a b = fx_one G T sc os X f pc L st S (some (.aload_n 0, nx, tg)) := (fy_mm_eq _ _).trans (fx_thr_none (G := G) (T := T) (sc := sc) (os := os) (pc := pc) (nx := nx) (tg := tg) (L := L) (st := st) (S := S) (i := .aload_n 0) ht).symm
theorem fy_q2 (ht : mm_thr G f pc = none) (a : Int) (b : Nat) : fy_2 G T sc os X f pc nx tg L st S a b = fx_one G T sc os X f pc L st S (some (.aload_n 1, nx, tg)) := (fy_mm_eq _ _).trans (fx_thr_none (G := G) (T := T) (sc := sc) (os := os) (pc := pc) (nx := nx) (tg := tg) (L := L) (st := st) (S := S) (i := .aload_n 1) ht).symm
theorem fy_q3 (ht : mm_thr G f pc = none) (a : Int) (b : Nat) : fy_3 G T sc os X f pc nx tg L st S a b = fx_one G T sc os X f pc L st S (some (.aload_n 2, nx, tg)) := (fy_mm_eq _ _).trans (fx_thr_none (G := G) (T := T) (sc := sc) (os := os) (pc := pc) (nx := nx) (tg := tg) (L := L) (st := st) (S := S) (i := .aload_n 2) ht).symm
theorem fy_q4 (ht : mm_thr G f pc = none) (a : Int) (b : Nat) : fy_4 G T sc os X f pc nx tg L st S a b = fx_one G T sc os X f pc L st S (some (.aload_n 3, nx, tg)) := (fy_mm_eq _ _).trans (fx_thr_none (G := G) (T := T) (sc := sc) (os := os) (pc := pc) (nx := nx) (tg := tg) (L := L) (st := st) (S := S) (i := .aload_n 3) ht).symm
theorem fy_q5 (ht : mm_thr G f pc = none) (a : Int) (b : Nat) : fy_5 G T sc os X f pc nx tg L st S a b = fx_one G T sc os X f pc L st S (some (.iload b, nx, tg)) := (fy_mm_eq _ _).trans (fx_thr_none (G := G) (T := T) (sc := sc) (os := os) (pc := pc) (nx := nx) (tg := tg) (L := L) (st := st) (S := S) (i := .iload b) ht).symm
theorem fy_q6 (ht : mm_thr G f pc = none) (a : Int) (b : Nat) : fy_6 G T sc os X f pc nx tg L st S a b = fx_one G T sc os X f pc L st S (some (.iload_n 0, nx, tg)) := (fy_mm_eq _ _).trans (fx_thr_none (G := G) (T := T) (sc := sc) (os := os) (pc := pc) (nx := nx) (tg := tg) (L := L) (st := st) (S := S) (i := .iload_n 0) ht).symm
theorem fy_q7 (ht : mm_thr G f pc = none) (a : Int) (b : Nat) : fy_7 G T sc os X f pc nx tg L st S a b = fx_one G T sc os X f pc L st S (some (.iload_n 1, nx, tg)) := (fy_mm_eq _ _).trans (fx_thr_none (G := G) (T := T) (sc := sc) (os := os) (pc := pc) (nx := nx) (tg := tg) (L := L) (st := st) (S := S) (i := .iload_n 1) ht).symm
theorem fy_q8 (ht : mm_thr G f pc = none) (a : Int) (b : Nat) : fy_8 G T sc os X f pc nx tg L st S a b = fx_one G T sc os X f pc L st S (some (.iload_n 2, nx, tg)) := (fy_mm_eq _ _).trans (fx_thr_none (G := G) (T := T) (sc := sc) (os := os) (pc := pc) (nx := nx) (tg := tg) (L := L) (st := st) (S := S) (i := .iload_n 2) ht).symm
theorem fy_q9 (ht : mm_thr G f pc = none) (a : Int) (b : Nat) : fy_9 G T sc os X f pc nx tg L st S a b = fx_one G T sc os X f pc L st S (some (.iload_n 3, nx, tg)) := (fy_mm_eq _ _).trans (fx_thr_none (G := G) (T := T) (sc := sc) (os := os) (pc := pc) (nx := nx) (tg := tg) (L := L) (st := st) (S := S) (i := .iload_n 3) ht).symm
theorem fy_q10 (ht : mm_thr G f pc = none) (a : Int) (b : Nat) : fy_10 G T sc os X f pc nx tg L st S a b = fx_one G T sc os X f pc L st S (some (.lload b, nx, tg)) := (fy_mm_eq _ _).trans (fx_thr_none (G := G) (T := T) (sc := sc) (os := os) (pc := pc) (nx := nx) (tg := tg) (L := L) (st := st) (S := S) (i := .lload b) ht).symm
theorem fy_q11 (ht : mm_thr G f pc = none) (a : Int) (b : Nat) : fy_11 G T sc os X f pc nx tg L st S a b = fx_one G T sc os X f pc L st S (some (.lload_n 0, nx, tg)) := (fy_mm_eq _ _).trans (fx_thr_none (G := G) (T := T) (sc := sc) (os := os) (pc := pc) (nx := nx) (tg := tg) (L := L) (st := st) (S := S) (i := .lload_n 0) ht).symm
theorem fy_q12 (ht : mm_thr G f pc = none) (a : Int) (b : Nat) : fy_12 G T sc os X f pc nx tg L st S a b = fx_one G T sc os X f pc L st S (some (.lload_n 1, nx, tg)) := (fy_mm_eq _ _).trans (fx_thr_none (G := G) (T := T) (sc := sc) (os := os) (pc := pc) (nx := nx) (tg := tg) (L := L) (st := st) (S := S) (i := .lload_n 1) ht).symm
theorem fy_q13 (ht : mm_thr G f pc = none) (a : Int) (b : Nat) : fy_13 G T sc os X f pc nx tg L st S a b = fx_one G T sc os X f pc L st S (some (.lload_n 2, nx, tg)) := (fy_mm_eq _ _).trans (fx_thr_none (G := G) (T := T) (sc := sc) (os := os) (pc := pc) (nx := nx) (tg := tg) (L := L) (st := st) (S := S) (i := .lload_n 2) ht).symm
theorem fy_q14 (ht : mm_thr G f pc = none) (a : Int) (b : Nat) : fy_14 G T sc os X f pc nx tg L st S a b = fx_one G T sc os X f pc L st S (some (.lload_n 3, nx, tg)) := (fy_mm_eq _ _).trans (fx_thr_none (G := G) (T := T) (sc := sc) (os := os) (pc := pc) (nx := nx) (tg := tg) (L := L) (st := st) (S := S) (i := .lload_n 3) ht).symm
theorem fy_q15 (ht : mm_thr G f pc = none) (a : Int) (b : Nat) : fy_15 G T sc os X f pc nx tg L st S a b = fx_one G T sc os X f pc L st S (some (.istore b, nx, tg)) := (fy_mm_eq _ _).trans (fx_thr_none (G := G) (T := T) (sc := sc) (os := os) (pc := pc) (nx := nx) (tg := tg) (L := L) (st := st) (S := S) (i := .istore b) ht).symm
theorem fy_q16 (ht : mm_thr G f pc = none) (a : Int) (b : Nat) : fy_16 G T sc os X f pc nx tg L st S a b = fx_one G T sc os X f pc L st S (some (.istore_n 0, nx, tg)) := (fy_mm_eq _ _).trans (fx_thr_none (G := G) (T := T) (sc := sc) (os := os) (pc := pc) (nx := nx) (tg := tg) (L := L) (st := st) (S := S) (i := .istore_n 0) ht).symm
theorem fy_q17 (ht : mm_thr G f pc = none) (a : Int) (b : Nat) : fy_17 G T sc os X f pc nx tg L st S a b = fx_one G T sc os X f pc L st S (some (.istore_n 1, nx, tg)) := (fy_mm_eq _ _).trans (fx_thr_none (G := G) (T := T) (sc := sc) (os := os) (pc := pc) (nx := nx) (tg := tg) (L := L) (st := st) (S := S) (i := .istore_n 1) ht).symm
theorem fy_q18 (ht : mm_thr G f pc = none) (a : Int) (b : Nat) : fy_18 G T sc os X f pc nx tg L st S a b = fx_one G T sc os X f pc L st S (some (.istore_n 2, nx, tg)) := (fy_mm_eq _ _).trans (fx_thr_none (G := G) (T := T) (sc := sc) (os := os) (pc := pc) (nx := nx) (tg := tg) (L := L) (st := st) (S := S) (i := .istore_n 2) ht).symm
theorem fy_q19 (ht : mm_thr G f pc = none) (a : Int) (b : Nat) : fy_19 G T sc os X f pc nx tg L st S a b = fx_one G T sc os X f pc L st S (some (.istore_n 3, nx, tg)) := (fy_mm_eq _ _).trans (fx_thr_none (G := G) (T := T) (sc := sc) (os := os) (pc := pc) (nx := nx) (tg := tg) (L := L) (st := st) (S := S) (i := .istore_n 3) ht).symm
theorem fy_q20 (ht : mm_thr G f pc = none) (a : Int) (b : Nat) : fy_20 G T sc os X f pc nx tg L st S a b = fx_one G T sc os X f pc L st S (some (.astore b, nx, tg)) := (fy_mm_eq _ _).trans (fx_thr_none (G := G) (T := T) (sc := sc) (os := os) (pc := pc) (nx := nx) (tg := tg) (L := L) (st := st) (S := S) (i := .astore b) ht).symm
theorem fy_q21 (ht : mm_thr G f pc = none) (a : Int) (b : Nat) : fy_21 G T sc os X f pc nx tg L st S a b = fx_one G T sc os X f pc L st S (some (.astore_n 0, nx, tg)) := (fy_mm_eq _ _).trans (fx_thr_none (G := G) (T := T) (sc := sc) (os := os) (pc := pc) (nx := nx) (tg := tg) (L := L) (st := st) (S := S) (i := .astore_n 0) ht).symm
theorem fy_q22 (ht : mm_thr G f pc = none) (a : Int) (b : Nat) : fy_22 G T sc os X f pc nx tg L st S a b = fx_one G T sc os X f pc L st S (some (.astore_n 1, nx, tg)) := (fy_mm_eq _ _).trans (fx_thr_none (G := G) (T := T) (sc := sc) (os := os) (pc := pc) (nx := nx) (tg := tg) (L := L) (st := st) (S := S) (i := .astore_n 1) ht).symm
theorem fy_q23 (ht : mm_thr G f pc = none) (a : Int) (b : Nat) : fy_23 G T sc os X f pc nx tg L st S a b = fx_one G T sc os X f pc L st S (some (.astore_n 2, nx, tg)) := (fy_mm_eq _ _).trans (fx_thr_none (G := G) (T := T) (sc := sc) (os := os) (pc := pc) (nx := nx) (tg := tg) (L := L) (st := st) (S := S) (i := .astore_n 2) ht).symm
theorem fy_q24 (ht : mm_thr G f pc = none) (a : Int) (b : Nat) : fy_24 G T sc os X f pc nx tg L st S a b = fx_one G T sc os X f pc L st S (some (.astore_n 3, nx, tg)) := (fy_mm_eq _ _).trans (fx_thr_none (G := G) (T := T) (sc := sc) (os := os) (pc := pc) (nx := nx) (tg := tg) (L := L) (st := st) (S := S) (i := .astore_n 3) ht).symm
theorem fy_q25 (ht : mm_thr G f pc = none) (a : Int) (b : Nat) : fy_25 G T sc os X f pc nx tg L st S a b = fx_one G T sc os X f pc L st S (some (.lstore b, nx, tg)) := (fy_mm_eq _ _).trans (fx_thr_none (G := G) (T := T) (sc := sc) (os := os) (pc := pc) (nx := nx) (tg := tg) (L := L) (st := st) (S := S) (i := .lstore b) ht).symm
theorem fy_q26 (ht : mm_thr G f pc = none) (a : Int) (b : Nat) : fy_26 G T sc os X f pc nx tg L st S a b = fx_one G T sc os X f pc L st S (some (.lstore_n 0, nx, tg)) := (fy_mm_eq _ _).trans (fx_thr_none (G := G) (T := T) (sc := sc) (os := os) (pc := pc) (nx := nx) (tg := tg) (L := L) (st := st) (S := S) (i := .lstore_n 0) ht).symm
theorem fy_q27 (ht : mm_thr G f pc = none) (a : Int) (b : Nat) : fy_27 G T sc os X f pc nx tg L st S a b = fx_one G T sc os X f pc L st S (some (.lstore_n 1, nx, tg)) := (fy_mm_eq _ _).trans (fx_thr_none (G := G) (T := T) (sc := sc) (os := os) (pc := pc) (nx := nx) (tg := tg) (L := L) (st := st) (S := S) (i := .lstore_n 1) ht).symm
theorem fy_q28 (ht : mm_thr G f pc = none) (a : Int) (b : Nat) : fy_28 G T sc os X f pc nx tg L st S a b = fx_one G T sc os X f pc L st S (some (.lstore_n 2, nx, tg)) := (fy_mm_eq _ _).trans (fx_thr_none (G := G) (T := T) (sc := sc) (os := os) (pc := pc) (nx := nx) (tg := tg) (L := L) (st := st) (S := S) (i := .lstore_n 2) ht).symm
theorem fy_q29 (ht : mm_thr G f pc = none) (a : Int) (b : Nat) : fy_29 G T sc os X f pc nx tg L st S a b = fx_one G T sc os X f pc L st S (some (.lstore_n 3, nx, tg)) := (fy_mm_eq _ _).trans (fx_thr_none (G := G) (T := T) (sc := sc) (os := os) (pc := pc) (nx := nx) (tg := tg) (L := L) (st := st) (S := S) (i := .lstore_n 3) ht).symm
theorem fy_q30 (ht : mm_thr G f pc = none) (a : Int) (b : Nat) : fy_30 G T sc os X f pc nx tg L st S a b = fx_one G T sc os X f pc L st S (some (.iconst (-1), nx, tg)) := (fy_mm_eq _ _).trans (fx_thr_none (G := G) (T := T) (sc := sc) (os := os) (pc := pc) (nx := nx) (tg := tg) (L := L) (st := st) (S := S) (i := .iconst (-1)) ht).symm
theorem fy_q31 (ht : mm_thr G f pc = none) (a : Int) (b : Nat) : fy_31 G T sc os X f pc nx tg L st S a b = fx_one G T sc os X f pc L st S (some (.iconst (0), nx, tg)) := (fy_mm_eq _ _).trans (fx_thr_none (G := G) (T := T) (sc := sc) (os := os) (pc := pc) (nx := nx) (tg := tg) (L := L) (st := st) (S := S) (i := .iconst (0)) ht).symm
theorem fy_q32 (ht : mm_thr G f pc = none) (a : Int) (b : Nat) : fy_32 G T sc os X f pc nx tg L st S a b = fx_one G T sc os X f pc L st S (some (.iconst (1), nx, tg)) := (fy_mm_eq _ _).trans (fx_thr_none (G := G) (T := T) (sc := sc) (os := os) (pc := pc) (nx := nx) (tg := tg) (L := L) (st := st) (S := S) (i := .iconst (1)) ht).symm
theorem fy_q33 (ht : mm_thr G f pc = none) (a : Int) (b : Nat) : fy_33 G T sc os X f pc nx tg L st S a b = fx_one G T sc os X f pc L st S (some (.iconst (2), nx, tg)) := (fy_mm_eq _ _).trans (fx_thr_none (G := G) (T := T) (sc := sc) (os := os) (pc := pc) (nx := nx) (tg := tg) (L := L) (st := st) (S := S) (i := .iconst (2)) ht).symm
theorem fy_q34 (ht : mm_thr G f pc = none) (a : Int) (b : Nat) : fy_34 G T sc os X f pc nx tg L st S a b = fx_one G T sc os X f pc L st S (some (.iconst (3), nx, tg)) := (fy_mm_eq _ _).trans (fx_thr_none (G := G) (T := T) (sc := sc) (os := os) (pc := pc) (nx := nx) (tg := tg) (L := L) (st := st) (S := S) (i := .iconst (3)) ht).symm
theorem fy_q35 (ht : mm_thr G f pc = none) (a : Int) (b : Nat) : fy_35 G T sc os X f pc nx tg L st S a b = fx_one G T sc os X f pc L st S (some (.iconst (4), nx, tg)) := (fy_mm_eq _ _).trans (fx_thr_none (G := G) (T := T) (sc := sc) (os := os) (pc := pc) (nx := nx) (tg := tg) (L := L) (st := st) (S := S) (i := .iconst (4)) ht).symm
theorem fy_q36 (ht : mm_thr G f pc = none) (a : Int) (b : Nat) : fy_36 G T sc os X f pc nx tg L st S a b = fx_one G T sc os X f pc L st S (some (.iconst (5), nx, tg)) := (fy_mm_eq _ _).trans (fx_thr_none (G := G) (T := T) (sc := sc) (os := os) (pc := pc) (nx := nx) (tg := tg) (L := L) (st := st) (S := S) (i := .iconst (5)) ht).symm
theorem fy_q37 (ht : mm_thr G f pc = none) (a : Int) (b : Nat) : fy_37 G T sc os X f pc nx tg L st S a b = fx_one G T sc os X f pc L st S (some (.bipush a, nx, tg)) := (fy_mm_eq _ _).trans (fx_thr_none (G := G) (T := T) (sc := sc) (os := os) (pc := pc) (nx := nx) (tg := tg) (L := L) (st := st) (S := S) (i := .bipush a) ht).symm
theorem fy_q38 (ht : mm_thr G f pc = none) (a : Int) (b : Nat) : fy_38 G T sc os X f pc nx tg L st S a b = fx_one G T sc os X f pc L st S (some (.sipush a, nx, tg)) := (fy_mm_eq _ _).trans (fx_thr_none (G := G) (T := T) (sc := sc) (os := os) (pc := pc) (nx := nx) (tg := tg) (L := L) (st := st) (S := S) (i := .sipush a) ht).symm
theorem fy_q39 (ht : mm_thr G f pc = none) (a : Int) (b : Nat) : fy_39 G T sc os X f pc nx tg L st S a b = fx_one G T sc os X f pc L st S (some (.lconst 0, nx, tg)) := (fy_mm_eq _ _).trans (fx_thr_none (G := G) (T := T) (sc := sc) (os := os) (pc := pc) (nx := nx) (tg := tg) (L := L) (st := st) (S := S) (i := .lconst 0) ht).symm
theorem fy_q40 (ht : mm_thr G f pc = none) (a : Int) (b : Nat) : fy_40 G T sc os X f pc nx tg L st S a b = fx_one G T sc os X f pc L st S (some (.lconst 1, nx, tg)) := (fy_mm_eq _ _).trans (fx_thr_none (G := G) (T := T) (sc := sc) (os := os) (pc := pc) (nx := nx) (tg := tg) (L := L) (st := st) (S := S) (i := .lconst 1) ht).symm
theorem fy_q41 (ht : mm_thr G f pc = none) (a : Int) (b : Nat) : fy_41 G T sc os X f pc nx tg L st S a b = fx_one G T sc os X f pc L st S (some (.iinc b a, nx, tg)) := (fy_inc_eq _ _ _ _ _ _).trans (fx_thr_none (G := G) (T := T) (sc := sc) (os := os) (pc := pc) (nx := nx) (tg := tg) (L := L) (st := st) (S := S) (i := .iinc b a) ht).symm
theorem fy_q42 (ht : mm_thr G f pc = none) (a : Int) (b : Nat) : fy_42 G T sc os X f pc nx tg L st S a b = fx_one G T sc os X f pc L st S (some (.dup, nx, tg)) := (fy_mm_eq _ _).trans (fx_thr_none (G := G) (T := T) (sc := sc) (os := os) (pc := pc) (nx := nx) (tg := tg) (L := L) (st := st) (S := S) (i := .dup) ht).symm
theorem fy_q43 (ht : mm_thr G f pc = none) (a : Int) (b : Nat) : fy_43 G T sc os X f pc nx tg L st S a b = fx_one G T sc os X f pc L st S (some (.iadd, nx, tg)) := (fy_a2_eq _ _ _ _ _).trans (fx_thr_none (G := G) (T := T) (sc := sc) (os := os) (pc := pc) (nx := nx) (tg := tg) (L := L) (st := st) (S := S) (i := .iadd) ht).symm
theorem fy_q44 (ht : mm_thr G f pc = none) (a : Int) (b : Nat) : fy_44 G T sc os X f pc nx tg L st S a b = fx_one G T sc os X f pc L st S (some (.isub, nx, tg)) := (fy_a2_eq _ _ _ _ _).trans (fx_thr_none (G := G) (T := T) (sc := sc) (os := os) (pc := pc) (nx := nx) (tg := tg) (L := L) (st := st) (S := S) (i := .isub) ht).symm
theorem fy_q45 (ht : mm_thr G f pc = none) (a : Int) (b : Nat) : fy_45 G T sc os X f pc nx tg L st S a b = fx_one G T sc os X f pc L st S (some (.imul, nx, tg)) := (fy_a2_eq _ _ _ _ _).trans (fx_thr_none (G := G) (T := T) (sc := sc) (os := os) (pc := pc) (nx := nx) (tg := tg) (L := L) (st := st) (S := S) (i := .imul) ht).symm
theorem fy_q46 (ht : mm_thr G f pc = none) (a : Int) (b : Nat) : fy_46 G T sc os X f pc nx tg L st S a b = fx_one G T sc os X f pc L st S (some (.iand, nx, tg)) := (fy_mm_eq _ _).trans (fx_thr_none (G := G) (T := T) (sc := sc) (os := os) (pc := pc) (nx := nx) (tg := tg) (L := L) (st := st) (S := S) (i := .iand) ht).symm
theorem fy_q47 (ht : mm_thr G f pc = none) (a : Int) (b : Nat) : fy_47 G T sc os X f pc nx tg L st S a b = fx_one G T sc os X f pc L st S (some (.i2l, nx, tg)) := (fy_mm_eq _ _).trans (fx_thr_none (G := G) (T := T) (sc := sc) (os := os) (pc := pc) (nx := nx) (tg := tg) (L := L) (st := st) (S := S) (i := .i2l) ht).symm
theorem fy_q48 (ht : mm_thr G f pc = none) (a : Int) (b : Nat) : fy_48 G T sc os X f pc nx tg L st S a b = fx_one G T sc os X f pc L st S (some (.l2i, nx, tg)) := (fy_mm_eq _ _).trans (fx_thr_none (G := G) (T := T) (sc := sc) (os := os) (pc := pc) (nx := nx) (tg := tg) (L := L) (st := st) (S := S) (i := .l2i) ht).symm
theorem fy_q49 (ht : mm_thr G f pc = none) (a : Int) (b : Nat) : fy_49 G T sc os X f pc nx tg L st S a b = fx_one G T sc os X f pc L st S (some (.land, nx, tg)) := (fy_mm_eq _ _).trans (fx_thr_none (G := G) (T := T) (sc := sc) (os := os) (pc := pc) (nx := nx) (tg := tg) (L := L) (st := st) (S := S) (i := .land) ht).symm
theorem fy_q50 (ht : mm_thr G f pc = none) (a : Int) (b : Nat) : fy_50 G T sc os X f pc nx tg L st S a b = fx_one G T sc os X f pc L st S (some (.lushr, nx, tg)) := (fy_mm_eq _ _).trans (fx_thr_none (G := G) (T := T) (sc := sc) (os := os) (pc := pc) (nx := nx) (tg := tg) (L := L) (st := st) (S := S) (i := .lushr) ht).symm
theorem fy_q51 (ht : mm_thr G f pc = none) (a : Int) (b : Nat) : fy_51 G T sc os X f pc nx tg L st S a b = fx_one G T sc os X f pc L st S (some (.iushr, nx, tg)) := (fy_mm_eq _ _).trans (fx_thr_none (G := G) (T := T) (sc := sc) (os := os) (pc := pc) (nx := nx) (tg := tg) (L := L) (st := st) (S := S) (i := .iushr) ht).symm
theorem fy_q52 (ht : mm_thr G f pc = none) (a : Int) (b : Nat) : fy_52 G T sc os X f pc nx tg L st S a b = fx_one G T sc os X f pc L st S (some (.lcmp, nx, tg)) := (fy_mm_eq _ _).trans (fx_thr_none (G := G) (T := T) (sc := sc) (os := os) (pc := pc) (nx := nx) (tg := tg) (L := L) (st := st) (S := S) (i := .lcmp) ht).symm
theorem fy_q53 (ht : mm_thr G f pc = none) (a : Int) (b : Nat) : fy_53 G T sc os X f pc nx tg L st S a b = fx_one G T sc os X f pc L st S (some (.goto a, nx, tg)) := (fy_mm_eq _ _).trans (fx_thr_none (G := G) (T := T) (sc := sc) (os := os) (pc := pc) (nx := nx) (tg := tg) (L := L) (st := st) (S := S) (i := .goto a) ht).symm
theorem fy_q54 (ht : mm_thr G f pc = none) (a : Int) (b : Nat) : fy_54 G T sc os X f pc nx tg L st S a b = fx_one G T sc os X f pc L st S (some (.dup_x1, nx, tg)) := (fy_mm_eq _ _).trans (fx_thr_none (G := G) (T := T) (sc := sc) (os := os) (pc := pc) (nx := nx) (tg := tg) (L := L) (st := st) (S := S) (i := .dup_x1) ht).symm
theorem fy_q55 (ht : mm_thr G f pc = none) (a : Int) (b : Nat) : fy_55 G T sc os X f pc nx tg L st S a b = fx_one G T sc os X f pc L st S (some (.ifCond .eq a, nx, tg)) := (fy_i1_eq _ a).trans (fx_thr_none (G := G) (T := T) (sc := sc) (os := os) (pc := pc) (nx := nx) (tg := tg) (L := L) (st := st) (S := S) (i := .ifCond .eq a) ht).symm
theorem fy_q56 (ht : mm_thr G f pc = none) (a : Int) (b : Nat) : fy_56 G T sc os X f pc nx tg L st S a b = fx_one G T sc os X f pc L st S (some (.if_icmp .eq a, nx, tg)) := (fy_i2_eq _ a).trans (fx_thr_none (G := G) (T := T) (sc := sc) (os := os) (pc := pc) (nx := nx) (tg := tg) (L := L) (st := st) (S := S) (i := .if_icmp .eq a) ht).symm
theorem fy_q57 (ht : mm_thr G f pc = none) (a : Int) (b : Nat) : fy_57 G T sc os X f pc nx tg L st S a b = fx_one G T sc os X f pc L st S (some (.ifCond .ne a, nx, tg)) := (fy_i1_eq _ a).trans (fx_thr_none (G := G) (T := T) (sc := sc) (os := os) (pc := pc) (nx := nx) (tg := tg) (L := L) (st := st) (S := S) (i := .ifCond .ne a) ht).symm
theorem fy_q58 (ht : mm_thr G f pc = none) (a : Int) (b : Nat) : fy_58 G T sc os X f pc nx tg L st S a b = fx_one G T sc os X f pc L st S (some (.if_icmp .ne a, nx, tg)) := (fy_i2_eq _ a).trans (fx_thr_none (G := G) (T := T) (sc := sc) (os := os) (pc := pc) (nx := nx) (tg := tg) (L := L) (st := st) (S := S) (i := .if_icmp .ne a) ht).symm
theorem fy_q59 (ht : mm_thr G f pc = none) (a : Int) (b : Nat) : fy_59 G T sc os X f pc nx tg L st S a b = fx_one G T sc os X f pc L st S (some (.ifCond .lt a, nx, tg)) := (fy_i1_eq _ a).trans (fx_thr_none (G := G) (T := T) (sc := sc) (os := os) (pc := pc) (nx := nx) (tg := tg) (L := L) (st := st) (S := S) (i := .ifCond .lt a) ht).symm
theorem fy_q60 (ht : mm_thr G f pc = none) (a : Int) (b : Nat) : fy_60 G T sc os X f pc nx tg L st S a b = fx_one G T sc os X f pc L st S (some (.if_icmp .lt a, nx, tg)) := (fy_i2_eq _ a).trans (fx_thr_none (G := G) (T := T) (sc := sc) (os := os) (pc := pc) (nx := nx) (tg := tg) (L := L) (st := st) (S := S) (i := .if_icmp .lt a) ht).symm
theorem fy_q61 (ht : mm_thr G f pc = none) (a : Int) (b : Nat) : fy_61 G T sc os X f pc nx tg L st S a b = fx_one G T sc os X f pc L st S (some (.ifCond .ge a, nx, tg)) := (fy_i1_eq _ a).trans (fx_thr_none (G := G) (T := T) (sc := sc) (os := os) (pc := pc) (nx := nx) (tg := tg) (L := L) (st := st) (S := S) (i := .ifCond .ge a) ht).symm
theorem fy_q62 (ht : mm_thr G f pc = none) (a : Int) (b : Nat) : fy_62 G T sc os X f pc nx tg L st S a b = fx_one G T sc os X f pc L st S (some (.if_icmp .ge a, nx, tg)) := (fy_i2_eq _ a).trans (fx_thr_none (G := G) (T := T) (sc := sc) (os := os) (pc := pc) (nx := nx) (tg := tg) (L := L) (st := st) (S := S) (i := .if_icmp .ge a) ht).symm
theorem fy_q63 (ht : mm_thr G f pc = none) (a : Int) (b : Nat) : fy_63 G T sc os X f pc nx tg L st S a b = fx_one G T sc os X f pc L st S (some (.ifCond .gt a, nx, tg)) := (fy_i1_eq _ a).trans (fx_thr_none (G := G) (T := T) (sc := sc) (os := os) (pc := pc) (nx := nx) (tg := tg) (L := L) (st := st) (S := S) (i := .ifCond .gt a) ht).symm
theorem fy_q64 (ht : mm_thr G f pc = none) (a : Int) (b : Nat) : fy_64 G T sc os X f pc nx tg L st S a b = fx_one G T sc os X f pc L st S (some (.if_icmp .gt a, nx, tg)) := (fy_i2_eq _ a).trans (fx_thr_none (G := G) (T := T) (sc := sc) (os := os) (pc := pc) (nx := nx) (tg := tg) (L := L) (st := st) (S := S) (i := .if_icmp .gt a) ht).symm
theorem fy_q65 (ht : mm_thr G f pc = none) (a : Int) (b : Nat) : fy_65 G T sc os X f pc nx tg L st S a b = fx_one G T sc os X f pc L st S (some (.ifCond .le a, nx, tg)) := (fy_i1_eq _ a).trans (fx_thr_none (G := G) (T := T) (sc := sc) (os := os) (pc := pc) (nx := nx) (tg := tg) (L := L) (st := st) (S := S) (i := .ifCond .le a) ht).symm
theorem fy_q66 (ht : mm_thr G f pc = none) (a : Int) (b : Nat) : fy_66 G T sc os X f pc nx tg L st S a b = fx_one G T sc os X f pc L st S (some (.if_icmp .le a, nx, tg)) := (fy_i2_eq _ a).trans (fx_thr_none (G := G) (T := T) (sc := sc) (os := os) (pc := pc) (nx := nx) (tg := tg) (L := L) (st := st) (S := S) (i := .if_icmp .le a) ht).symm
theorem fy_q67 (ht : mm_thr G f pc = none) (a : Int) (b : Nat) : fy_67 G T sc os X f pc nx tg L st S a b = fx_one G T sc os X f pc L st S (some (.getfield b, nx, tg)) := (fy_ok_eq _).trans (fx_thr_none (G := G) (T := T) (sc := sc) (os := os) (pc := pc) (nx := nx) (tg := tg) (L := L) (st := st) (S := S) (i := .getfield b) ht).symm
theorem fy_q68 (ht : mm_thr G f pc = none) (a : Int) (b : Nat) : fy_68 G T sc os X f pc nx tg L st S a b = fx_one G T sc os X f pc L st S (some (.putfield b, nx, tg)) := (fy_ok_eq _).trans (fx_thr_none (G := G) (T := T) (sc := sc) (os := os) (pc := pc) (nx := nx) (tg := tg) (L := L) (st := st) (S := S) (i := .putfield b) ht).symm
theorem fy_q69 (ht : mm_thr G f pc = none) (a : Int) (b : Nat) : fy_69 G T sc os X f pc nx tg L st S a b = fx_one G T sc os X f pc L st S (some (.iaload, nx, tg)) := (fy_ok_eq _).trans (fx_thr_none (G := G) (T := T) (sc := sc) (os := os) (pc := pc) (nx := nx) (tg := tg) (L := L) (st := st) (S := S) (i := .iaload) ht).symm
theorem fy_q70 (ht : mm_thr G f pc = none) (a : Int) (b : Nat) : fy_70 G T sc os X f pc nx tg L st S a b = fx_one G T sc os X f pc L st S (some (.baload, nx, tg)) := (fy_ok_eq _).trans (fx_thr_none (G := G) (T := T) (sc := sc) (os := os) (pc := pc) (nx := nx) (tg := tg) (L := L) (st := st) (S := S) (i := .baload) ht).symm
theorem fy_q71 (ht : mm_thr G f pc = none) (a : Int) (b : Nat) : fy_71 G T sc os X f pc nx tg L st S a b = fx_one G T sc os X f pc L st S (some (.laload, nx, tg)) := (fy_ok_eq _).trans (fx_thr_none (G := G) (T := T) (sc := sc) (os := os) (pc := pc) (nx := nx) (tg := tg) (L := L) (st := st) (S := S) (i := .laload) ht).symm
theorem fy_q72 (ht : mm_thr G f pc = none) (a : Int) (b : Nat) : fy_72 G T sc os X f pc nx tg L st S a b = fx_one G T sc os X f pc L st S (some (.aaload, nx, tg)) := (fy_ok_eq _).trans (fx_thr_none (G := G) (T := T) (sc := sc) (os := os) (pc := pc) (nx := nx) (tg := tg) (L := L) (st := st) (S := S) (i := .aaload) ht).symm
theorem fy_q73 (ht : mm_thr G f pc = none) (a : Int) (b : Nat) : fy_73 G T sc os X f pc nx tg L st S a b = fx_one G T sc os X f pc L st S (some (.iastore, nx, tg)) := (fy_ok_eq _).trans (fx_thr_none (G := G) (T := T) (sc := sc) (os := os) (pc := pc) (nx := nx) (tg := tg) (L := L) (st := st) (S := S) (i := .iastore) ht).symm
theorem fy_q74 (ht : mm_thr G f pc = none) (a : Int) (b : Nat) : fy_74 G T sc os X f pc nx tg L st S a b = fx_one G T sc os X f pc L st S (some (.bastore, nx, tg)) := (fy_ok_eq _).trans (fx_thr_none (G := G) (T := T) (sc := sc) (os := os) (pc := pc) (nx := nx) (tg := tg) (L := L) (st := st) (S := S) (i := .bastore) ht).symm
theorem fy_q75 (ht : mm_thr G f pc = none) (a : Int) (b : Nat) : fy_75 G T sc os X f pc nx tg L st S a b = fx_one G T sc os X f pc L st S (some (.lastore, nx, tg)) := (fy_ok_eq _).trans (fx_thr_none (G := G) (T := T) (sc := sc) (os := os) (pc := pc) (nx := nx) (tg := tg) (L := L) (st := st) (S := S) (i := .lastore) ht).symm
theorem fy_q76 (ht : mm_thr G f pc = none) (a : Int) (b : Nat) : fy_76 G T sc os X f pc nx tg L st S a b = fx_one G T sc os X f pc L st S (some (.aastore, nx, tg)) := (fy_ok_eq _).trans (fx_thr_none (G := G) (T := T) (sc := sc) (os := os) (pc := pc) (nx := nx) (tg := tg) (L := L) (st := st) (S := S) (i := .aastore) ht).symm
theorem fy_q77 (ht : mm_thr G f pc = none) (a : Int) (b : Nat) : fy_77 G T sc os X f pc nx tg L st S a b = fx_one G T sc os X f pc L st S (some (.arraylength, nx, tg)) := (fy_ok_eq _).trans (fx_thr_none (G := G) (T := T) (sc := sc) (os := os) (pc := pc) (nx := nx) (tg := tg) (L := L) (st := st) (S := S) (i := .arraylength) ht).symm
theorem fy_q78 (ht : mm_thr G f pc = none) (a : Int) (b : Nat) : fy_78 G T sc os X f pc nx tg L st S a b = fx_one G T sc os X f pc L st S (some (.new b, nx, tg)) := (fy_ok_eq _).trans (fx_thr_none (G := G) (T := T) (sc := sc) (os := os) (pc := pc) (nx := nx) (tg := tg) (L := L) (st := st) (S := S) (i := .new b) ht).symm
theorem fy_q79 (ht : mm_thr G f pc = none) (a : Int) (b : Nat) : fy_79 G T sc os X f pc nx tg L st S a b = fx_one G T sc os X f pc L st S (some (.newarray .int, nx, tg)) := (fy_ok_eq _).trans (fx_thr_none (G := G) (T := T) (sc := sc) (os := os) (pc := pc) (nx := nx) (tg := tg) (L := L) (st := st) (S := S) (i := .newarray .int) ht).symm
theorem fy_q80 (ht : mm_thr G f pc = none) (a : Int) (b : Nat) : fy_80 G T sc os X f pc nx tg L st S a b = fx_one G T sc os X f pc L st S (some (.newarray .long, nx, tg)) := (fy_ok_eq _).trans (fx_thr_none (G := G) (T := T) (sc := sc) (os := os) (pc := pc) (nx := nx) (tg := tg) (L := L) (st := st) (S := S) (i := .newarray .long) ht).symm
theorem fy_q81 (ht : mm_thr G f pc = none) (a : Int) (b : Nat) : fy_81 G T sc os X f pc nx tg L st S a b = fx_one G T sc os X f pc L st S (some (.newarray .boolean, nx, tg)) := (fy_ok_eq _).trans (fx_thr_none (G := G) (T := T) (sc := sc) (os := os) (pc := pc) (nx := nx) (tg := tg) (L := L) (st := st) (S := S) (i := .newarray .boolean) ht).symm
theorem fy_q82 (ht : mm_thr G f pc = none) (a : Int) (b : Nat) : fy_82 G T sc os X f pc nx tg L st S a b = fx_one G T sc os X f pc L st S (some (.anewarray b, nx, tg)) := (fy_ok_eq _).trans (fx_thr_none (G := G) (T := T) (sc := sc) (os := os) (pc := pc) (nx := nx) (tg := tg) (L := L) (st := st) (S := S) (i := .anewarray b) ht).symm
theorem fy_q83 (ht : mm_thr G f pc = none) (a : Int) (b : Nat) : fy_83 G T sc os X f pc nx tg L st S a b = fx_one G T sc os X f pc L st S (some (.ldc b, nx, tg)) := (fy_mm_eq _ _).trans (fx_thr_none (G := G) (T := T) (sc := sc) (os := os) (pc := pc) (nx := nx) (tg := tg) (L := L) (st := st) (S := S) (i := .ldc b) ht).symm
theorem fy_q84 (ht : mm_thr G f pc = none) (a : Int) (b : Nat) : fy_84 G T sc os X f pc nx tg L st S a b = fx_one G T sc os X f pc L st S (some (.ldc2_w b, nx, tg)) := (fy_mm_eq _ _).trans (fx_thr_none (G := G) (T := T) (sc := sc) (os := os) (pc := pc) (nx := nx) (tg := tg) (L := L) (st := st) (S := S) (i := .ldc2_w b) ht).symm
theorem fy_q85 (ht : mm_thr G f pc = none) (a : Int) (b : Nat) : fy_85 G T sc os X f pc nx tg L st S a b = fx_one G T sc os X f pc L st S (some (.ldc_w b, nx, tg)) := (fy_mm_eq _ _).trans (fx_thr_none (G := G) (T := T) (sc := sc) (os := os) (pc := pc) (nx := nx) (tg := tg) (L := L) (st := st) (S := S) (i := .ldc_w b) ht).symm
theorem fy_q86 (ht : mm_thr G f pc = none) (a : Int) (b : Nat) : fy_86 G T sc os X f pc nx tg L st S a b = fx_one G T sc os X f pc L st S (some (.return_, nx, tg)) := rfl
theorem fy_q87 (ht : mm_thr G f pc = none) (a : Int) (b : Nat) : fy_87 G T sc os X f pc nx tg L st S a b = fx_one G T sc os X f pc L st S (some (.ireturn, nx, tg)) := rfl
theorem fy_q88 (ht : mm_thr G f pc = none) (a : Int) (b : Nat) : fy_88 G T sc os X f pc nx tg L st S a b = fx_one G T sc os X f pc L st S (some (.invokespecial b, nx, tg)) := rfl
theorem fy_q89 (ht : mm_thr G f pc = none) (a : Int) (b : Nat) : fy_89 G T sc os X f pc nx tg L st S a b = fx_one G T sc os X f pc L st S (some (.invokevirtual b, nx, tg)) := rfl
theorem fy_q90 (ht : mm_thr G f pc = none) (a : Int) (b : Nat) : fy_90 G T sc os X f pc nx tg L st S a b = fx_one G T sc os X f pc L st S (some (.invokestatic b, nx, tg)) := rfl
theorem fy_q91 (ht : mm_thr G f pc = none) (a : Int) (b : Nat) : fy_91 G T sc os X f pc nx tg L st S a b = fx_one G T sc os X f pc L st S (some (.ishl, nx, tg)) := (fy_a2_eq _ _ _ _ _).trans (fx_thr_none (G := G) (T := T) (sc := sc) (os := os) (pc := pc) (nx := nx) (tg := tg) (L := L) (st := st) (S := S) (i := .ishl) ht).symm
theorem fy_q92 (ht : mm_thr G f pc = none) (a : Int) (b : Nat) : fy_92 G T sc os X f pc nx tg L st S a b = fx_one G T sc os X f pc L st S (some (.ior, nx, tg)) := (fy_a2_eq _ _ _ _ _).trans (fx_thr_none (G := G) (T := T) (sc := sc) (os := os) (pc := pc) (nx := nx) (tg := tg) (L := L) (st := st) (S := S) (i := .ior) ht).symm
theorem fy_q93 (ht : mm_thr G f pc = none) (a : Int) (b : Nat) : fy_93 G T sc os X f pc nx tg L st S a b = fx_one G T sc os X f pc L st S (some (.ishr, nx, tg)) := (fy_mm_eq _ _).trans (fx_thr_none (G := G) (T := T) (sc := sc) (os := os) (pc := pc) (nx := nx) (tg := tg) (L := L) (st := st) (S := S) (i := .ishr) ht).symm
theorem fy_q94 (ht : mm_thr G f pc = none) (a : Int) (b : Nat) : fy_94 G T sc os X f pc nx tg L st S a b = fx_one G T sc os X f pc L st S (some (.ladd, nx, tg)) := (fy_mm_eq _ _).trans (fx_thr_none (G := G) (T := T) (sc := sc) (os := os) (pc := pc) (nx := nx) (tg := tg) (L := L) (st := st) (S := S) (i := .ladd) ht).symm
theorem fy_q95 (ht : mm_thr G f pc = none) (a : Int) (b : Nat) : fy_95 G T sc os X f pc nx tg L st S a b = fx_one G T sc os X f pc L st S (some (.lmul, nx, tg)) := (fy_mm_eq _ _).trans (fx_thr_none (G := G) (T := T) (sc := sc) (os := os) (pc := pc) (nx := nx) (tg := tg) (L := L) (st := st) (S := S) (i := .lmul) ht).symm
theorem fy_q96 (ht : mm_thr G f pc = none) (a : Int) (b : Nat) : fy_96 G T sc os X f pc nx tg L st S a b = fx_one G T sc os X f pc L st S (some (.lor, nx, tg)) := (fy_mm_eq _ _).trans (fx_thr_none (G := G) (T := T) (sc := sc) (os := os) (pc := pc) (nx := nx) (tg := tg) (L := L) (st := st) (S := S) (i := .lor) ht).symm
theorem fy_q97 (ht : mm_thr G f pc = none) (a : Int) (b : Nat) : fy_97 G T sc os X f pc nx tg L st S a b = fx_one G T sc os X f pc L st S (some (.lshl, nx, tg)) := (fy_mm_eq _ _).trans (fx_thr_none (G := G) (T := T) (sc := sc) (os := os) (pc := pc) (nx := nx) (tg := tg) (L := L) (st := st) (S := S) (i := .lshl) ht).symm
theorem fy_q98 (ht : mm_thr G f pc = none) (a : Int) (b : Nat) : fy_98 G T sc os X f pc nx tg L st S a b = fx_one G T sc os X f pc L st S (some (.lshr, nx, tg)) := (fy_mm_eq _ _).trans (fx_thr_none (G := G) (T := T) (sc := sc) (os := os) (pc := pc) (nx := nx) (tg := tg) (L := L) (st := st) (S := S) (i := .lshr) ht).symm
theorem fx_nth_lt {α : Type} : ∀ (l : List α) (i : Nat) (b : α), fx_nth l i = some b → i < l.length := by
  intro l
  induction l with
  | nil => intro i b h; cases h
  | cons c l ih =>
    intro i b h
    cases i with
    | zero => exact Nat.zero_lt_succ _
    | succ i => exact Nat.succ_lt_succ (ih i b h)
theorem fx_two_lt {α : Type} {T : List (List α)} {f : Nat} {a : α} (h : fx_two T f = some a) (N : Nat) (hN : T.length * 10 ≤ N) : f < N := by
  unfold fx_two at h
  split at h
  · cases h
  · rename_i u hq
    have := fx_nth_lt _ _ _ hq
    omega
theorem fy_tab_ok (ht : mm_thr G f pc = none) (a : Int) (b : Nat) : ∀ (t : Nat) (h : fy_F) (i : Instr), fx_two fy_tab t = some h → fy_dec t a b = some i → h G T sc os X f pc nx tg L st S a b = fx_one G T sc os X f pc L st S (some (i, nx, tg)) := by
  intro t h i hh hd
  have hlt := fx_two_lt hh 100 (by decide)
  match t, hh, hd, hlt with
  | 0, hh, hd, _ => cases hh; cases hd; exact fy_q0 ht a b
  | 1, hh, hd, _ => cases hh; cases hd; exact fy_q1 ht a b
  | 2, hh, hd, _ => cases hh; cases hd; exact fy_q2 ht a b
  | 3, hh, hd, _ => cases hh; cases hd; exact fy_q3 ht a b
  | 4, hh, hd, _ => cases hh; cases hd; exact fy_q4 ht a b
  | 5, hh, hd, _ => cases hh; cases hd; exact fy_q5 ht a b
  | 6, hh, hd, _ => cases hh; cases hd; exact fy_q6 ht a b
  | 7, hh, hd, _ => cases hh; cases hd; exact fy_q7 ht a b
  | 8, hh, hd, _ => cases hh; cases hd; exact fy_q8 ht a b
  | 9, hh, hd, _ => cases hh; cases hd; exact fy_q9 ht a b
  | 10, hh, hd, _ => cases hh; cases hd; exact fy_q10 ht a b
  | 11, hh, hd, _ => cases hh; cases hd; exact fy_q11 ht a b
  | 12, hh, hd, _ => cases hh; cases hd; exact fy_q12 ht a b
  | 13, hh, hd, _ => cases hh; cases hd; exact fy_q13 ht a b
  | 14, hh, hd, _ => cases hh; cases hd; exact fy_q14 ht a b
  | 15, hh, hd, _ => cases hh; cases hd; exact fy_q15 ht a b
  | 16, hh, hd, _ => cases hh; cases hd; exact fy_q16 ht a b
  | 17, hh, hd, _ => cases hh; cases hd; exact fy_q17 ht a b
  | 18, hh, hd, _ => cases hh; cases hd; exact fy_q18 ht a b
  | 19, hh, hd, _ => cases hh; cases hd; exact fy_q19 ht a b
  | 20, hh, hd, _ => cases hh; cases hd; exact fy_q20 ht a b
  | 21, hh, hd, _ => cases hh; cases hd; exact fy_q21 ht a b
  | 22, hh, hd, _ => cases hh; cases hd; exact fy_q22 ht a b
  | 23, hh, hd, _ => cases hh; cases hd; exact fy_q23 ht a b
  | 24, hh, hd, _ => cases hh; cases hd; exact fy_q24 ht a b
  | 25, hh, hd, _ => cases hh; cases hd; exact fy_q25 ht a b
  | 26, hh, hd, _ => cases hh; cases hd; exact fy_q26 ht a b
  | 27, hh, hd, _ => cases hh; cases hd; exact fy_q27 ht a b
  | 28, hh, hd, _ => cases hh; cases hd; exact fy_q28 ht a b
  | 29, hh, hd, _ => cases hh; cases hd; exact fy_q29 ht a b
  | 30, hh, hd, _ => cases hh; cases hd; exact fy_q30 ht a b
  | 31, hh, hd, _ => cases hh; cases hd; exact fy_q31 ht a b
  | 32, hh, hd, _ => cases hh; cases hd; exact fy_q32 ht a b
  | 33, hh, hd, _ => cases hh; cases hd; exact fy_q33 ht a b
  | 34, hh, hd, _ => cases hh; cases hd; exact fy_q34 ht a b
  | 35, hh, hd, _ => cases hh; cases hd; exact fy_q35 ht a b
  | 36, hh, hd, _ => cases hh; cases hd; exact fy_q36 ht a b
  | 37, hh, hd, _ => cases hh; cases hd; exact fy_q37 ht a b
  | 38, hh, hd, _ => cases hh; cases hd; exact fy_q38 ht a b
  | 39, hh, hd, _ => cases hh; cases hd; exact fy_q39 ht a b
  | 40, hh, hd, _ => cases hh; cases hd; exact fy_q40 ht a b
  | 41, hh, hd, _ => cases hh; cases hd; exact fy_q41 ht a b
  | 42, hh, hd, _ => cases hh; cases hd; exact fy_q42 ht a b
  | 43, hh, hd, _ => cases hh; cases hd; exact fy_q43 ht a b
  | 44, hh, hd, _ => cases hh; cases hd; exact fy_q44 ht a b
  | 45, hh, hd, _ => cases hh; cases hd; exact fy_q45 ht a b
  | 46, hh, hd, _ => cases hh; cases hd; exact fy_q46 ht a b
  | 47, hh, hd, _ => cases hh; cases hd; exact fy_q47 ht a b
  | 48, hh, hd, _ => cases hh; cases hd; exact fy_q48 ht a b
  | 49, hh, hd, _ => cases hh; cases hd; exact fy_q49 ht a b
  | 50, hh, hd, _ => cases hh; cases hd; exact fy_q50 ht a b
  | 51, hh, hd, _ => cases hh; cases hd; exact fy_q51 ht a b
  | 52, hh, hd, _ => cases hh; cases hd; exact fy_q52 ht a b
  | 53, hh, hd, _ => cases hh; cases hd; exact fy_q53 ht a b
  | 54, hh, hd, _ => cases hh; cases hd; exact fy_q54 ht a b
  | 55, hh, hd, _ => cases hh; cases hd; exact fy_q55 ht a b
  | 56, hh, hd, _ => cases hh; cases hd; exact fy_q56 ht a b
  | 57, hh, hd, _ => cases hh; cases hd; exact fy_q57 ht a b
  | 58, hh, hd, _ => cases hh; cases hd; exact fy_q58 ht a b
  | 59, hh, hd, _ => cases hh; cases hd; exact fy_q59 ht a b
  | 60, hh, hd, _ => cases hh; cases hd; exact fy_q60 ht a b
  | 61, hh, hd, _ => cases hh; cases hd; exact fy_q61 ht a b
  | 62, hh, hd, _ => cases hh; cases hd; exact fy_q62 ht a b
  | 63, hh, hd, _ => cases hh; cases hd; exact fy_q63 ht a b
  | 64, hh, hd, _ => cases hh; cases hd; exact fy_q64 ht a b
  | 65, hh, hd, _ => cases hh; cases hd; exact fy_q65 ht a b
  | 66, hh, hd, _ => cases hh; cases hd; exact fy_q66 ht a b
  | 67, hh, hd, _ => cases hh; cases hd; exact fy_q67 ht a b
  | 68, hh, hd, _ => cases hh; cases hd; exact fy_q68 ht a b
  | 69, hh, hd, _ => cases hh; cases hd; exact fy_q69 ht a b
  | 70, hh, hd, _ => cases hh; cases hd; exact fy_q70 ht a b
  | 71, hh, hd, _ => cases hh; cases hd; exact fy_q71 ht a b
  | 72, hh, hd, _ => cases hh; cases hd; exact fy_q72 ht a b
  | 73, hh, hd, _ => cases hh; cases hd; exact fy_q73 ht a b
  | 74, hh, hd, _ => cases hh; cases hd; exact fy_q74 ht a b
  | 75, hh, hd, _ => cases hh; cases hd; exact fy_q75 ht a b
  | 76, hh, hd, _ => cases hh; cases hd; exact fy_q76 ht a b
  | 77, hh, hd, _ => cases hh; cases hd; exact fy_q77 ht a b
  | 78, hh, hd, _ => cases hh; cases hd; exact fy_q78 ht a b
  | 79, hh, hd, _ => cases hh; cases hd; exact fy_q79 ht a b
  | 80, hh, hd, _ => cases hh; cases hd; exact fy_q80 ht a b
  | 81, hh, hd, _ => cases hh; cases hd; exact fy_q81 ht a b
  | 82, hh, hd, _ => cases hh; cases hd; exact fy_q82 ht a b
  | 83, hh, hd, _ => cases hh; cases hd; exact fy_q83 ht a b
  | 84, hh, hd, _ => cases hh; cases hd; exact fy_q84 ht a b
  | 85, hh, hd, _ => cases hh; cases hd; exact fy_q85 ht a b
  | 86, hh, hd, _ => cases hh; cases hd; exact fy_q86 ht a b
  | 87, hh, hd, _ => cases hh; cases hd; exact fy_q87 ht a b
  | 88, hh, hd, _ => cases hh; cases hd; exact fy_q88 ht a b
  | 89, hh, hd, _ => cases hh; cases hd; exact fy_q89 ht a b
  | 90, hh, hd, _ => cases hh; cases hd; exact fy_q90 ht a b
  | 91, hh, hd, _ => cases hh; cases hd; exact fy_q91 ht a b
  | 92, hh, hd, _ => cases hh; cases hd; exact fy_q92 ht a b
  | 93, hh, hd, _ => cases hh; cases hd; exact fy_q93 ht a b
  | 94, hh, hd, _ => cases hh; cases hd; exact fy_q94 ht a b
  | 95, hh, hd, _ => cases hh; cases hd; exact fy_q95 ht a b
  | 96, hh, hd, _ => cases hh; cases hd; exact fy_q96 ht a b
  | 97, hh, hd, _ => cases hh; cases hd; exact fy_q97 ht a b
  | 98, hh, hd, _ => cases hh; cases hd; exact fy_q98 ht a b
  | 99, hh, _, _ => cases hh
  | n + 100, _, _, hlt => exact absurd hlt (by omega)
end FYT
/-- a quick table tells what the code is -/
def fy_Cd (G : mm_G) (cd : Nat → Nat → Option fy_Q) : Prop := ∀ f pc t a b nx tg, cd f pc = some (t, a, b, nx, tg) → ∃ i, fy_dec t a b = some i ∧ mm_code G f pc = some (i, nx, tg) ∧ mm_thr G f pc = none
section FYM
variable {G : mm_G} {T : mm_T} {cd : Nat → Nat → Option fy_Q} {sc : fx_sc} {scr : Nat × (Nat → Int32)} {os : fx_O} {X : fx_X} {X' : mm_XR} {f : Nat} {Q : mm_O → mm_S → Prop}
theorem fy_one_ok (hcd : fy_Cd G cd) (hsc : fx_Scr sc scr) (hX : fx_Snd X X') {pc m : Nat} {L : mm_L} {st : List Value} {S : fx_S} {r : fx_K ⊕ (mm_O × fx_S)} {cs : List Bool}
    (h : fy_one G T sc os X f pc L st S (cd f pc) = some (r, cs)) (hcs : ∀ b ∈ cs, b = true) (hl : fx_Left G T scr X' f Q m r) : mm_wp G T scr X' f Q (m + 1) (fx_mK (pc, L, st, S)) := by
  show mm_body G T scr X' f Q (mm_wp G T scr X' f Q m) pc L st (fx_mS S) (mm_code G f pc)
  cases hq : cd f pc with
  | none =>
    rw [hq] at h
    exact fx_one_ok hsc hX h hcs hl
  | some q =>
    obtain ⟨t, a, b, nx, tg⟩ := q
    obtain ⟨i, h1, h2, h3⟩ := hcd _ _ _ _ _ _ _ hq
    rw [hq] at h
    rw [h2]
    unfold fy_one at h
    dsimp only at h
    split at h
    · cases h
    · rename_i g hg
      rw [fy_tab_ok h3 a b t g i hg h1] at h
      exact fx_one_ok hsc hX h hcs hl
theorem fx_nK_eq {β : Type} (k : fx_K) (g : fx_K → β) : fx_nK k g = g k := by
  obtain ⟨pc, L, st, c, s, M⟩ := k
  unfold fx_nK
  dsimp only
  rw [fx_fn_eq, fx_nl_eq, fx_nl_eq, fx_fn_eq, fx_fn_eq]
theorem fy_go_s (n : Nat) (k : fx_K) (cs : List Bool) : fy_go G T cd sc os X f (n + 1) k cs = (match k with
    | (pc, L, st, S) => match fy_one G T sc os X f pc L st S (cd f pc) with
      | none => none
      | some (.inr r, cs') => some (.inr r, cs' ++ cs)
      | some (.inl k', cs') => fx_nK k' (fun k' => fy_go G T cd sc os X f n k' (cs' ++ cs))) := rfl
theorem fy_go_ok (hcd : fy_Cd G cd) (hsc : fx_Scr sc scr) (hX : fx_Snd X X') :
    ∀ (n : Nat) (k : fx_K) (cs0 : List Bool) (r : fx_K ⊕ (mm_O × fx_S)) (cs : List Bool), fy_go G T cd sc os X f n k cs0 = some (r, cs) → (∀ b ∈ cs, b = true) → ∀ m, fx_Left G T scr X' f Q m r → (∀ b ∈ cs0, b = true) ∧ (match r with
      | .inl _ => mm_wp G T scr X' f Q (m + n) (fx_mK k)
      | .inr _ => ∃ m', mm_wp G T scr X' f Q m' (fx_mK k)) := by
  intro n
  induction n with
  | zero =>
    intro k cs0 r cs h hcs m hl
    cases h
    exact ⟨hcs, hl⟩
  | succ n ih =>
    intro k cs0 r cs h hcs m hl
    rw [fy_go_s] at h
    obtain ⟨pc, L, st, S⟩ := k
    dsimp only at h
    split at h
    · cases h
    · rename_i q cs' h1
      cases h
      have ha : ∀ b ∈ cs', b = true := fun b hb => hcs b (List.mem_append.mpr (Or.inl hb))
      have hb : ∀ b ∈ cs0, b = true := fun b hb => hcs b (List.mem_append.mpr (Or.inr hb))
      exact ⟨hb, m + 1, fy_one_ok (m := m) hcd hsc hX h1 ha hl⟩
    · rename_i k' cs' h1
      rw [fx_nK_eq] at h
      obtain ⟨hall, hr⟩ := ih k' (cs' ++ cs0) r cs h hcs m hl
      have ha : ∀ b ∈ cs', b = true := fun b hb => hall b (List.mem_append.mpr (Or.inl hb))
      have hb : ∀ b ∈ cs0, b = true := fun b hb => hall b (List.mem_append.mpr (Or.inr hb))
      refine ⟨hb, ?_⟩
      rcases r with k2 | q
      · exact fy_one_ok (m := m + n) hcd hsc hX h1 ha hr
      · obtain ⟨m', hr⟩ := hr
        exact ⟨m' + 1, fy_one_ok (m := m') hcd hsc hX h1 ha hr⟩
end FYM
theorem fy_ev_ok {G : mm_G} {T : mm_T} {cd : Nat → Nat → Option fy_Q} {sc : fx_sc} {scr : Nat × (Nat → Int32)} {os : fx_O} (hcd : fy_Cd G cd) (hsc : fx_Scr sc scr) : ∀ d, fx_Snd (fy_ev G T cd sc os d) (mm_ex G T scr d) := by
  intro d
  induction d with
  | zero => intro g as S o S' cs h; cases h
  | succ d ih =>
    intro g as S o S' cs h hcs Q hQ
    replace h : (if (mm_entry (mm_nl G g) as).length = mm_nl G g then fx_nl (mm_entry (mm_nl G g) as) (fun L => fx_end (fy_go G T cd sc os (fy_ev G T cd sc os d) g 1000000 (0, L, [], S) [])) else none) = some ((o, S'), cs) := h
    split at h
    · rename_i hl
      refine ⟨hl, ?_⟩
      rw [fx_nl_eq] at h
      unfold fx_end at h
      split at h
      · rename_i r' cs' hg
        cases h
        exact (fy_go_ok hcd hsc ih _ _ _ _ _ hg hcs 0 hQ).2
      · cases h
    · cases h
/-- all of them hold -/
def fx_All : List Bool → Prop
  | [] => True
  | b :: l => b = true ∧ fx_All l
theorem fx_All_ok : ∀ l, fx_All l → ∀ b ∈ l, b = true := by
  intro l
  induction l with
  | nil => intro _ b hb; cases hb
  | cons a l ih =>
    intro h b hb
    rcases List.mem_cons.mp hb with rfl | hb
    · exact h.1
    · exact ih h.2 b hb
