/-! a method's walk on the abstract machine, and what it promises -/
def hw_im : Instr → Bool
  | .getfield _ | .putfield _ | .iaload | .baload | .laload | .aaload | .iastore | .bastore | .lastore | .arraylength | .ldc _ | .ldc_w _ | .ldc2_w _ | .if_acmp _ _ | .tableswitch _ _ _ _ | .lookupswitch _ _ | .getstatic _ | .instanceof _ | .checkcast _ => true
  | _ => false
def hw_vo (T : hw_T) (r : Option hw_V) (v : Option Value) : Prop := match r with
  | none => v = none
  | some a => ∃ u, v = some u ∧ hw_v T a u
def hw_room (TT : mm_T) (S : mm_S) : Prop := S.1 + 1 ≤ mm_lc TT ∧ S.2.1 + 6 ≤ mm_lsl TT
/-- a method's promise: it returns with K, or throws with E; it writes in the view alone -/
def hw_C (G : mm_G) (TT : mm_T) (scr : Nat × (Nat → Int32)) (T : hw_T) (d g : Nat) (args : List hw_V) (Z : hw_Z) (K : Option hw_V → hw_Z → Prop) (E : Nat → hw_Z → Prop) : Prop :=
  ∀ (as : List Value) (S : mm_S) (Q : mm_O → mm_S → Prop), hw_st T args as → hw_RS T Z S → hw_room TT S → (∀ r v Z' S', K r Z' → hw_vo T r v → hw_RS T Z' S' → hw_el T S S' → Q (.inl v) S') → (∀ ec Z' S', E ec Z' → hw_RS T Z' S' → hw_el T S S' → Q (.inr (ec, S'.1)) (mm_add S' 6 (.inr (ec, [])))) → mm_ex G TT scr d g as S Q
/-- a state in a method's walk, likewise -/
def hw_W (G : mm_G) (TT : mm_T) (scr : Nat × (Nat → Int32)) (T : hw_T) (d f : Nat) (K : Option hw_V → hw_Z → Prop) (E : Nat → hw_Z → Prop) (k : hw_K) : Prop :=
  ∀ (M : mm_L) (us : List Value) (S : mm_S) (Q : mm_O → mm_S → Prop), hw_ls T k.2.1 M → hw_st T k.2.2.1 us → hw_RS T k.2.2.2 S → hw_room TT S → (∀ r v Z' S', K r Z' → hw_vo T r v → hw_RS T Z' S' → hw_el T S S' → Q (.inl v) S') → (∀ ec Z' S', E ec Z' → hw_RS T Z' S' → hw_el T S S' → Q (.inr (ec, S'.1)) (mm_add S' 6 (.inr (ec, [])))) → ∃ n, mm_wp G TT scr (mm_ex G TT scr d) f Q n (k.1, M, us, S)
/-- a receiver of the right class, or none wanted -/
def hw_rk (TT : mm_T) (T : hw_T) (stc : Bool) (oc : Nat) (as : List hw_V) (P : Prop) : Prop := bif stc then P else (match as with
  | .inr (.inr (k, i)) :: _ => bif Nat.blt k 1000000 then (match T.1 k with
    | .inl (c, _) => bif Nat.beq c oc && !(Nat.beq oc 998) then P else False
    | _ => False) else (bif Nat.beq k 1000000 && Nat.beq oc 998 then hw_nxk TT (fun n _ => (1 ≤ i ∧ i ≤ (n : Int)) ∧ P) else False)
  | _ => False)
abbrev hw_X : Type := Nat → List hw_V → hw_Z → (Option hw_V → hw_Z → Prop) → (Nat → hw_Z → Prop) → Prop
def hw_ps (r : Option hw_V) (st : List hw_V) : List hw_V := match r with
  | none => st
  | some v => v :: st
def hw_cl (D : hw_D) (TT : mm_T) (T : hw_T) (X : hw_X) (g nx : Nat) (L : hw_L) (st : List hw_V) (Z : hw_Z) (w : hw_K → Prop) (E : Nat → hw_Z → Prop) : Prop := match D.2.2.2 g with
  | (oc, _, na, _, stc, _) => bif Nat.ble na st.length && Nat.ble ((st.drop na).map hw_cat).sum 8 then hw_nl (st.take na).reverse (fun as => hw_rk TT T stc oc as (hw_nl (st.drop na) (fun r => X g as Z (fun v Z' => w (nx, L, hw_ps v r, Z')) E))) else False
def hw_body (D : hw_D) (TT : mm_T) (T : hw_T) (X : hw_X) (f : Nat) (K : Option hw_V → hw_Z → Prop) (E : Nat → hw_Z → Prop) (w : hw_K → Prop) (k : hw_K) : Prop := match k with
  | (pc, L, st, Z) => match D.1 f pc with
    | none => False
    | some (i, nx, tg) => match i with
      | .return_ => match st, (D.2.2.2 f).2.2.2.2.2 with
        | [], 0 => K none Z
        | _, _ => False
      | .ireturn => match st, (D.2.2.2 f).2.2.2.2.2 with
        | [.inl x], 1 => K (some (.inl x)) Z
        | [.inl x], 2 => (x = 0 ∨ x = 1) ∧ K (some (.inl x)) Z
        | [.inl x], 5 => (-128 ≤ x ∧ x ≤ 127) ∧ K (some (.inl x)) Z
        | [.inl x], 6 => (0 ≤ x ∧ x ≤ 65535) ∧ K (some (.inl x)) Z
        | _, _ => False
      | .lreturn => match st, (D.2.2.2 f).2.2.2.2.2 with
        | [.inr (.inl x)], 3 => K (some (.inr (.inl x))) Z
        | _, _ => False
      | .areturn => match st, (D.2.2.2 f).2.2.2.2.2 with
        | [.inr (.inr c)], 4 => K (some (.inr (.inr c))) Z
        | _, _ => False
      | .invokevirtual x => match D.2.1 f x with
        | some (.inr (.inl (g + 1))) => bif !(D.2.2.2 (g + 1)).2.2.2.2.1 && !(D.2.2.2 (g + 1)).2.2.2.1 then hw_cl D TT T X (g + 1) nx L st Z w E else False
        | _ => False
      | .invokestatic x => match D.2.1 f x with
        | some (.inr (.inl (g + 1))) => bif (D.2.2.2 (g + 1)).2.2.2.2.1 then hw_cl D TT T X (g + 1) nx L st Z w E else False
        | some (.inr (.inr (.inr (.inr 0)))) => hw_cpy T st Z (fun st Z => w (nx, L, st, Z))
        | _ => False
      | .invokespecial _ => False
      | .lcmp => match D.1 f nx, D.2.2.1 f pc, D.2.2.1 f nx with
        | some (.ifCond o _, nx', tg'), none, none => hw_j2 st (fun x y r => hw_cb o x y (w (tg', L, r, Z)) (w (nx', L, r, Z)))
        | _, _, _ => False
      | i => match D.2.2.1 f pc with
        | some ec => bif Nat.ble (st.map hw_cat).sum 8 then E ec Z else False
        | none => bif hw_im i then hw_m TT T (D.2.1 f) i pc nx tg L st Z w else hw_i0 i pc nx tg L st Z w
def hw_entry (nL : Nat) (vs : List hw_V) : hw_L :=
  let l := vs.flatMap (fun v => bif Nat.beq (hw_cat v) 2 then [some v, none] else [some v])
  l ++ List.replicate (nL - l.length) none
/-- the program as the small machine has it -/
def hw_DG (D : hw_D) (G : mm_G) : Prop :=
  (∀ f pc e, D.1 f pc = some e → mm_code G f pc = some e ∧ mm_thr G f pc = D.2.2.1 f pc ∧ ∀ ec, mm_hnd G f pc ec = some none) ∧ (∀ f, hw_pk (D.2.1 f) (mm_pool G f)) ∧
  (∀ f, (mm_oc G f, mm_nl G f, mm_na' G f, mm_ini G f, mm_stc G f) = ((D.2.2.2 f).1, (D.2.2.2 f).2.1, (D.2.2.2 f).2.2.1, (D.2.2.2 f).2.2.2.1, (D.2.2.2 f).2.2.2.2.1)) ∧
  (∀ f, ((D.2.2.2 f).2.2.2.2.2 = 0 → mm_rt G f = none) ∧ ((D.2.2.2 f).2.2.2.2.2 = 1 → mm_rt G f = some .int) ∧ ((D.2.2.2 f).2.2.2.2.2 = 2 → mm_rt G f = some .boolean) ∧ ((D.2.2.2 f).2.2.2.2.2 = 3 → mm_rt G f = some .long) ∧ ((D.2.2.2 f).2.2.2.2.2 = 4 → ∃ nm, mm_rt G f = some (.object nm)) ∧ ((D.2.2.2 f).2.2.2.2.2 = 5 → mm_rt G f = some .byte) ∧ ((D.2.2.2 f).2.2.2.2.2 = 6 → mm_rt G f = some .char))
theorem hw_st_len {T : hw_T} : ∀ {st : List hw_V} {us : List Value}, hw_st T st us → us.length = st.length := by
  intro st
  induction st with
  | nil => intro us h; rw [show us = [] from h]; rfl
  | cons v r ih =>
    intro us h
    obtain ⟨u, us', rfl, -, h⟩ := h
    rw [List.length_cons, List.length_cons, ih h]
theorem hw_st_cat {T : hw_T} : ∀ {st : List hw_V} {us : List Value}, hw_st T st us → us.map Value.category = st.map hw_cat := by
  intro st
  induction st with
  | nil => intro us h; rw [show us = [] from h]; rfl
  | cons v r ih =>
    intro us h
    obtain ⟨u, us', rfl, hv, h⟩ := h
    rw [List.map_cons, List.map_cons, ih h, hw_v_cat hv]
theorem hw_st_drop {T : hw_T} : ∀ (n : Nat) {st : List hw_V} {us : List Value}, hw_st T st us → hw_st T (st.drop n) (us.drop n) := by
  intro n
  induction n with
  | zero => intro st us h; exact h
  | succ n ih =>
    intro st us h
    cases st with
    | nil => rw [show us = [] from h]; rfl
    | cons v r =>
      obtain ⟨u, us', rfl, hv, h⟩ := h
      exact ih h
theorem hw_st_take {T : hw_T} : ∀ (n : Nat) {st : List hw_V} {us : List Value}, hw_st T st us → hw_st T (st.take n) (us.take n) := by
  intro n
  induction n with
  | zero => intro st us h; rfl
  | succ n ih =>
    intro st us h
    cases st with
    | nil => rw [show us = [] from h]; rfl
    | cons v r =>
      obtain ⟨u, us', rfl, hv, h⟩ := h
      exact ⟨u, _, rfl, hv, ih h⟩
theorem hw_st_app {T : hw_T} {b : List hw_V} {vb : List Value} (hb : hw_st T b vb) : ∀ {a : List hw_V} {va : List Value}, hw_st T a va → hw_st T (a ++ b) (va ++ vb) := by
  intro a
  induction a with
  | nil => intro va h; rw [show va = [] from h]; exact hb
  | cons v r ih =>
    intro va h
    obtain ⟨u, us', rfl, hv, h⟩ := h
    exact ⟨u, _, rfl, hv, ih h⟩
theorem hw_st_rev {T : hw_T} : ∀ {st : List hw_V} {us : List Value}, hw_st T st us → hw_st T st.reverse us.reverse := by
  intro st
  induction st with
  | nil => intro us h; rw [show us = [] from h]; rfl
  | cons v r ih =>
    intro us h
    obtain ⟨u, us', rfl, hv, h⟩ := h
    rw [List.reverse_cons, List.reverse_cons]
    exact hw_st_app (b := [v]) (vb := [u]) ⟨u, _, rfl, hv, rfl⟩ (ih h)
theorem hw_rk_ok {TT : mm_T} {T : hw_T} {Z : hw_Z} {S : mm_S} {stc : Bool} {oc : Nat} {as : List hw_V} {us : List Value} {P : Prop} (hR : hw_RS T Z S) (hs : hw_st T as us) (h : hw_rk TT T stc oc as P) : mm_rok TT stc oc us S = true ∧ P := by
  unfold hw_rk at h
  unfold mm_rok
  cases stc with
  | true => exact ⟨rfl, h⟩
  | false =>
    rw [Bool.false_or]
    rw [cond_false] at h
    split at h
    · rename_i k i0 r
      obtain ⟨u, us', rfl, hv, -⟩ := hs
      cases h1 : Nat.blt k 1000000 with
      | true =>
        rw [h1] at h
        rw [cond_true] at h
        obtain ⟨a, rfl, ha, hk⟩ := hw_own hv h1
        obtain ⟨hlt, hc⟩ := hR.2 a ha
        unfold hw_sh at hc
        rw [hk] at hc
        dsimp only at hc
        cases hT : T.1 k with
        | inr o => rw [hT] at h; exact h.elim
        | inl o =>
          obtain ⟨c, fs⟩ := o
          rw [hT] at h hc
          obtain ⟨vs, he, -⟩ := hc
          obtain ⟨h2, h7⟩ := hw_bif h
          rw [Bool.and_eq_true] at h2
          have h3 : c = oc := Nat.eq_of_beq_eq_true h2.1
          have h4 : ¬ oc = 998 := fun q => by rw [q] at h2; cases h2.2
          subst h3
          refine ⟨?_, h7⟩
          dsimp only
          rw [he]
          simp [hlt, h4]
      | false =>
        rw [h1] at h
        rw [cond_false] at h
        obtain ⟨h2, h7⟩ := hw_bif h
        rw [Bool.and_eq_true] at h2
        obtain ⟨hi, h8⟩ := hw_nxk_of h7
        obtain ⟨j, rfl, rfl, ho⟩ := hw_ostr (TT := TT) hv h2.1 hi
        have h4 : oc = 998 := Nat.eq_of_beq_eq_true h2.2
        refine ⟨?_, h8⟩
        dsimp only
        rw [ho, h4]
        simp
    · exact h.elim
