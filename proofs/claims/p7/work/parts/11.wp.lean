/-! the small machine's runs: a method's walk, its calls by what they promise -/
abbrev mm_G : Type := (Nat → Nat → Option (Instr × Nat × Nat)) × (Nat → Nat → Option mm_P) × (Nat → Nat × Nat × Nat × Bool × Bool) × (Nat → Option FieldType) × (Nat → Nat → Option Nat) × (Nat → Nat → Nat → Option (Option Nat))
abbrev mm_code (G : mm_G) := G.1
abbrev mm_pool (G : mm_G) := G.2.1
abbrev mm_oc (G : mm_G) (f : Nat) : Nat := (G.2.2.1 f).1
abbrev mm_nl (G : mm_G) (f : Nat) : Nat := (G.2.2.1 f).2.1
abbrev mm_na' (G : mm_G) (f : Nat) : Nat := (G.2.2.1 f).2.2.1
abbrev mm_ini (G : mm_G) (f : Nat) : Bool := (G.2.2.1 f).2.2.2.1
abbrev mm_stc (G : mm_G) (f : Nat) : Bool := (G.2.2.1 f).2.2.2.2
abbrev mm_rt (G : mm_G) := G.2.2.2.1
abbrev mm_thr (G : mm_G) := G.2.2.2.2.1
abbrev mm_hnd (G : mm_G) := G.2.2.2.2.2
def mm_entry (nL : Nat) (vs : List Value) : mm_L :=
  let l := vs.flatMap (fun v => if v.category = 2 then [some v, none] else [some v])
  l ++ List.replicate (nL - l.length) none
/-- a receiver of the right class, or none wanted -/
def mm_rok (T : mm_T) (stc : Bool) (oc : Nat) (as : List Value) (S : mm_S) : Bool := stc || (match as with
  | .ref b :: _ => (decide (b < S.1) && (match S.2.2 b with
    | .inr (c, _) => decide (c = oc) && decide (oc ≠ 998)
    | _ => false)) || (decide (oc = 998) && mm_ost T b)
  | _ => false)
abbrev mm_XR : Type := Nat → List Value → mm_S → (mm_O → mm_S → Prop) → Prop
def mm_cl (G : mm_G) (T : mm_T) (X : mm_XR) (f g : Nat) (w : mm_Kf → Prop) (Q : mm_O → mm_S → Prop) (pc nx : Nat) (L : mm_L) (st : List Value) (S : mm_S) : Prop :=
  (S.1 ≤ mm_lc T ∧ S.2.1 ≤ mm_lsl T) ∧ mm_na' G g ≤ st.length ∧ ((st.drop (mm_na' G g)).map Value.category).sum ≤ 8 ∧ mm_rok T (mm_stc G g) (mm_oc G g) (st.take (mm_na' G g)).reverse S = true ∧
    X g (st.take (mm_na' G g)).reverse S (fun o S' => match o with
      | .inl v => w (nx, L, v.toList ++ st.drop (mm_na' G g), S')
      | .inr (ec, a) => match mm_hnd G f pc ec with
        | some (some h) => (a < S'.1 ∧ ∃ vs, S'.2.2 a = .inr (ec, vs)) ∧ w (h, L, [.ref a], S')
        | some none => Q (.inr (ec, a)) S'
        | none => False)
def mm_body (G : mm_G) (T : mm_T) (scr : Nat × (Nat → Int32)) (X : mm_XR) (f : Nat) (Q : mm_O → mm_S → Prop) (w : mm_Kf → Prop) (pc : Nat) (L : mm_L) (st : List Value) (S : mm_S) : Option (Instr × Nat × Nat) → Prop
  | none => False
  | some (i, nx, tg) => match i with
    | .return_ => st = [] ∧ mm_rt G f = none ∧ Q (.inl none) S
    | .ireturn => ∃ v, st = [.int v] ∧ (∃ ty, mm_rt G f = some ty ∧ narrow ty (.int v) = .int v) ∧ Q (.inl (some (.int v))) S
    | .lreturn => ∃ v, st = [.long v] ∧ mm_rt G f = some .long ∧ Q (.inl (some (.long v))) S
    | .areturn => ∃ a, st = [.ref a] ∧ (∃ nm, mm_rt G f = some (.object nm)) ∧ Q (.inl (some (.ref a))) S
    | .invokespecial x => match mm_pool G f x with
      | some (.inr (.inl 0)) => ∃ a r, st = .ref a :: r ∧ (r.map Value.category).sum ≤ 8 ∧ w (nx, L, r, S)
      | some (.inr (.inl (g + 1))) => mm_stc G (g + 1) = false ∧ mm_ini G (g + 1) = true ∧ mm_cl G T X f (g + 1) w Q pc nx L st S
      | _ => False
    | .invokevirtual x => match mm_pool G f x with
      | some (.inr (.inl (g + 1))) => mm_stc G (g + 1) = false ∧ mm_ini G (g + 1) = false ∧ mm_cl G T X f (g + 1) w Q pc nx L st S
      | _ => False
    | .invokestatic x => match mm_pool G f x with
      | some (.inr (.inl (g + 1))) => mm_stc G (g + 1) = true ∧ mm_cl G T X f (g + 1) w Q pc nx L st S
      | _ => match mm_st2 T (mm_pool G f) scr (.invokestatic x) nx tg L st S with
        | some k => w k
        | none => False
    | i => match mm_thr G f pc with
      | some ec => S.1 + 1 ≤ mm_lc T ∧ S.2.1 + 6 ≤ mm_lsl T ∧ (st.map Value.category).sum ≤ 8 ∧ Q (.inr (ec, S.1)) (mm_add S 6 (.inr (ec, [])))
      | none => match mm_st0 i pc nx tg L st S with
        | some k => w k
        | none => match mm_st1 T (mm_ini G f) (mm_oc G f) (mm_pool G f) scr i nx L st S with
          | some k => w k
          | none => match mm_st2 T (mm_pool G f) scr i nx tg L st S with
            | some k => w k
            | none => False
def mm_wp (G : mm_G) (T : mm_T) (scr : Nat × (Nat → Int32)) (X : mm_XR) (f : Nat) (Q : mm_O → mm_S → Prop) : Nat → mm_Kf → Prop
  | 0, _ => False
  | n + 1, k => mm_body G T scr X f Q (mm_wp G T scr X f Q n) k.1 k.2.1 k.2.2.1 k.2.2.2 (mm_code G f k.1)
/-- a method's promise, its calls nested at most d deep -/
def mm_ex (G : mm_G) (T : mm_T) (scr : Nat × (Nat → Int32)) : Nat → mm_XR
  | 0 => fun _ _ _ _ => False
  | d + 1 => fun g as S Q => (mm_entry (mm_nl G g) as).length = mm_nl G g ∧ ∃ n, mm_wp G T scr (mm_ex G T scr d) g Q n (0, mm_entry (mm_nl G g) as, [], S)
theorem mm_body_mono {G : mm_G} {T : mm_T} {scr : Nat × (Nat → Int32)} {X X' : mm_XR} {f : Nat} {Q Q' : mm_O → mm_S → Prop} {w w' : mm_Kf → Prop} (hX : ∀ g as S (P P' : mm_O → mm_S → Prop), (∀ o S', P o S' → P' o S') → X g as S P → X' g as S P') (hQ : ∀ o S, Q o S → Q' o S) (hw : ∀ k, w k → w' k)
    {pc : Nat} {L : mm_L} {st : List Value} {S : mm_S} {en : Option (Instr × Nat × Nat)} (h : mm_body G T scr X f Q w pc L st S en) : mm_body G T scr X' f Q' w' pc L st S en := by
  have hcl : ∀ g nx, mm_cl G T X f g w Q pc nx L st S → mm_cl G T X' f g w' Q' pc nx L st S := by
    intro g nx ⟨h0, h1, h2, h3, h4⟩
    refine ⟨h0, h1, h2, h3, hX _ _ _ _ _ (fun o S' h => ?_) h4⟩
    rcases o with v | ⟨ec, a⟩
    · exact hw _ h
    · dsimp only at h ⊢
      cases hh : mm_hnd G f pc ec with
      | none => rw [hh] at h; exact h
      | some q =>
        rw [hh] at h
        cases q with
        | none => exact hQ _ _ h
        | some q => exact ⟨h.1, hw _ h.2⟩
  rcases en with _ | ⟨i, nx, tg⟩
  · exact h
  have key : (match mm_thr G f pc with
      | some ec => S.1 + 1 ≤ mm_lc T ∧ S.2.1 + 6 ≤ mm_lsl T ∧ (st.map Value.category).sum ≤ 8 ∧ Q (.inr (ec, S.1)) (mm_add S 6 (.inr (ec, [])))
      | none => match mm_st0 i pc nx tg L st S with
        | some k => w k
        | none => match mm_st1 T (mm_ini G f) (mm_oc G f) (mm_pool G f) scr i nx L st S with
          | some k => w k
          | none => match mm_st2 T (mm_pool G f) scr i nx tg L st S with
            | some k => w k
            | none => False) → (match mm_thr G f pc with
      | some ec => S.1 + 1 ≤ mm_lc T ∧ S.2.1 + 6 ≤ mm_lsl T ∧ (st.map Value.category).sum ≤ 8 ∧ Q' (.inr (ec, S.1)) (mm_add S 6 (.inr (ec, [])))
      | none => match mm_st0 i pc nx tg L st S with
        | some k => w' k
        | none => match mm_st1 T (mm_ini G f) (mm_oc G f) (mm_pool G f) scr i nx L st S with
          | some k => w' k
          | none => match mm_st2 T (mm_pool G f) scr i nx tg L st S with
            | some k => w' k
            | none => False) := by
    generalize mm_thr G f pc = o1
    generalize mm_st0 i pc nx tg L st S = o2
    generalize mm_st1 T (mm_ini G f) (mm_oc G f) (mm_pool G f) scr i nx L st S = o3
    generalize mm_st2 T (mm_pool G f) scr i nx tg L st S = o4
    intro h
    rcases o1 with _ | ec
    · rcases o2 with _ | k
      · rcases o3 with _ | k
        · rcases o4 with _ | k
          · exact h
          · exact hw _ h
        · exact hw _ h
      · exact hw _ h
    · exact ⟨h.1, h.2.1, h.2.2.1, hQ _ _ h.2.2.2⟩
  cases i
  case return_ => exact ⟨h.1, h.2.1, hQ _ _ h.2.2⟩
  case ireturn => obtain ⟨v, a, b, q⟩ := h; exact ⟨v, a, b, hQ _ _ q⟩
  case lreturn => obtain ⟨v, a, b, q⟩ := h; exact ⟨v, a, b, hQ _ _ q⟩
  case areturn => obtain ⟨v, a, b, q⟩ := h; exact ⟨v, a, b, hQ _ _ q⟩
  case invokespecial x =>
    unfold mm_body at h ⊢
    dsimp only at h ⊢
    split at h
    · obtain ⟨a, r, b, q, z⟩ := h
      exact ⟨a, r, b, q, hw _ z⟩
    · exact ⟨h.1, h.2.1, hcl _ _ h.2.2⟩
    · exact h
  case invokevirtual x =>
    unfold mm_body at h ⊢
    dsimp only at h ⊢
    split at h
    · exact ⟨h.1, h.2.1, hcl _ _ h.2.2⟩
    · exact h
  case invokestatic x =>
    unfold mm_body at h ⊢
    dsimp only at h ⊢
    split at h
    · exact ⟨h.1, hcl _ _ h.2⟩
    · split at h
      · exact hw _ h
      · exact h
  all_goals exact key h
theorem mm_wp_mono {G : mm_G} {T : mm_T} {scr : Nat × (Nat → Int32)} {X X' : mm_XR} {f : Nat} {Q Q' : mm_O → mm_S → Prop} (hX : ∀ g as S (P P' : mm_O → mm_S → Prop), (∀ o S', P o S' → P' o S') → X g as S P → X' g as S P') (hQ : ∀ o S, Q o S → Q' o S) :
    ∀ (n : Nat) (k : mm_Kf), mm_wp G T scr X f Q n k → mm_wp G T scr X' f Q' n k := by
  intro n
  induction n with
  | zero => intro k h; exact h
  | succ n ih =>
    intro k h
    exact mm_body_mono hX hQ ih h
theorem mm_ex_mono {G : mm_G} {T : mm_T} {scr : Nat × (Nat → Int32)} : ∀ (d : Nat) (g : Nat) (as : List Value) (S : mm_S) (P P' : mm_O → mm_S → Prop), (∀ o S', P o S' → P' o S') → mm_ex G T scr d g as S P → mm_ex G T scr d g as S P' := by
  intro d
  induction d with
  | zero => intro g as S P P' _ h; exact h
  | succ d ih =>
    intro g as S P P' hP ⟨hl, n, h⟩
    exact ⟨hl, n, mm_wp_mono ih hP n _ h⟩
theorem mm_ex_succ {G : mm_G} {T : mm_T} {scr : Nat × (Nat → Int32)} : ∀ (d : Nat) (g : Nat) (as : List Value) (S : mm_S) (P : mm_O → mm_S → Prop), mm_ex G T scr d g as S P → mm_ex G T scr (d + 1) g as S P := by
  intro d
  induction d with
  | zero => intro g as S P h; exact h.elim
  | succ d ih =>
    intro g as S P ⟨hl, n, h⟩
    exact ⟨hl, n, mm_wp_mono (X := mm_ex G T scr d) (X' := mm_ex G T scr (d + 1)) (fun g as S P P' hP h => mm_ex_mono (d + 1) g as S P P' hP (ih g as S P h)) (fun _ _ h => h) n _ h⟩
