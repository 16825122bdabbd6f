/-! the program's data, checked by places in the tables of words -/
def pg_gd (w : Jvm.Cond) : Bool := w.onTables && (w.keepsH || w.faceAtom)
def pg_Ts : List Jvm.Cond := lw_tbl.filter pg_gd
def pg_has (i : Nat) (w : Jvm.Cond) : Bool := decide (lw_tbl[i]? = some w) && pg_gd w
theorem pg_has_in {i : Nat} {w : Jvm.Cond} (h : pg_has i w = true) : w ∈ pg_Ts := by
  unfold pg_has at h
  rw [Bool.and_eq_true, decide_eq_true_eq] at h
  exact List.mem_filter.mpr ⟨List.mem_of_getElem? h.1, h.2⟩
theorem pg_look {α : Type} {x : Nat} {b : α} : ∀ {l : List (Nat × α)}, l.lookup x = some b → (x, b) ∈ l := by
  intro l
  induction l with
  | nil => intro h; cases h
  | cons q l ih =>
    intro h
    obtain ⟨y, c⟩ := q
    rw [List.lookup_cons] at h
    by_cases he : x = y
    · subst he
      simp at h
      subst h
      exact List.mem_cons_self
    · have : (x == y) = false := by simpa using he
      rw [this] at h
      exact List.mem_cons_of_mem _ (ih h)
abbrev pg_Row : Type := Nat × (mm_P × Nat × String)
/-- tables of places: of a class its name, 'instantiable', 'initialized'; of a method its code, 'initialized', 'static' or 'instanceMethod', 'selects' -/
abbrev pg_Wc : Type := Nat → String × Nat × Nat
abbrev pg_Wm : Type := Nat → Nat × Nat × Nat × Nat
def pg_row (cl : List vw_C) (aT : List FieldType) (T : mm_T) (yn : Nat → MethodName) (wc : pg_Wc) (own : String) (oc : Nat) (q : pg_Row) : Bool := match q.2.1 with
  | .inl (ci, k) => match cl[ci]? with
    | some r => decide (k < r.2.2) && (if q.2.2.2 = "" then pg_has q.2.2.1 (.fieldLink own q.1 (r.2.1 k).1 (r.2.1 k).2.1 (r.2.1 k).2.2.1) else decide (ci ≠ oc) && pg_has q.2.2.1 (.fieldLinkNest own q.1 (r.2.1 k).1 (r.2.1 k).2.1 (r.2.1 k).2.2.1 q.2.2.2)) && (decide (ci ≠ oc) || decide ((r.2.1 k).1 = own))
    | none => false
  | .inr (.inl 0) => pg_has q.2.2.1 (.methodLink own q.1 Lib.objectInit)
  | .inr (.inl (g + 1)) => if q.2.2.2 = "" then pg_has q.2.2.1 (.methodLink own q.1 (yn (g + 1))) else pg_has q.2.2.1 (.methodLinkNest own q.1 (yn (g + 1)) q.2.2.2)
  | .inr (.inr (.inl ci)) => pg_has q.2.2.1 (.classLink own q.1 (wc ci).1) && (match cl[ci]? with
    | some r => decide (r.1 = (wc ci).1) && pg_has (wc ci).2.1 (.instantiable (wc ci).1 r.2.2) && pg_has (wc ci).2.2 (.initialized (wc ci).1)
    | none => true) && (!(decide (3 ≤ mm_ka T ci) && decide (mm_ka T ci < mm_nk T)) || decide (aT[mm_ka T ci]? = some (.object (wc ci).1)))
  | .inr (.inr (.inr (.inl v))) => pg_has q.2.2.1 (.constant own q.1 v)
  | .inr (.inr (.inr (.inr (.inl v)))) => pg_has q.2.2.1 (.constantLong own q.1 v)
  | .inr (.inr (.inr (.inr (.inr z)))) => if z = 2000 then pg_has q.2.2.1 (.fieldLink own q.1 "java/lang/String" "value" "[B") else if z = 2001 then pg_has q.2.2.1 (.fieldLink own q.1 "java/lang/String" "coder" "B") else if z = 2002 then pg_has q.2.2.1 (.fieldLink own q.1 "java/lang/String" "COMPACT_STRINGS" "Z") else if z = 2003 then pg_has q.2.2.1 (.classLink own q.1 "java/lang/String") else if z = 2004 then pg_has q.2.2.1 (.fieldLink own q.1 "jdk/internal/util/Preconditions" "SIOOBE_FORMATTER" "Ljava/util/function/BiFunction;") else if z = 0 then pg_has q.2.2.1 (.methodLink own q.1 arraycopyName) else true
def pg_pool (pl : List pg_Row) (x : Nat) : Option mm_P := (pl.lookup x).map Prod.fst
theorem pg_pool_in {pl : List pg_Row} {x : Nat} {e : mm_P} (h : pg_pool pl x = some e) : ∃ w, (x, e, w) ∈ pl := by
  unfold pg_pool at h
  cases hq : pl.lookup x with
  | none => rw [hq] at h; cases h
  | some b =>
    rw [hq] at h
    obtain ⟨e', w⟩ := b
    cases h
    exact ⟨w, pg_look hq⟩
set_option maxHeartbeats 1000000 in
theorem pg_pl {cl : List vw_C} {aT : List FieldType} {T : mm_T} {yn : Nat → MethodName} {wc : pg_Wc} {own : String} {oc : Nat} {pl : List pg_Row} (h : pl.all (pg_row cl aT T yn wc own oc) = true) : mm_plOK pg_Ts cl aT T own oc (pg_pool pl) := by
  have key : ∀ {x e}, pg_pool pl x = some e → ∃ w, pg_row cl aT T yn wc own oc (x, e, w) = true := by
    intro x e hq
    obtain ⟨w, hw⟩ := pg_pool_in hq
    exact ⟨w, List.all_eq_true.mp h _ hw⟩
  refine ⟨fun x ci k hq => ?_, fun x ci hq => ?_, fun x v hq => ?_, fun x v hq => ?_⟩
  · obtain ⟨w, hr⟩ := key hq
    unfold pg_row at hr
    dsimp only at hr
    cases hc : cl[ci]? with
    | none => rw [hc] at hr; cases hr
    | some r =>
      rw [hc] at hr
      dsimp only at hr
      rw [Bool.and_eq_true, Bool.and_eq_true, decide_eq_true_eq] at hr
      obtain ⟨⟨h1, h2⟩, h3⟩ := hr
      refine ⟨r, rfl, h1, ?_, fun e => ?_⟩
      · split at h2
        · exact Or.inl (pg_has_in h2)
        · rw [Bool.and_eq_true, decide_eq_true_eq] at h2
          exact Or.inr ⟨h2.1, _, pg_has_in h2.2⟩
      · rw [Bool.or_eq_true, decide_eq_true_eq, decide_eq_true_eq] at h3
        rcases h3 with h3 | h3
        · exact absurd e h3
        · exact h3
  · obtain ⟨w, hr⟩ := key hq
    unfold pg_row at hr
    dsimp only at hr
    rw [Bool.and_eq_true, Bool.and_eq_true] at hr
    obtain ⟨⟨h1, h2⟩, h3⟩ := hr
    refine ⟨(wc ci).1, pg_has_in h1, fun r hc => ?_, fun a b => ?_⟩
    · rw [hc] at h2
      dsimp only at h2
      rw [Bool.and_eq_true, Bool.and_eq_true, decide_eq_true_eq] at h2
      exact ⟨h2.1.1, pg_has_in h2.1.2, pg_has_in h2.2⟩
    · rw [Bool.or_eq_true, decide_eq_true_eq] at h3
      rcases h3 with h3 | h3
      · simp [a, b] at h3
      · exact h3
  · obtain ⟨w, hr⟩ := key hq
    exact pg_has_in hr
  · obtain ⟨w, hr⟩ := key hq
    exact pg_has_in hr
/-- a method's own words -/
theorem pg_p2 {cl : List vw_C} {aT : List FieldType} {T : mm_T} {yn : Nat → MethodName} {wc : pg_Wc} {own : String} {oc : Nat} {pl : List pg_Row} (h : pl.all (pg_row cl aT T yn wc own oc) = true) (hc : Jvm.Cond.native arraycopyName ∈ pg_Ts ∧ Jvm.Cond.static arraycopyName ∈ pg_Ts ∧ Jvm.Cond.initialized "java/lang/System" ∈ pg_Ts) : mm_pk2 pg_Ts own (pg_pool pl) := by
  intro x q hq
  obtain ⟨w, hw⟩ := pg_pool_in hq
  have hr := List.all_eq_true.mp h _ hw
  unfold pg_row at hr
  dsimp only at hr
  refine ⟨fun e => ?_, fun e => ?_, fun e => ?_, fun e => ?_, fun e => ?_, fun e => ?_⟩
  · subst e; exact pg_has_in hr
  · subst e; exact pg_has_in hr
  · subst e; exact pg_has_in hr
  · subst e; exact pg_has_in hr
  · subst e; exact pg_has_in hr
  · subst e; exact ⟨pg_has_in hr, hc⟩
def pg_mok (cl : List vw_C) (G : mm_G) (yn : Nat → MethodName) (cc : Nat → ByteArray) (hh : Nat → List (Nat × Nat × Nat × Nat)) (wm : pg_Wm) (g : Nat) : Bool :=
  pg_has (wm g).1 (mm_cw yn cc hh G g) && pg_has (wm g).2.1 (.initialized (yn g).cls) && decide (mm_nl G g ≤ 40) && decide ((yn g).cls ≠ "java/lang/invoke/MethodHandle") && decide ((yn g).cls ≠ "java/lang/invoke/VarHandle") &&
    (if mm_stc G g = true then pg_has (wm g).2.2.1 (.static (yn g)) && decide ((parseMethodDescriptor (yn g).desc).map (fun d => d.parameters.length) = some (mm_na' G g))
     else decide (hh g = []) && pg_has (wm g).2.2.1 (.instanceMethod (yn g)) && decide ((parseMethodDescriptor (yn g).desc).map (fun d => d.parameters.length + 1) = some (mm_na' G g)) &&
       (if mm_ini G g = true then decide ((yn g).name = "<init>") && decide (mm_rt G g = none) else if mm_oc G g = 998 then pg_has (wm g).2.2.2 (.selects "java/lang/String" (yn g) (yn g)) else match cl[mm_oc G g]? with
         | some r => pg_has (wm g).2.2.2 (.selects r.1 (yn g) (yn g))
         | none => false))
set_option maxHeartbeats 1000000 in
theorem pg_mp {cl : List vw_C} {aT : List FieldType} {T : mm_T} {G : mm_G} {yn : Nat → MethodName} {cc : Nat → ByteArray} {hh : Nat → List (Nat × Nat × Nat × Nat)} {wc : pg_Wc} {wm : pg_Wm} {own : Nat → String} {oc f : Nat} {pl : List pg_Row}
    (hpl : mm_pool G f = pg_pool pl) (h : pl.all (pg_row cl aT T yn wc (own f) oc) = true) (ho : Jvm.Cond.instanceMethod Lib.objectInit ∈ pg_Ts ∧ Jvm.Cond.code Lib.objectInit ⟨#[0xb1]⟩ 1 none ∈ pg_Ts)
    (hm : ∀ g w x, (x, (.inr (.inl (g + 1)) : mm_P), w) ∈ pl → pg_mok cl G yn cc hh wm (g + 1) = true) : mm_mpOK pg_Ts G yn cc hh cl own f := by
  intro x g hq
  rw [hpl] at hq
  obtain ⟨w, hw⟩ := pg_pool_in hq
  have hr := List.all_eq_true.mp h _ hw
  cases g with
  | zero =>
    exact Or.inl ⟨rfl, pg_has_in hr, ho.1, ho.2⟩
  | succ g =>
    refine Or.inr ⟨Nat.succ_pos _, ?_, ?_⟩
    · unfold pg_row at hr
      dsimp only at hr
      split at hr
      · exact Or.inl (pg_has_in hr)
      · exact Or.inr ⟨_, pg_has_in hr⟩
    · have hk := hm g w x hw
      unfold pg_mok at hk
      simp only [Bool.and_eq_true, decide_eq_true_eq] at hk
      obtain ⟨⟨⟨⟨⟨h1, h2⟩, h3⟩, h4⟩, h5⟩, h6⟩ := hk
      refine ⟨pg_has_in h1, pg_has_in h2, h3, ⟨h4, h5⟩, fun hs => ?_, fun hs => ?_⟩
      · rw [if_pos hs] at h6
        rw [Bool.and_eq_true, decide_eq_true_eq] at h6
        exact ⟨pg_has_in h6.1, h6.2⟩
      · rw [if_neg (by rw [hs]; decide)] at h6
        simp only [Bool.and_eq_true, decide_eq_true_eq] at h6
        obtain ⟨⟨⟨a1, a2⟩, a3⟩, a4⟩ := h6
        refine ⟨a1, pg_has_in a2, a3, fun hi => ?_, fun hi => ?_⟩
        · rw [if_pos hi] at a4
          rw [Bool.and_eq_true, decide_eq_true_eq, decide_eq_true_eq] at a4
          exact a4
        · rw [if_neg (by rw [hi]; decide)] at a4
          by_cases h8 : mm_oc G (g + 1) = 998
          · rw [if_pos h8] at a4
            exact Or.inr ⟨h8, pg_has_in a4⟩
          · rw [if_neg h8] at a4
            cases hc : cl[mm_oc G (g + 1)]? with
            | none => rw [hc] at a4; cases a4
            | some r =>
              rw [hc] at a4
              exact Or.inl ⟨h8, r, rfl, pg_has_in a4⟩
/-- a row of code -/
def pg_sw : Instr → Bool
  | .tableswitch _ _ _ _ => true
  | .lookupswitch _ _ => true
  | _ => false
def pg_tg (pc tg : Nat) : Instr → Bool
  | .ifCond _ o => decide ((pc : Int) + o = (tg : Int))
  | .if_icmp _ o => decide ((pc : Int) + o = (tg : Int))
  | .goto o => decide ((pc : Int) + o = (tg : Int))
  | .if_acmp _ o => decide ((pc : Int) + o = (tg : Int))
  | _ => true
def pg_ok (cc : ByteArray) (q : Nat × Instr × Nat × Nat) : Bool := decide (decode cc q.1 = .ok (q.2.1, q.2.2.1 - q.1)) && decide (q.1 < q.2.2.1) && (pg_sw q.2.1 || decide (q.2.2.1 - q.1 = mm_len q.2.1)) && pg_tg q.1 q.2.2.2 q.2.1
theorem pg_code_ok {cc : ByteArray} {l : List (Nat × Instr × Nat × Nat)} (h : l.all (pg_ok cc) = true) : ∀ pc i nx tg, l.lookup pc = some (i, nx, tg) → mm_ok cc pc i nx tg := by
  intro pc i nx tg hq
  have hk := List.all_eq_true.mp h _ (pg_look hq)
  unfold pg_ok at hk
  simp only [Bool.and_eq_true, decide_eq_true_eq, Bool.or_eq_true] at hk
  obtain ⟨⟨⟨h1, h2⟩, h3⟩, h4⟩ := hk
  refine ⟨⟨nx - pc, h1, by omega, fun hn hn2 => ?_⟩, ?_⟩
  · rcases h3 with h3 | h3
    · exfalso
      cases i <;> first | (cases h3; done) | exact hn _ _ _ _ rfl | exact hn2 _ _ rfl
    · exact h3
  · unfold mm_tgt
    unfold pg_tg at h4
    cases i <;> first | trivial | (dsimp only at h4 ⊢; exact of_decide_eq_true h4)
