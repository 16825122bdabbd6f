/-! a method's entry; the program's data as the abstract machine has them -/
theorem hw_ls_none {T : hw_T} {n : Nat} {M : mm_L} (h : M.length = n) : hw_ls T (List.replicate n none) M := by
  refine ⟨by rw [h, List.length_replicate], fun i v hv => ?_⟩
  unfold hw_ld at hv
  rw [List.getElem?_replicate] at hv
  split at hv <;> cases hv
theorem hw_ls_cons {T : hw_T} {x : Option hw_V} {y : Option Value} {L : hw_L} {M : mm_L} (hx : ∀ v, x = some v → ∃ u, y = some u ∧ hw_v T v u) (h : hw_ls T L M) : hw_ls T (x :: L) (y :: M) := by
  refine ⟨by rw [List.length_cons, List.length_cons, h.1], fun i v hv => ?_⟩
  cases i with
  | zero =>
    have hv : x = some v := hv
    obtain ⟨u, h1, h2⟩ := hx v hv
    exact ⟨u, h1, h2⟩
  | succ i => exact h.2 i v hv
theorem hw_ls_flat {T : hw_T} {L : hw_L} {M : mm_L} (h : hw_ls T L M) : ∀ (args : List hw_V) (as : List Value), hw_st T args as → hw_ls T (args.flatMap (fun v => bif Nat.beq (hw_cat v) 2 then [some v, none] else [some v]) ++ L) (as.flatMap (fun v => if v.category = 2 then [some v, none] else [some v]) ++ M) := by
  intro args
  induction args with
  | nil => intro as hs; rw [show as = [] from hs]; exact h
  | cons v r ih =>
    intro as hs
    obtain ⟨u, us, rfl, hv, hr⟩ := hs
    have hq := ih us hr
    have hc := hw_v_cat hv
    rw [List.flatMap_cons, List.flatMap_cons, List.append_assoc, List.append_assoc]
    have h1 : ∀ w, some v = some w → ∃ u', some u = some u' ∧ hw_v T w u' := fun w e => by cases e; exact ⟨u, rfl, hv⟩
    cases hb : Nat.beq (hw_cat v) 2 with
    | true =>
      have e : u.category = 2 := by rw [hc]; exact Nat.eq_of_beq_eq_true hb
      rw [if_pos e]
      exact hw_ls_cons h1 (hw_ls_cons (fun w e => by cases e) hq)
    | false =>
      have e : ¬ u.category = 2 := by
        rw [hc]
        intro q
        rw [q] at hb
        cases hb
      rw [if_neg e]
      exact hw_ls_cons h1 hq
theorem hw_flat_len {T : hw_T} : ∀ (args : List hw_V) (as : List Value), hw_st T args as → (as.flatMap (fun v => if v.category = 2 then [some v, none] else [some v])).length = (args.flatMap (fun v => bif Nat.beq (hw_cat v) 2 then [some v, none] else [some v])).length := by
  intro args as hs
  have h := (hw_ls_flat (T := T) (L := []) (M := []) ⟨rfl, fun i v hv => by cases hv⟩ args as hs).1
  rw [List.append_nil, List.append_nil] at h
  exact h
theorem hw_ls_entry {T : hw_T} {args : List hw_V} {as : List Value} (nL : Nat) (hs : hw_st T args as) : hw_ls T (hw_entry nL args) (mm_entry nL as) := by
  unfold hw_entry mm_entry
  dsimp only
  rw [hw_flat_len args as hs]
  exact hw_ls_flat (hw_ls_none List.length_replicate) args as hs
section HWX
variable {G : mm_G} {TT : mm_T} {scr : Nat × (Nat → Int32)} {T : hw_T} {D : hw_D} {d g : Nat} {K : Option hw_V → hw_Z → Prop} {E : Nat → hw_Z → Prop}
/-- a method is walked from its entry -/
theorem hw_enter (hD : hw_DG D G) {args : List hw_V} {Z : hw_Z} {L : hw_L} (he : hw_nl (hw_entry (D.2.2.2 g).2.1 args) (fun l => L = l ∧ Nat.beq l.length (D.2.2.2 g).2.1 = true)) (h : hw_W G TT scr T d g K E (0, L, [], Z)) : hw_C G TT scr T (d + 1) g args Z K E := by
  intro as S Q hs hR hroom hK hE
  obtain ⟨rfl, hl⟩ := hw_nl_of he
  have hi := hD.2.2.1 g
  simp only [Prod.mk.injEq] at hi
  obtain ⟨i1, i2, i3, i4, i5⟩ := hi
  rw [← i2] at hl h
  have hq := hw_ls_entry (mm_nl G g) hs
  refine ⟨by rw [hq.1]; exact Nat.eq_of_beq_eq_true hl, ?_⟩
  exact h _ [] S Q hq rfl hR hroom hK hE
theorem hw_C_mono {args : List hw_V} {Z : hw_Z} {K' : Option hw_V → hw_Z → Prop} {E' : Nat → hw_Z → Prop} (h : hw_C G TT scr T d g args Z K E) (hK : ∀ r Z, K r Z → K' r Z) (hE : ∀ ec Z, E ec Z → E' ec Z) : hw_C G TT scr T d g args Z K' E' :=
  fun as S Q hs hR hroom h1 h2 => h as S Q hs hR hroom (fun r v Z' S' q => h1 r v Z' S' (hK _ _ q)) (fun ec Z' S' q => h2 ec Z' S' (hE _ _ q))
theorem hw_C_succ {args : List hw_V} {Z : hw_Z} (h : hw_C G TT scr T d g args Z K E) : hw_C G TT scr T (d + 1) g args Z K E :=
  fun as S Q hs hR hroom h1 h2 => mm_ex_succ _ _ _ _ _ (h as S Q hs hR hroom h1 h2)
theorem hw_C_le {d' : Nat} (hd : d ≤ d') {args : List hw_V} {Z : hw_Z} (h : hw_C G TT scr T d g args Z K E) : hw_C G TT scr T d' g args Z K E := by
  induction hd with
  | refl => exact h
  | step _ ih => exact hw_C_succ ih
end HWX
def hw_rc : Option FieldType → Nat
  | none => 0
  | some .int => 1
  | some .boolean => 2
  | some .long => 3
  | some (.object _) => 4
  | some .byte => 5
  | some .char => 6
  | _ => 7
/-- the program's data out of the small machine's; the pools written out -/
def hw_og (G : mm_G) (pl : Nat → Bool) (pool : Nat → Nat → Option hw_P) : hw_D := (fun f pc => bif pl f then mm_code G f pc else none, pool, fun f pc => mm_thr G f pc, fun f => (mm_oc G f, mm_nl G f, mm_na' G f, mm_ini G f, mm_stc G f, hw_rc (mm_rt G f)))
theorem hw_og_ok {G : mm_G} {pl : Nat → Bool} {pool : Nat → Nat → Option hw_P} (hh : ∀ f, pl f = true → ∀ pc ec, mm_hnd G f pc ec = some none) (hp : ∀ f, hw_pk (pool f) (mm_pool G f)) : hw_DG (hw_og G pl pool) G := by
  refine ⟨fun f pc e he => ?_, hp, fun f => rfl, fun f => ?_⟩
  · cases hq : pl f with
    | false =>
      have he : (bif pl f then mm_code G f pc else none) = some e := he
      rw [hq] at he
      cases he
    | true =>
      have he : (bif pl f then mm_code G f pc else none) = some e := he
      rw [hq] at he
      exact ⟨he, rfl, fun ec => hh f hq pc ec⟩
  · show (hw_rc (mm_rt G f) = 0 → _) ∧ (hw_rc (mm_rt G f) = 1 → _) ∧ (hw_rc (mm_rt G f) = 2 → _) ∧ (hw_rc (mm_rt G f) = 3 → _) ∧ (hw_rc (mm_rt G f) = 4 → _) ∧ (hw_rc (mm_rt G f) = 5 → _) ∧ (hw_rc (mm_rt G f) = 6 → _)
    generalize mm_rt G f = r
    unfold hw_rc
    refine ⟨fun h => ?_, fun h => ?_, fun h => ?_, fun h => ?_, fun h => ?_, fun h => ?_, fun h => ?_⟩
    all_goals (split at h <;> first | (cases h; done) | rfl | exact ⟨_, rfl⟩)
