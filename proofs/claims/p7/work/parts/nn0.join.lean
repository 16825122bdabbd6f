/-! two promises of one call, of two views -/
section YJN2
variable {scr : Nat × (Nat → Int32)} {T T2 : hw_T} {K K1 K2 : Option hw_V → hw_Z → Prop} {E E1 E2 : Nat → hw_Z → Prop} {Z : hw_Z} {d gm : Nat} {args : List hw_V}
def jQ (T : hw_T) (S : mm_S) (K : Option hw_V → hw_Z → Prop) (E : Nat → hw_Z → Prop) (o : mm_O) (S' : mm_S) : Prop := (∃ r v Z', o = .inl v ∧ K r Z' ∧ hw_vo T r v ∧ hw_RS T Z' S' ∧ hw_el T S S') ∨ (∃ ec Z' S0, o = .inr (ec, S0.1) ∧ S' = mm_add S0 6 (.inr (ec, [])) ∧ E ec Z' ∧ hw_RS T Z' S0 ∧ hw_el T S S0)
theorem jC {as : List Value} {S : mm_S} (h : hw_C pg_G pg_TT scr T d gm args Z K E) (hst : hw_st T args as) (hR : hw_RS T Z S) (hr : hw_room pg_TT S) : mm_ex pg_G pg_TT scr d gm as S (jQ T S K E) := h as S _ hst hR hr (fun r v Z' S' a b c e => Or.inl ⟨r, v, Z', rfl, a, b, c, e⟩) (fun ec Z' S' a b c => Or.inr ⟨ec, Z', S', rfl, rfl, a, b, c⟩)
theorem jJ (h1 : hw_C pg_G pg_TT scr T d gm args Z K1 E1) (h2 : ∀ S, hw_RS T Z S → ∃ Z2, hw_RS T2 Z2 S ∧ hw_C pg_G pg_TT scr T2 d gm args Z2 K2 E2) (hv : ∀ as, hw_st T args as → hw_st T2 args as) (hK : ∀ r1 r2 v Z' Z2', K1 r1 Z' → K2 r2 Z2' → hw_vo T r1 v → hw_vo T2 r2 v → K r1 Z') (hE : ∀ ec Z' Z2', E1 ec Z' → E2 ec Z2' → E ec Z') : hw_C pg_G pg_TT scr T d gm args Z K E := by
  intro as S Q hst hR hr q1 q2
  obtain ⟨Z2, hR2, h2⟩ := h2 S hR
  have A := jC h1 hst hR hr
  have B := jC h2 (hv as hst) hR2 hr
  refine mm_ex_mono d gm as S _ _ (fun o S' hj => ?_) (mm_ex_and d gm as S _ _ A B)
  obtain ⟨a, b⟩ := hj
  rcases a with ⟨r, v, Z', e1, a1, a2, a3, a4⟩ | ⟨ec, Z', S0, e1, e2, a1, a2, a3⟩
  · subst e1
    rcases b with ⟨r', v', Z'', e1, b1, b2, b3, b4⟩ | ⟨ec', Z'', S0', e1, e2, b1, b2, b3⟩
    · injection e1 with e1
      subst e1
      exact q1 r v Z' S' (hK r r' v Z' Z'' a1 b1 a2 b2) a2 a3 a4
    · cases e1
  · subst e1 e2
    rcases b with ⟨r', v', Z'', e1, b1, b2, b3, b4⟩ | ⟨ec', Z'', S0', e1, e2, b1, b2, b3⟩
    · cases e1
    · injection e1 with e1
      injection e1 with e1 e3
      subst e1
      exact q2 ec Z' S0 (hE ec Z' Z'' a1 b1) a2 a3
theorem hw_st_m {K1 K2 : Nat → hw_S} {R : (Nat → Nat × Int) × (Nat → Prop) × (Int → Int)} : ∀ (args : List hw_V) (as : List Value), hw_st (K1, R) args as → hw_st (K2, R) args as := by
  intro args
  induction args with
  | nil => intro as h; exact h
  | cons v r ih =>
    intro as h
    obtain ⟨u, us, h1, h2, h3⟩ := h
    exact ⟨u, us, h1, hw_v_m h2, ih us h3⟩
theorem l_cons {α : Type} {F : List α} {n : Nat} (h : F.length = n + 1) : ∃ a F', F = a :: F' ∧ F'.length = n := by
  cases F with
  | nil => cases h
  | cons a F' => exact ⟨a, F', rfl, by rw [List.length_cons] at h; omega⟩
theorem l_nil {α : Type} {F : List α} (h : F.length = 0) : F = [] := List.length_eq_zero_iff.mp h
theorem j_vo {v : Option Value} {x y : Int} (h : hw_vo T (some (hw_I x)) v) (h' : hw_vo T2 (some (hw_I y)) v) : x = y := by
  obtain ⟨u, e1, i, e2, e3⟩ := h
  obtain ⟨u', e4, i', e5, e6⟩ := h'
  subst e1
  injection e4 with e4
  subst e4
  subst e2
  injection e5 with e5
  subst e5
  omega
end YJN2
