/-! a run of the small machine comes to one end -/
theorem mm_body_det {G : mm_G} {T : mm_T} {scr : Nat × (Nat → Int32)} {X : mm_XR} {f : Nat} {Q : mm_O → mm_S → Prop} {w : mm_Kf → Prop} {w' : mm_O → mm_S → mm_Kf → Prop}
    (hX : ∀ g as S (P : mm_O → mm_S → Prop), X g as S P → ∃ o S', P o S' ∧ X g as S (fun o1 S1 => o1 = o ∧ S1 = S')) (hm : ∀ g as S (P P' : mm_O → mm_S → Prop), (∀ o S', P o S' → P' o S') → X g as S P → X g as S P')
    (hw : ∀ k, w k → ∃ o S', Q o S' ∧ w' o S' k) {pc : Nat} {L : mm_L} {st : List Value} {S : mm_S} {en : Option (Instr × Nat × Nat)} (h : mm_body G T scr X f Q w pc L st S en) :
    ∃ o S', Q o S' ∧ mm_body G T scr X f (fun o1 S1 => o1 = o ∧ S1 = S') (w' o S') pc L st S en := by
  have hcl : ∀ g nx, mm_cl G T X f g w Q pc nx L st S → ∃ o S', Q o S' ∧ mm_cl G T X f g (w' o S') (fun o1 S1 => o1 = o ∧ S1 = S') pc nx L st S := by
    intro g nx ⟨h0, h1, h2, h3, h4⟩
    obtain ⟨o1, S1, hq, hx⟩ := hX _ _ _ _ h4
    rcases o1 with v | ⟨ec, a⟩
    · obtain ⟨o, S', hQ, hw'⟩ := hw _ hq
      refine ⟨o, S', hQ, h0, h1, h2, h3, hm _ _ _ _ _ (fun o2 S2 e => ?_) hx⟩
      obtain ⟨rfl, rfl⟩ := e
      exact hw'
    · dsimp only at hq
      cases hh : mm_hnd G f pc ec with
      | none => rw [hh] at hq; exact hq.elim
      | some q =>
        rw [hh] at hq
        cases q with
        | none =>
          refine ⟨_, _, hq, h0, h1, h2, h3, hm _ _ _ _ _ (fun o2 S2 e => ?_) hx⟩
          obtain ⟨rfl, rfl⟩ := e
          dsimp only
          rw [hh]
          exact ⟨rfl, rfl⟩
        | some q =>
          obtain ⟨o, S', hQ, hw'⟩ := hw _ hq.2
          refine ⟨o, S', hQ, h0, h1, h2, h3, hm _ _ _ _ _ (fun o2 S2 e => ?_) hx⟩
          obtain ⟨rfl, rfl⟩ := e
          dsimp only
          rw [hh]
          exact ⟨hq.1, hw'⟩
  rcases en with _ | ⟨i, nx, tg⟩
  · exact h.elim
  have key : (match mm_thr G f pc with
      | some ec => S.1 + 1 ≤ mm_lc T ∧ S.2.1 + 6 ≤ mm_lsl T ∧ (st.map Value.category).sum ≤ 8 ∧ Q (.inr (ec, S.1)) (mm_add S 6 (.inr (ec, [])))
      | none => match mm_st0 i pc nx tg L st S with
        | some k => w k
        | none => match mm_st1 T (mm_ini G f) (mm_oc G f) (mm_pool G f) scr i nx L st S with
          | some k => w k
          | none => match mm_st2 T (mm_pool G f) scr i nx tg L st S with
            | some k => w k
            | none => False) → ∃ o S', Q o S' ∧ (match mm_thr G f pc with
      | some ec => S.1 + 1 ≤ mm_lc T ∧ S.2.1 + 6 ≤ mm_lsl T ∧ (st.map Value.category).sum ≤ 8 ∧ (Sum.inr (ec, S.1) = o ∧ (mm_add S 6 (.inr (ec, []))) = S')
      | none => match mm_st0 i pc nx tg L st S with
        | some k => w' o S' k
        | none => match mm_st1 T (mm_ini G f) (mm_oc G f) (mm_pool G f) scr i nx L st S with
          | some k => w' o S' k
          | none => match mm_st2 T (mm_pool G f) scr i nx tg L st S with
            | some k => w' o S' k
            | none => False) := by
    generalize mm_thr G f pc = o1
    generalize mm_st0 i pc nx tg L st S = o2
    generalize mm_st1 T (mm_ini G f) (mm_oc G f) (mm_pool G f) scr i nx L st S = o3
    generalize mm_st2 T (mm_pool G f) scr i nx tg L st S = o4
    intro h
    rcases o1 with _ | ec
    · rcases o2 with _ | k
      · rcases o3 with _ | k
        · rcases o4 with _ | k
          · exact h.elim
          · exact hw _ h
        · exact hw _ h
      · exact hw _ h
    · exact ⟨_, _, h.2.2.2, h.1, h.2.1, h.2.2.1, rfl, rfl⟩
  cases i
  case return_ => exact ⟨_, _, h.2.2, h.1, h.2.1, rfl, rfl⟩
  case ireturn => obtain ⟨v, a, b, q⟩ := h; exact ⟨_, _, q, v, a, b, rfl, rfl⟩
  case lreturn => obtain ⟨v, a, b, q⟩ := h; exact ⟨_, _, q, v, a, b, rfl, rfl⟩
  case areturn => obtain ⟨v, a, b, q⟩ := h; exact ⟨_, _, q, v, a, b, rfl, rfl⟩
  case invokespecial x =>
    unfold mm_body at h ⊢
    dsimp only at h ⊢
    split at h
    · obtain ⟨a, r, b, q, z⟩ := h
      obtain ⟨o, S', h1, h2⟩ := hw _ z
      exact ⟨o, S', h1, a, r, b, q, h2⟩
    · obtain ⟨o, S', h1, h2⟩ := hcl _ _ h.2.2
      exact ⟨o, S', h1, h.1, h.2.1, h2⟩
    · exact h.elim
  case invokevirtual x =>
    unfold mm_body at h ⊢
    dsimp only at h ⊢
    split at h
    · obtain ⟨o, S', h1, h2⟩ := hcl _ _ h.2.2
      exact ⟨o, S', h1, h.1, h.2.1, h2⟩
    · exact h.elim
  case invokestatic x =>
    unfold mm_body at h ⊢
    dsimp only at h ⊢
    split at h
    · obtain ⟨o, S', h1, h2⟩ := hcl _ _ h.2
      exact ⟨o, S', h1, h.1, h2⟩
    · split at h
      · exact hw _ h
      · exact h.elim
  all_goals exact key h
theorem mm_wp_det {G : mm_G} {T : mm_T} {scr : Nat × (Nat → Int32)} {X : mm_XR} {f : Nat}
    (hX : ∀ g as S (P : mm_O → mm_S → Prop), X g as S P → ∃ o S', P o S' ∧ X g as S (fun o1 S1 => o1 = o ∧ S1 = S')) (hm : ∀ g as S (P P' : mm_O → mm_S → Prop), (∀ o S', P o S' → P' o S') → X g as S P → X g as S P') :
    ∀ (n : Nat) (k : mm_Kf) (Q : mm_O → mm_S → Prop), mm_wp G T scr X f Q n k → ∃ o S', Q o S' ∧ mm_wp G T scr X f (fun o1 S1 => o1 = o ∧ S1 = S') n k := by
  intro n
  induction n with
  | zero => intro k Q h; exact h.elim
  | succ n ih =>
    intro k Q h
    exact mm_body_det (w' := fun o S' k => mm_wp G T scr X f (fun o1 S1 => o1 = o ∧ S1 = S') n k) hX hm (fun k h => ih k Q h) h
theorem mm_ex_det {G : mm_G} {T : mm_T} {scr : Nat × (Nat → Int32)} : ∀ (d : Nat) (g : Nat) (as : List Value) (S : mm_S) (P : mm_O → mm_S → Prop), mm_ex G T scr d g as S P → ∃ o S', P o S' ∧ mm_ex G T scr d g as S (fun o1 S1 => o1 = o ∧ S1 = S') := by
  intro d
  induction d with
  | zero => intro g as S P h; exact h.elim
  | succ d ih =>
    intro g as S P ⟨hl, n, h⟩
    obtain ⟨o, S', h1, h2⟩ := mm_wp_det ih (fun g as S P P' hP h => mm_ex_mono d g as S P P' hP h) n _ _ h
    exact ⟨o, S', h1, hl, n, h2⟩
