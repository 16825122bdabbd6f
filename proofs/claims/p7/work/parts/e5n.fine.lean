/-! a finer view of the same cells -/
section YFV
variable {K1 K2 : Nat → hw_S} {R : (Nat → Nat × Int) × (Nat → Prop) × (Int → Int)}
theorem hw_v_m {w : hw_V} {v : Value} (h : hw_v (K1, R) w v) : hw_v (K2, R) w v := by
  rcases w with x | x | ⟨k, i⟩
  · exact h
  · exact h
  · exact h
theorem hw_tq_m {Z : hw_Z} {Y : List (Int → Int)} {i x : Int} {tr : hw_Tr} (h : hw_tq Z i tr x) : hw_tq (Z.1, Y, Z.2.2) i tr x := by
  rcases tr with _ | j | j
  · trivial
  · exact h
  · exact h
theorem hw_fok_m {Z : hw_Z} {Y : List (Int → Int)} {i : Int} {f : hw_F} {v : Value} (h : hw_fok (K1, R) Z i f v) : hw_fok (K2, R) (Z.1, Y, Z.2.2) i f v := by
  rcases f with ⟨tr, b⟩ | ⟨lo, hi⟩ | ⟨k, o⟩
  · obtain ⟨x, h1, h2, h3⟩ := h
    exact ⟨x, h1, hw_tq_m h2, h3⟩
  · exact h
  · have h : hw_v (K1, R) (.inr (.inr (k, hw_ix o i))) v := h
    have z : hw_v (K2, R) (.inr (.inr (k, hw_ix o i))) v := hw_v_m h
    exact z
theorem hw_cok_m {Z : hw_Z} {F : List (Int → Int)} {i : Int} {s : hw_S} {e : mm_E} (h : hw_cok (K1, R) Z i s e) : hw_cok (K2, R) (Z.1, Z.2.1 ++ F, Z.2.2) i s e := by
  rcases s with ⟨c, fs⟩ | ⟨kk, ln, ⟨tr, b⟩ | ⟨k, o⟩⟩
  · obtain ⟨vs, h1, h2, h3⟩ := h
    refine ⟨vs, h1, h2, fun k f hf => ?_⟩
    obtain ⟨v, h4, h5⟩ := h3 k f hf
    exact ⟨v, h4, hw_fok_m h5⟩
  · obtain ⟨n, g, h1, h2, h3, h4⟩ := h
    refine ⟨n, g, h1, h2, ?_, h4⟩
    rcases tr with _ | j | j
    · trivial
    · have h3 : Z.2.1[j]? = some g := h3
      show (Z.2.1 ++ F)[j]? = some g
      rw [List.getElem?_append_left (List.getElem?_eq_some_iff.mp h3).1]
      exact h3
    · exact h3
  · obtain ⟨h0, n, f, h1, h2, h3⟩ := h
    refine ⟨h0, n, f, h1, h2, fun p hp => ?_⟩
    obtain ⟨b, h4, h5⟩ := h3 p hp
    exact ⟨b, h4, hw_v_m h5⟩
/-- arrays that the finer view follows are read out of their cells -/
theorem hw_fine {N1 N2 : Nat} {Z : hw_Z} {S : mm_S} (hS : ∀ k, K2 k = K1 k ∨ ∃ (kk : Nat) (ln : Option Nat) (b : Option (Int × Int × Int)) (j : Nat), K1 k = .inr (kk, ln, .inl (none, b)) ∧ K2 k = .inr (kk, ln, .inl (some (.inl j), b)) ∧ N1 ≤ j ∧ j < N1 + N2) (hu : hw_U (K2, R)) (hN : Z.2.1.length = N1) (h : hw_RS (K1, R) Z S) : ∃ F : List (Int → Int), F.length = N2 ∧ hw_RS (K2, R) (Z.1, Z.2.1 ++ F, Z.2.2) S := by
  have key : ∀ j : Nat, ∃ g : Int → Int, ∀ (a kk : Nat) (ln : Option Nat) (b : Option (Int × Int × Int)), R.2.1 a → K1 (R.1 a).1 = .inr (kk, ln, .inl (none, b)) → K2 (R.1 a).1 = .inr (kk, ln, .inl (some (.inl j), b)) → ∃ n : Nat, (n : Int) = hw_ln ln (R.2.2 (R.1 a).2) ∧ hw_af kk n (S.2.2 a) g ∧ ∀ p : Nat, p < n → hw_ab b p (g p) := by
    intro j
    by_cases hx : ∃ (a kk : Nat) (ln : Option Nat) (b : Option (Int × Int × Int)), R.2.1 a ∧ K1 (R.1 a).1 = .inr (kk, ln, .inl (none, b)) ∧ K2 (R.1 a).1 = .inr (kk, ln, .inl (some (.inl j), b))
    · obtain ⟨a, kk, ln, b, ha, h1, h2⟩ := hx
      have hc : hw_cok (K1, R) Z (R.1 a).2 (K1 (R.1 a).1) (S.2.2 a) := (h.2 a ha).2
      rw [h1] at hc
      obtain ⟨n, g, q1, q2, q3, q4⟩ := hc
      refine ⟨g, fun a' kk' ln' b' ha' h1' h2' => ?_⟩
      have e : a' = a := hu.2.2.1 a' a kk' kk ln' ln (some (.inl j)) (some (.inl j)) b' b (.inl j) ha' ha h2' h2 rfl rfl
      subst e
      rw [h1] at h1'
      injection h1' with h1'
      injection h1' with e1 h1'
      injection h1' with e2 h1'
      injection h1' with h1'
      injection h1' with _ e3
      subst e1 e2 e3
      exact ⟨n, q1, q2, q4⟩
    · exact ⟨fun _ => 0, fun a kk ln b ha h1 h2 => absurd ⟨a, kk, ln, b, ha, h1, h2⟩ hx⟩
  obtain ⟨G, hG⟩ := Classical.axiomOfChoice key
  refine ⟨(List.range N2).map (fun i => G (N1 + i)), by rw [List.length_map, List.length_range], h.1, fun a ha => ⟨(h.2 a ha).1, ?_⟩⟩
  have hc : hw_cok (K1, R) Z (R.1 a).2 (K1 (R.1 a).1) (S.2.2 a) := (h.2 a ha).2
  show hw_cok (K2, R) _ (R.1 a).2 (K2 (R.1 a).1) (S.2.2 a)
  rcases hS (R.1 a).1 with e | ⟨kk, ln, b, j, e1, e2, j1, j2⟩
  · rw [e]
    exact hw_cok_m hc
  · rw [e2]
    obtain ⟨n, q1, q2, q3⟩ := hG j a kk ln b ha e1 e2
    refine ⟨n, G j, q1, q2, ?_, q3⟩
    show (Z.2.1 ++ (List.range N2).map (fun i => G (N1 + i)))[j]? = some (G j)
    rw [List.getElem?_append_right (by omega), List.getElem?_map, List.getElem?_range (by omega)]
    show some (G (N1 + (j - Z.2.1.length))) = some (G j)
    rw [show N1 + (j - Z.2.1.length) = j by omega]
end YFV
/-! two promises of one call: both hold of its end -/
theorem mm_body_and {G : mm_G} {T : mm_T} {scr : Nat × (Nat → Int32)} {X : mm_XR} {f : Nat} {Q Q' : mm_O → mm_S → Prop} {w w' u : mm_Kf → Prop}
    (hX : ∀ g as S (P P' : mm_O → mm_S → Prop), X g as S P → X g as S P' → X g as S (fun o S' => P o S' ∧ P' o S')) (hm : ∀ g as S (P P' : mm_O → mm_S → Prop), (∀ o S', P o S' → P' o S') → X g as S P → X g as S P')
    (hw : ∀ k, w k → w' k → u k) {pc : Nat} {L : mm_L} {st : List Value} {S : mm_S} {en : Option (Instr × Nat × Nat)} (h : mm_body G T scr X f Q w pc L st S en) (h' : mm_body G T scr X f Q' w' pc L st S en) :
    mm_body G T scr X f (fun o S' => Q o S' ∧ Q' o S') u pc L st S en := by
  have hcl : ∀ g nx, mm_cl G T X f g w Q pc nx L st S → mm_cl G T X f g w' Q' pc nx L st S → mm_cl G T X f g u (fun o S' => Q o S' ∧ Q' o S') pc nx L st S := by
    intro g nx ⟨h0, h1, h2, h3, h4⟩ ⟨_, _, _, _, h4'⟩
    refine ⟨h0, h1, h2, h3, hm _ _ _ _ _ (fun o S' hq => ?_) (hX _ _ _ _ _ h4 h4')⟩
    obtain ⟨p1, p2⟩ := hq
    rcases o with v | ⟨ec, a⟩
    · exact hw _ p1 p2
    · dsimp only at p1 p2 ⊢
      cases hh : mm_hnd G f pc ec with
      | none => rw [hh] at p1; exact p1.elim
      | some q =>
        rw [hh] at p1 p2
        cases q with
        | none => exact ⟨p1, p2⟩
        | some q => exact ⟨p1.1, hw _ p1.2 p2.2⟩
  rcases en with _ | ⟨i, nx, tg⟩
  · exact h.elim
  have key : (match mm_thr G f pc with
      | some ec => S.1 + 1 ≤ mm_lc T ∧ S.2.1 + 6 ≤ mm_lsl T ∧ (st.map Value.category).sum ≤ 8 ∧ Q (.inr (ec, S.1)) (mm_add S 6 (.inr (ec, [])))
      | none => match mm_st0 i pc nx tg L st S with
        | some k => w k
        | none => match mm_st1 T (mm_ini G f) (mm_oc G f) (mm_pool G f) scr i nx L st S with
          | some k => w k
          | none => match mm_st2 T (mm_pool G f) scr i nx tg L st S with
            | some k => w k
            | none => False) → (match mm_thr G f pc with
      | some ec => S.1 + 1 ≤ mm_lc T ∧ S.2.1 + 6 ≤ mm_lsl T ∧ (st.map Value.category).sum ≤ 8 ∧ Q' (.inr (ec, S.1)) (mm_add S 6 (.inr (ec, [])))
      | none => match mm_st0 i pc nx tg L st S with
        | some k => w' k
        | none => match mm_st1 T (mm_ini G f) (mm_oc G f) (mm_pool G f) scr i nx L st S with
          | some k => w' k
          | none => match mm_st2 T (mm_pool G f) scr i nx tg L st S with
            | some k => w' k
            | none => False) → (match mm_thr G f pc with
      | some ec => S.1 + 1 ≤ mm_lc T ∧ S.2.1 + 6 ≤ mm_lsl T ∧ (st.map Value.category).sum ≤ 8 ∧ (Q (.inr (ec, S.1)) (mm_add S 6 (.inr (ec, []))) ∧ Q' (.inr (ec, S.1)) (mm_add S 6 (.inr (ec, []))))
      | none => match mm_st0 i pc nx tg L st S with
        | some k => u k
        | none => match mm_st1 T (mm_ini G f) (mm_oc G f) (mm_pool G f) scr i nx L st S with
          | some k => u k
          | none => match mm_st2 T (mm_pool G f) scr i nx tg L st S with
            | some k => u k
            | none => False) := by
    generalize mm_thr G f pc = o1
    generalize mm_st0 i pc nx tg L st S = o2
    generalize mm_st1 T (mm_ini G f) (mm_oc G f) (mm_pool G f) scr i nx L st S = o3
    generalize mm_st2 T (mm_pool G f) scr i nx tg L st S = o4
    intro a b
    rcases o1 with _ | ec
    · rcases o2 with _ | k
      · rcases o3 with _ | k
        · rcases o4 with _ | k
          · exact a.elim
          · exact hw _ a b
        · exact hw _ a b
      · exact hw _ a b
    · exact ⟨a.1, a.2.1, a.2.2.1, a.2.2.2, b.2.2.2⟩
  cases i
  case return_ => exact ⟨h.1, h.2.1, h.2.2, h'.2.2⟩
  case ireturn =>
    obtain ⟨v, a, b, q⟩ := h
    obtain ⟨v', a', b', q'⟩ := h'
    rw [a] at a'
    injection a' with e
    injection e with e
    subst e
    exact ⟨v, a, b, q, q'⟩
  case lreturn =>
    obtain ⟨v, a, b, q⟩ := h
    obtain ⟨v', a', b', q'⟩ := h'
    rw [a] at a'
    injection a' with e
    injection e with e
    subst e
    exact ⟨v, a, b, q, q'⟩
  case areturn =>
    obtain ⟨v, a, b, q⟩ := h
    obtain ⟨v', a', b', q'⟩ := h'
    rw [a] at a'
    injection a' with e
    injection e with e
    subst e
    exact ⟨v, a, b, q, q'⟩
  case invokespecial x =>
    unfold mm_body at h h' ⊢
    dsimp only at h h' ⊢
    generalize mm_pool G f x = pl at h h' ⊢
    split at h
    · obtain ⟨a, r, b, q, z⟩ := h
      obtain ⟨a', r', b', q', z'⟩ := h'
      rw [b] at b'
      injection b' with e1 e2
      subst e2
      exact ⟨a, r, b, q, hw _ z z'⟩
    · exact ⟨h.1, h.2.1, hcl _ _ h.2.2 h'.2.2⟩
    · exact h.elim
  case invokevirtual x =>
    unfold mm_body at h h' ⊢
    dsimp only at h h' ⊢
    generalize mm_pool G f x = pl at h h' ⊢
    split at h
    · exact ⟨h.1, h.2.1, hcl _ _ h.2.2 h'.2.2⟩
    · exact h.elim
  case invokestatic x =>
    unfold mm_body at h h' ⊢
    dsimp only at h h' ⊢
    have st2 : ∀ o4 : Option mm_Kf, (match o4 with | some k => w k | none => False) → (match o4 with | some k => w' k | none => False) → (match o4 with | some k => u k | none => False) := by
      intro o4 a b
      rcases o4 with _ | k
      · exact a.elim
      · exact hw _ a b
    generalize mm_pool G f x = pl at h h' ⊢
    rcases pl with _ | y | (_ | g) | y
    · exact st2 _ h h'
    · exact st2 _ h h'
    · exact st2 _ h h'
    · exact ⟨h.1, hcl _ _ h.2 h'.2⟩
    · exact st2 _ h h'
  all_goals exact key h h'
theorem mm_wp_and {G : mm_G} {T : mm_T} {scr : Nat × (Nat → Int32)} {X : mm_XR} {f : Nat} {Q Q' : mm_O → mm_S → Prop}
    (hX : ∀ g as S (P P' : mm_O → mm_S → Prop), X g as S P → X g as S P' → X g as S (fun o S' => P o S' ∧ P' o S')) (hm : ∀ g as S (P P' : mm_O → mm_S → Prop), (∀ o S', P o S' → P' o S') → X g as S P → X g as S P') :
    ∀ (n n' : Nat) (k : mm_Kf), mm_wp G T scr X f Q n k → mm_wp G T scr X f Q' n' k → mm_wp G T scr X f (fun o S' => Q o S' ∧ Q' o S') n k := by
  intro n
  induction n with
  | zero => intro n' k h _; exact h.elim
  | succ n ih =>
    intro n' k h h'
    cases n' with
    | zero => exact h'.elim
    | succ n' => exact mm_body_and hX hm (fun k a b => ih n' k a b) h h'
theorem mm_ex_and {G : mm_G} {T : mm_T} {scr : Nat × (Nat → Int32)} : ∀ (d g : Nat) (as : List Value) (S : mm_S) (P P' : mm_O → mm_S → Prop), mm_ex G T scr d g as S P → mm_ex G T scr d g as S P' → mm_ex G T scr d g as S (fun o S' => P o S' ∧ P' o S') := by
  intro d
  induction d with
  | zero => intro g as S P P' h _; exact h.elim
  | succ d ih =>
    intro g as S P P' ⟨hl, n, h⟩ ⟨_, n', h'⟩
    exact ⟨hl, n, mm_wp_and ih (fun g as S P P' hP h => mm_ex_mono d g as S P P' hP h) n n' _ h h'⟩
