/-! constants: no variable in the code; their values -/
section YB
variable {B : Int → Int → Prop}
def yn2 (W : List yE) (C : yC) : Prop := (∀ k r a j, (k, r, a, j) ∈ W → ¬ k = 2) ∧ ∀ (i : Nat) (o v : Int), C[i]? = some (o, v) → ¬ o = 2
theorem yn2_app {W W' : List yE} {C : yC} {o v : Int} (h : yn2 W C) (hW : ∀ k r a j, (k, r, a, j) ∈ W' → ¬ k = 2) (ho : ¬ o = 2) : yn2 W' (C ++ [(o, v)]) := by
  refine ⟨hW, fun i o' v' hi => ?_⟩
  by_cases e : i < C.length
  · rw [List.getElem?_append_left e] at hi
    exact h.2 i o' v' hi
  · have l := (List.getElem?_eq_some_iff.mp hi).1
    rw [List.length_append] at l
    have l : i < C.length + 1 := l
    have e2 : i = C.length := by omega
    subst e2
    rw [List.getElem?_append_right (Nat.le_refl _), Nat.sub_self] at hi
    injection hi with hi
    injection hi with e3 e4
    subst e3
    exact ho
theorem yn2_aim {W W' : List yE} {C : yC} {j : Int} (h : yn2 W C) (hW : ∀ k r a j, (k, r, a, j) ∈ W' → ¬ k = 2) : yn2 W' (yaim C j) := by
  refine ⟨hW, fun i o v hi => ?_⟩
  unfold yaim at hi
  by_cases e : j.toNat = i
  · subst e
    by_cases l : j.toNat < C.length
    · rw [List.getElem?_set_self l, List.getD_eq_getElem?_getD, List.getElem?_eq_getElem l] at hi
      injection hi with hi
      injection hi with e3 e4
      subst e3
      exact h.2 j.toNat _ _ (by rw [List.getElem?_eq_getElem l]; rfl)
    · have l2 := (List.getElem?_eq_some_iff.mp hi).1
      rw [List.length_set] at l2
      exact absurd l2 l
  · rw [List.getElem?_set_ne e] at hi
    exact h.2 i o v hi
theorem yn2_set {thr : Int} : ∀ (W : List yE) (d : Int) (C : yC) (ty : Int) (W' : List yE) (d' : Int) (C' : yC) (ty' : Int), yn2 W C → yset thr W d C ty = some (W', d', C', ty') → yn2 W' C' := by
  intro W
  induction W with
  | nil =>
    intro d C ty W' d' C' ty' h e
    injection e with e
    injection e with e1 e
    injection e with e2 e
    injection e with e3 e4
    subst e1 e3
    exact h
  | cons x W ih =>
    obtain ⟨k, r, a, j⟩ := x
    intro d C ty W' d' C' ty' h e
    unfold yset at e
    split at e
    · split at e
      · refine ih _ _ _ _ _ _ _ ?_ e
        have hW : ∀ k' r' a' j', (k', r', a', j') ∈ W → ¬ k' = 2 := fun k' r' a' j' hm => h.1 k' r' a' j' (List.mem_cons_of_mem _ hm)
        unfold yc1
        split
        · exact yn2_aim h hW
        · exact yn2_app h hW (h.1 k r a j List.mem_cons_self)
      · cases e
    · injection e with e
      injection e with e1 e
      injection e with e2 e
      injection e with e3 e4
      subst e1 e3
      exact h
theorem yn2_cons {W : List yE} {C : yC} {k r a j : Int} (h : ∀ k r a j, (k, r, a, j) ∈ W → ¬ k = 2) (hk : ¬ k = 2) : ∀ k' r' a' j', (k', r', a', j') ∈ (k, r, a, j) :: W → ¬ k' = 2 := by
  intro k' r' a' j' hm
  rcases List.mem_cons.mp hm with hm | hm
  · injection hm with e1 e2
    rw [e1]
    exact hk
  · exact h k' r' a' j' hm
theorem yn2_br {q d ty m d' t' : Int} {W W' : List yE} {C C' : yC} (h : yn2 W C) (hb : ybr q W d C ty = some (.inl (m, W', d', C', t'))) : yn2 W' C' := by
  unfold ybr at hb
  split at hb
  · cases hb
  · rename_i k r a jm W2
    have hk := h.1 k r a jm List.mem_cons_self
    have hW : ∀ k' r' a' j', (k', r', a', j') ∈ W2 → ¬ k' = 2 := fun k' r' a' j' hm => h.1 k' r' a' j' (List.mem_cons_of_mem _ hm)
    split at hb
    · injection hb with hb
      injection hb with hb
      injection hb with h1 hb
      injection hb with h2 hb
      injection hb with h3 hb
      injection hb with h4 h5
      subst h2 h4
      exact yn2_aim (W := W2) (yn2_app h hW (by decide)) (yn2_cons (C := C) hW (by decide))
    · split at hb
      · injection hb with hb
        injection hb with hb
        injection hb with h1 hb
        injection hb with h2 hb
        injection hb with h3 hb
        injection hb with h4 h5
        subst h2 h4
        exact ⟨hW, h.2⟩
      · split at hb
        · injection hb with hb
          injection hb with hb
          injection hb with h1 hb
          injection hb with h2 hb
          injection hb with h3 hb
          injection hb with h4 h5
          subst h2 h4
          exact ⟨yn2_cons (C := C) hW hk, h.2⟩
        · split at hb
          · injection hb with hb
            injection hb with hb
            injection hb with h1 hb
            injection hb with h2 hb
            injection hb with h3 hb
            injection hb with h4 h5
            subst h2 h4
            exact ⟨yn2_cons (C := C) hW hk, h.2⟩
          · cases hb
theorem yn2_op {q d ty m d' t' : Int} {W W' : List yE} {C C' : yC} (h : yn2 W C) (hb : yop q W d C ty = some (.inl (m, W', d', C', t'))) : yn2 W' C' := by
  unfold yop at hb
  split at hb
  · exact yn2_br h hb
  · rename_i h0
    have hq : ¬ q = 2 := by
      intro e
      subst e
      exact h0 (by decide)
    split at hb
    · cases hb
    · split at hb
      · injection hb with hb
        injection hb with hb
        injection hb with h1 hb
        injection hb with h2 hb
        injection hb with h3 hb
        injection hb with h4 h5
        subst h2 h4
        exact yn2_app h (yn2_cons (C := C) h.1 hq) hq
      · injection hb with hb
        injection hb with hb
        injection hb with h1 hb
        injection hb with h2 hb
        injection hb with h3 hb
        injection hb with h4 h5
        subst h2 h4
        exact ⟨yn2_cons (C := C) h.1 hq, h.2⟩
theorem ybr_r {q d ty t1 : Int} {W : List yE} {C C1 : yC} (h : ybr q W d C ty = some (.inr (t1, C1))) : W = [] ∧ C1 = C := by
  unfold ybr at h
  split at h
  · injection h with h
    injection h with h
    injection h with e1 e2
    exact ⟨rfl, e2.symm⟩
  · repeat' split at h
    all_goals cases h
theorem yn2_have {q d ty : Int} {W : List yE} {C : yC} (h : yn2 W C) : (∀ m W' d' C' t', yhave q W d C ty = some (.inl (m, W', d', C', t')) → yn2 W' C') ∧ (∀ t1 C1, yhave q W d C ty = some (.inr (t1, C1)) → yn2 [] C1) := by
  unfold yhave
  cases e1 : yset (ythr q) W d C ty with
  | none => exact ⟨fun m W' d' C' t' h => (by cases h), fun t1 C1 h => (by cases h)⟩
  | some x =>
    obtain ⟨W1, d1, C1, t1⟩ := x
    have i1 := yn2_set W d C ty W1 d1 C1 t1 h e1
    dsimp only
    split
    · cases e2 : yset 1 W1 d1 C1 t1 with
      | none => exact ⟨fun m W' d' C' t' h => (by cases h), fun t1 C1 h => (by cases h)⟩
      | some x =>
        obtain ⟨W2, d2, C2, t2⟩ := x
        have i2 := yn2_set W1 d1 C1 t1 W2 d2 C2 t2 i1 e2
        refine ⟨fun m W' d' C' t' h => yn2_br i2 h, fun t C3 h => ?_⟩
        obtain ⟨_, z⟩ := ybr_r h
        subst z
        exact ⟨fun _ _ _ _ hm => (by cases hm), i2.2⟩
    · refine ⟨fun m W' d' C' t' h => yn2_op i1 h, fun t C3 h => ?_⟩
      unfold yop at h
      split at h
      · obtain ⟨_, z⟩ := ybr_r h
        subst z
        exact ⟨fun _ _ _ _ hm => (by cases hm), i1.2⟩
      · repeat' split at h
        all_goals cases h
theorem yn2_want {o : Option (Int × Int × Int)} {q d m d' t' : Int} {W W' : List yE} {C C' : yC} (ho : ∀ c v t, o = some (c, v, t) → ¬ c = 2) (h : yn2 W C) (hb : ywant o q W d C = some (.inl (m, W', d', C', t'))) : yn2 W' C' := by
  unfold ywant at hb
  split at hb
  · injection hb with hb
    injection hb with hb
    injection hb with h1 hb
    injection hb with h2 hb
    injection hb with h3 hb
    injection hb with h4 h5
    subst h2 h4
    exact yn2_app h h.1 (ho _ _ _ rfl)
  · have fin : ∀ k r a x, (some (.inl (x, (k, r, a, -1) :: W, d + 1, C, 0)) : Option (yG ⊕ (Int × yC))) = some (.inl (m, W', d', C', t')) → ¬ k = 2 → yn2 W' C' := by
      intro k r a x hb hk
      injection hb with hb
      injection hb with hb
      injection hb with h1 hb
      injection hb with h2 hb
      injection hb with h3 hb
      injection hb with h4 h5
      subst h2 h4
      exact ⟨yn2_cons (C := C) h.1 hk, h.2⟩
    split at hb
    · split at hb
      · cases hb
      · exact fin _ _ _ _ hb (by decide)
    · split at hb
      · split at hb
        · cases hb
        · exact fin _ _ _ _ hb (by decide)
      · split at hb
        · split at hb
          · cases hb
          · exact fin _ _ _ _ hb (by decide)
        · split at hb
          · split at hb
            · cases hb
            · exact fin _ _ _ _ hb (by omega)
          · cases hb
theorem yRf_2 {k : Int → Int} {od : Int → Option (Int × Int × Int)} (ho : ∀ j c v t, od j = some (c, v, t) → ¬ c = 2) : ∀ (f : Nat) (c : yG) (q j : Int) (j' ty : Int) (C : yC), yn2 c.2.1 c.2.2.2.1 → yRf k od f c q j = some (j', ty, C) → yn2 [] C := by
  intro f
  induction f with
  | zero => intro c q j j' ty C _ h; cases h
  | succ f ih =>
    intro c q j j' ty C hK h
    obtain ⟨m, W, d, C0, t0⟩ := c
    have hK : yn2 W C0 := hK
    unfold yRf at h
    split at h
    · cases h
    · rename_i t1 C1 hs
      injection h with h
      injection h with h1 h
      injection h with h2 h3
      subst h3
      unfold ystep at hs
      dsimp only at hs
      split at hs
      · exact (yn2_have hK).2 _ _ hs
      · split at hs
        · unfold ywant at hs
          repeat' split at hs
          all_goals cases hs
        · split at hs
          · injection hs with hs
            cases hs
          · cases hs
    · rename_i c' hs
      split at h
      · cases h
      · refine ih _ _ _ _ _ _ ?_ h
        obtain ⟨m', W', d', C', t'⟩ := c'
        show yn2 W' C'
        unfold ystep at hs
        dsimp only at hs
        split at hs
        · exact (yn2_have hK).1 _ _ _ _ _ hs
        · split at hs
          · exact yn2_want (ho j) hK hs
          · split at hs
            · injection hs with hs
              injection hs with hs
              injection hs with h1 hs
              injection hs with h2 hs
              injection hs with h3 hs
              injection hs with h4 h5
              subst h2 h4
              exact hK
            · cases hs
theorem odl_0 {t : Int → Int} {n : Int} {L : yN} : yod B (odl t n L 0) ∧ ∀ j c v x, odl t n L 0 j = some (c, v, x) → ¬ c = 2 := by
  have key : ∀ j c v x, odl t n L 0 j = some (c, v, x) → (x = 1 ∨ x = 2) ∧ c = 3 ∧ (x = 2 → v = 0 ∨ v = 1) := by
    intro j c v x h
    unfold odl at h
    split at h
    · injection h with h
      injection h with h1 h
      injection h with h2 h3
      omega
    · split at h
      · injection h with h
        injection h with h1 h
        injection h with h2 h3
        omega
      · split at h
        · injection h with h
          injection h with h1 h
          injection h with h2 h3
          omega
        · split at h
          · split at h
            · cases h
            · split at h
              · injection h with h
                injection h with h1 h
                injection h with h2 h3
                omega
              · rw [if_neg (fun z => z.2 rfl)] at h
                cases h
          · cases h
  exact ⟨fun j c v x h => ⟨(key j c v x h).1, Or.inl ⟨(key j c v x h).2.1, (key j c v x h).2.2⟩⟩, fun j c v x h => by have := (key j c v x h).2.1; omega⟩
/-- code of a constant -/
def ycn (C : yC) : Prop := ∃ (D : Nat → List Int) (x : Int), yTI (fun _ _ => False) D [x] C [] ∧ yn2 [] C
theorem yex_c {t : Int → Int} {n x j j' : Int} {L : yN} {C : yC} (h : yex t n L 0 x j = some (j', C)) : ycn C := by
  obtain ⟨D, h1, h2⟩ := yex_T odl_0.1 h
  refine ⟨D, x, h1, ?_⟩
  unfold yex at h
  split at h
  · rename_i a b c e
    split at h
    · injection h with h
      injection h with e1 e2
      subst e2
      exact yRf_2 (odl_0 (B := fun _ _ => False)).2 _ _ _ _ _ _ _ ⟨fun _ _ _ _ hm => (by cases hm), fun i o v hi => (by cases hi)⟩ e
    · cases h
  · cases h
theorem yev_now {C : yC} {now now' : Int → Int} (h : yn2 [] C) : ∀ (f k : Nat) (st : List Int), yev C now f k st = yev C now' f k st := by
  intro f
  induction f with
  | zero => intro k st; rfl
  | succ f ih =>
    intro k st
    cases hg : C[k]? with
    | none =>
      show (match C[k]? with | none => st.head? | some (o, v) => _) = (match C[k]? with | none => st.head? | some (o, v) => _)
      rw [hg]
    | some ov =>
      obtain ⟨o, v⟩ := ov
      have h2 := h.2 k o v hg
      rw [ye_o hg, ye_o hg]
      simp only [ih, if_neg h2]
theorem cod_y {op wi : Int → Int} {fr u : Int} : cod op wi fr (yCo fr u op wi) := by
  intro i o v h
  have l := (List.getElem?_eq_some_iff.mp h).1
  have l2 : i < (u - fr).toNat := by
    have e : (yCo fr u op wi).length = (u - fr).toNat := yCf_len _
    rw [e] at l
    exact l
  have g := yCf_get (fr := fr) (op := op) (wi := wi) (u - fr).toNat i l2
  have h : (yCf fr op wi (u - fr).toNat)[i]? = some (o, v) := h
  rw [g] at h
  injection h with h
  injection h with h1 h2
  subst h1 h2
  refine ⟨rfl, fun hp hv => ?_, fun hp => ?_⟩
  · unfold ydec at hv ⊢
    rw [if_pos hp] at hv ⊢
    split at hv
    · exact absurd rfl hv
    · rename_i z
      rw [if_neg z]
      omega
  · unfold ydec
    rw [if_neg hp]
/-- the class's run of a constant's code -/
theorem yval_c {op wi lo st : Int → Int} {x u : Int} (hx : 0 ≤ x) (hu : x < u) (hs : op (u - 1) = 44) (h : ycn (yCo x (u - 1) op wi)) : cRi op wi lo u 0 x 1 st = yval (yCo x (u - 1) op wi) := by
  obtain ⟨D, y, h1, h2⟩ := h
  have l := yCo_len (fr := x) (u := u - 1) (op := op) (wi := wi) (by omega)
  have e := cR_yev (lo := lo) (used := u) h1 (cod_y (op := op) (wi := wi)) (by rw [l, show x + (u - 1 - x) = u - 1 by omega]; exact hs) (by omega) hx 1501 0 0 [] st 1 rfl (Nat.zero_le _) (by rw [h1.1]) rfl trivial
  rw [show x + ((0 : Nat) : Int) = x by omega] at e
  rw [e]
  exact yev_now h2 _ _ _
end YB
