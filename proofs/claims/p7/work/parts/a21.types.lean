/-! code that is made is in order: the TYPES on the stack before each instruction -/
section YB
variable {B : Int → Int → Prop}
def yT : List yE → List Int
  | [] => []
  | (k, _, a, _) :: W => if (21 ≤ k ∧ k ≤ 29) ∨ ((15 ≤ k ∧ k ≤ 17) ∧ ¬ a = 0) then a :: yT W else yT W
def ygr (r : Int) : Int := if r = 6 then 1 else if r = 7 then 2 else if r = 8 then 3 else 0
theorem ygr_b (r : Int) : 0 ≤ ygr r ∧ ygr r ≤ 3 := by
  unfold ygr
  repeat' split
  all_goals omega
theorem yT_b : ∀ (W : List yE) (d : Int), yWI W d → ((yT W).length : Int) ≤ 4 * d + ygr (ytop W) := by
  intro W
  induction W with
  | nil =>
    intro d h
    have h : d = 0 := h
    subst h
    decide
  | cons e W ih =>
    obtain ⟨k, r, a, j⟩ := e
    intro d h
    have e1 : ytop ((k, r, a, j) :: W) = r := rfl
    rw [e1]
    rcases h with ⟨h1, h2⟩ | ⟨h1, h2, h3⟩
    · have q := ih _ h2
      have g := ygr_b (ytop W)
      have g2 := ygr_b r
      unfold yT
      split
      · rw [List.length_cons]
        omega
      · omega
    · have q := ih _ h3
      have g := ygr_b (ytop W)
      have g2 := ygr_b r
      have b := yWI_b W d h3
      by_cases c : r = 3 ∨ r = 4
      · have z : ygr (ytop W) = 0 := by
          unfold ygr
          rw [if_neg (by omega), if_neg (by omega), if_neg (by omega)]
        unfold yT
        rw [if_neg (by omega)]
        omega
      · have z : ygr (ytop W) + 1 ≤ ygr r := by
          have c2 : r = 6 ∨ r = 7 ∨ r = 8 := by omega
          unfold ygr
          rcases c2 with rfl | rfl | rfl
          · rw [if_neg (show ¬ ytop W = 6 by omega), if_neg (show ¬ ytop W = 7 by omega), if_neg (show ¬ ytop W = 8 by omega), if_pos rfl]
            omega
          · rw [if_neg (show ¬ ytop W = 7 by omega), if_neg (show ¬ ytop W = 8 by omega), if_neg (show ¬ (7 : Int) = 6 by omega), if_pos rfl]
            split <;> omega
          · rw [if_neg (show ¬ ytop W = 8 by omega), if_neg (show ¬ (8 : Int) = 6 by omega), if_neg (show ¬ (8 : Int) = 7 by omega), if_pos rfl]
            repeat' split
            all_goals omega
        unfold yT
        split
        · rw [List.length_cons]
          omega
        · omega
/-- an instruction at i fits what lies on the stack; N: the end -/
def yok (B : Int → Int → Prop) (D : Nat → List Int) (N i : Nat) (o v : Int) : Prop :=
  (o = 3 ∧ (D (i + 1) = 1 :: D i ∨ (D (i + 1) = 2 :: D i ∧ (v = 0 ∨ v = 1))))
  ∨ (o = 2 ∧ ∃ a, (a = 1 ∨ a = 2) ∧ B v a ∧ D (i + 1) = a :: D i)
  ∨ (o = 31 ∧ ∃ s, D i = 2 :: s ∧ D (i + 1) = 2 :: s)
  ∨ (o = 43 ∧ ∃ s, D i = 1 :: s ∧ D (i + 1) = 1 :: s)
  ∨ (o = 35 ∧ (v = -1 ∨ ∃ m : Nat, v = m ∧ i < m ∧ m ≤ N ∧ D m = D i))
  ∨ (o = 34 ∧ ∃ a s, D i = a :: s ∧ D (i + 1) = s ∧ (v = -1 ∨ ∃ m : Nat, v = m ∧ i < m ∧ m ≤ N ∧ D m = s))
  ∨ ((o = 32 ∨ o = 33 ∨ o = 20) ∧ ∃ a s, D i = a :: s ∧ D (i + 1) = s ∧ (v = -1 ∨ (a = 2 ∧ ∃ m : Nat, v = m ∧ i < m ∧ m ≤ N ∧ D m = 2 :: s)))
  ∨ (((15 ≤ o ∧ o ≤ 17) ∨ (27 ≤ o ∧ o ≤ 29)) ∧ ∃ s, D i = 1 :: 1 :: s ∧ D (i + 1) = 1 :: s)
  ∨ ((21 ≤ o ∧ o ≤ 26) ∧ ∃ a s, D i = a :: a :: s ∧ D (i + 1) = 2 :: s)
theorem yok_m {D D' : Nat → List Int} {N N' i : Nat} {o v : Int} (hD : ∀ m, m ≤ N → D' m = D m) (hi : i < N) (hN : N ≤ N') (h : yok B D N i o v) : yok B D' N' i o v := by
  have e1 : D' i = D i := hD i (by omega)
  have e2 : D' (i + 1) = D (i + 1) := hD (i + 1) (by omega)
  unfold yok at h ⊢
  rw [e1, e2]
  rcases h with h | h | h | h | h | h | h | h | h
  · exact Or.inl h
  · exact Or.inr (Or.inl h)
  · exact Or.inr (Or.inr (Or.inl h))
  · exact Or.inr (Or.inr (Or.inr (Or.inl h)))
  · refine Or.inr (Or.inr (Or.inr (Or.inr (Or.inl ⟨h.1, ?_⟩))))
    rcases h.2 with h | ⟨m, h1, h2, h3, h4⟩
    · exact Or.inl h
    · exact Or.inr ⟨m, h1, h2, by omega, by rw [hD m h3]; exact h4⟩
  · refine Or.inr (Or.inr (Or.inr (Or.inr (Or.inr (Or.inl ⟨h.1, ?_⟩)))))
    obtain ⟨_, a, s, h1, h2, h3⟩ := h
    refine ⟨a, s, h1, h2, ?_⟩
    rcases h3 with h | ⟨m, h1, h2, h3, h4⟩
    · exact Or.inl h
    · exact Or.inr ⟨m, h1, h2, by omega, by rw [hD m h3]; exact h4⟩
  · refine Or.inr (Or.inr (Or.inr (Or.inr (Or.inr (Or.inr (Or.inl ⟨h.1, ?_⟩))))))
    obtain ⟨_, a, s, h1, h2, h3⟩ := h
    refine ⟨a, s, h1, h2, ?_⟩
    rcases h3 with h | ⟨h0, m, h1, h2, h3, h4⟩
    · exact Or.inl h
    · exact Or.inr ⟨h0, m, h1, h2, by omega, by rw [hD m h3]; exact h4⟩
  · exact Or.inr (Or.inr (Or.inr (Or.inr (Or.inr (Or.inr (Or.inr (Or.inl h)))))))
  · exact Or.inr (Or.inr (Or.inr (Or.inr (Or.inr (Or.inr (Or.inr (Or.inr h)))))))
/-- the jumps that wait -/
def yjs : List yE → List Nat
  | [] => []
  | (_, _, _, j) :: W => if 0 ≤ j then j.toNat :: yjs W else yjs W
def yP (D : Nat → List Int) (C : yC) : List yE → Prop
  | [] => True
  | (k, r, a, j) :: W => (0 ≤ j → ¬ j.toNat ∈ yjs W ∧ ∃ o : Int, C[j.toNat]? = some (o, -1) ∧ ((k = 34 ∧ r = 1 ∧ o = 35 ∧ (a = 0 ∨ D j.toNat = a :: yT W)) ∨ (¬ (k = 34 ∧ r = 1) ∧ o = k ∧ D j.toNat = a :: yT W))) ∧ (j < 0 → j = -1) ∧ yP D C W
def yTI (B : Int → Int → Prop) (D : Nat → List Int) (cur : List Int) (C : yC) (W : List yE) : Prop :=
  D 0 = [] ∧ D C.length = cur ∧ (∀ (i : Nat) (o v : Int), C[i]? = some (o, v) → yok B D C.length i o v) ∧ (∀ i, i ≤ C.length → (D i).length ≤ 170) ∧ yP D C W ∧ (∀ (i : Nat) (o : Int), C[i]? = some (o, -1) → yjp o → i ∈ yjs W)
theorem yP_m {D D' : Nat → List Int} {C C' : yC} : ∀ W, (∀ (i : Nat) (o : Int), i ∈ yjs W → C[i]? = some (o, -1) → C'[i]? = some (o, -1) ∧ D' i = D i) → yP D C W → yP D' C' W := by
  intro W
  induction W with
  | nil => intro _ _; trivial
  | cons e W ih =>
    obtain ⟨k, r, a, j⟩ := e
    intro h hp
    have hs : ∀ i, i ∈ yjs W → i ∈ yjs ((k, r, a, j) :: W) := by
      intro i hi
      unfold yjs
      split
      · exact List.mem_cons_of_mem _ hi
      · exact hi
    refine ⟨fun h0 => ?_, hp.2.1, ih (fun i o hi hc => h i o (hs i hi) hc) hp.2.2⟩
    obtain ⟨q0, o, q1, q2⟩ := hp.1 h0
    have hm : j.toNat ∈ yjs ((k, r, a, j) :: W) := by
      unfold yjs
      rw [if_pos h0]
      exact List.mem_cons_self
    obtain ⟨z1, z2⟩ := h _ _ hm q1
    exact ⟨q0, o, z1, by rw [z2]; exact q2⟩
def yup (D : Nat → List Int) (n : Nat) (x : List Int) : Nat → List Int := fun i => if i = n then x else D i
theorem yup_s {D : Nat → List Int} {n : Nat} {x : List Int} : yup D n x n = x := if_pos rfl
theorem yup_n {D : Nat → List Int} {n i : Nat} {x : List Int} (h : ¬ i = n) : yup D n x i = D i := if_neg h
/-- an instruction is put down -/
theorem yTI_e {D : Nat → List Int} {cur cur' : List Int} {C : yC} {W W' : List yE} {o v : Int} (h : yTI B D cur C W) (hl : cur'.length ≤ 170) (ho : yok B (yup D (C.length + 1) cur') (C.length + 1) C.length o v) (hW : yP (yup D (C.length + 1) cur') (C ++ [(o, v)]) W') (hj : ∀ i, i ∈ yjs W → i ∈ yjs W') (hn : v = -1 → yjp o → C.length ∈ yjs W') : yTI B (yup D (C.length + 1) cur') cur' (C ++ [(o, v)]) W' := by
  obtain ⟨h1, h2, h3, h4, h5, h6⟩ := h
  have len : (C ++ [(o, v)]).length = C.length + 1 := by rw [List.length_append]; rfl
  refine ⟨?_, ?_, ?_, ?_, hW, ?_⟩
  · rw [yup_n (by omega)]
    exact h1
  · rw [len, yup_s]
  · intro i o' v' hi
    rw [len]
    by_cases e : i < C.length
    · rw [List.getElem?_append_left e] at hi
      exact yok_m (fun m hm => yup_n (by omega)) e (by omega) (h3 i o' v' hi)
    · have e2 : i = C.length := by
        have := (List.getElem?_eq_some_iff.mp hi).1
        rw [len] at this
        omega
      subst e2
      rw [List.getElem?_append_right (Nat.le_refl _), Nat.sub_self] at hi
      injection hi with hi
      injection hi with e3 e4
      subst e3 e4
      exact ho
  · intro i hi
    rw [len] at hi
    by_cases e : i = C.length + 1
    · subst e
      rw [yup_s]
      exact hl
    · rw [yup_n e]
      exact h4 i (by omega)
  · intro i o' hi hp
    by_cases e : i < C.length
    · rw [List.getElem?_append_left e] at hi
      exact hj i (h6 i o' hi hp)
    · have e2 : i = C.length := by
        have := (List.getElem?_eq_some_iff.mp hi).1
        rw [len] at this
        omega
      subst e2
      rw [List.getElem?_append_right (Nat.le_refl _), Nat.sub_self] at hi
      injection hi with hi
      injection hi with e3 e4
      subst e3
      exact hn e4 hp
/-- those that wait stay as they are when an instruction is put down -/
theorem yP_e {D : Nat → List Int} {cur' : List Int} {C : yC} {W : List yE} {o v : Int} (hp : yP D C W) : yP (yup D (C.length + 1) cur') (C ++ [(o, v)]) W := by
  refine yP_m W (fun i o' hi hc => ?_) hp
  have l := (List.getElem?_eq_some_iff.mp hc).1
  exact ⟨by rw [List.getElem?_append_left l]; exact hc, yup_n (by omega)⟩
/-- a jump is led to the end -/
theorem yTI_a {D : Nat → List Int} {cur : List Int} {C : yC} {W : List yE} {k r a j : Int} (h : yTI B D cur C ((k, r, a, j) :: W)) (h0 : 0 ≤ j) (ho : ∀ o : Int, C[j.toNat]? = some (o, -1) → j.toNat < C.length → yok B D C.length j.toNat o (C.length : Int)) : yTI B D cur (yaim C j) W := by
  obtain ⟨h1, h2, h3, h4, h5, h6⟩ := h
  obtain ⟨q0, o, q1, q2⟩ := h5.1 h0
  have len : (yaim C j).length = C.length := yaim_len
  have l := (List.getElem?_eq_some_iff.mp q1).1
  have same : ∀ i : Nat, ¬ i = j.toNat → (yaim C j)[i]? = C[i]? := by
    intro i e
    unfold yaim
    rw [List.getElem?_set_ne (fun z => e z.symm)]
  have own : (yaim C j)[j.toNat]? = some (o, (C.length : Int)) := by
    unfold yaim
    rw [List.getElem?_set_self l, List.getD_eq_getElem?_getD, q1]
    rfl
  refine ⟨h1, by rw [len]; exact h2, ?_, by rw [len]; exact h4, ?_, ?_⟩
  · intro i o' v' hi
    rw [len]
    by_cases e : i = j.toNat
    · subst e
      rw [own] at hi
      injection hi with hi
      injection hi with e3 e4
      subst e3 e4
      exact ho o q1 l
    · rw [same i e] at hi
      exact h3 i o' v' hi
  · refine yP_m W (fun i o' hi hc => ⟨?_, rfl⟩) h5.2.2
    have e : ¬ i = j.toNat := fun z => q0 (by rw [← z]; exact hi)
    rw [same i e]
    exact hc
  · intro i o' hi hp
    by_cases e : i = j.toNat
    · subst e
      rw [own] at hi
      injection hi with hi
      injection hi with e3 e4
      omega
    · rw [same i e] at hi
      have z := h6 i o' hi hp
      unfold yjs at z
      rw [if_pos h0] at z
      rcases List.mem_cons.mp z with z | z
      · exact absurd z e
      · exact z
end YB
