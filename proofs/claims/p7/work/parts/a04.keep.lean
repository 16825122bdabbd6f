/-! what an expression that is read keeps: how much waits, how deep, how long its code is -/
def yem : List yE → Int
  | [] => 0
  | (_, _, _, j) :: W => (if j < 0 then 1 else 0) + yem W
/-- one that is counted in nested; one that is not -/
abbrev yn1 (k r : Int) : Prop := (k = 31 ∧ r = 5) ∨ (k = 43 ∧ r = 9) ∨ (k = 39 ∧ r = 0) ∨ ((15 ≤ k ∧ k ≤ 17) ∧ (r = 0 ∨ r = 9)) ∨ (k = 34 ∧ (r = 0 ∨ r = 1)) ∨ (k = 20 ∧ r = 2)
abbrev yn0 (k r : Int) : Prop := (k = 33 ∧ r = 3) ∨ (k = 32 ∧ r = 4) ∨ ((21 ≤ k ∧ k ≤ 26) ∧ r = 6) ∨ ((k = 27 ∨ k = 28) ∧ r = 7) ∨ (k = 29 ∧ r = 8)
def yWI : List yE → Int → Prop
  | [], d => d = 0
  | (k, r, _, _) :: W, d => (yn1 k r ∧ yWI W (d - 1)) ∨ (yn0 k r ∧ ytop W < r ∧ yWI W d)
def yJ (C : yC) : List yE → Prop
  | [] => True
  | (k, _, _, j) :: W => ((j = -1 ∧ ¬ yjp k) ∨ (0 ≤ j ∧ ∃ o v : Int, C[j.toNat]? = some (o, v) ∧ yjp o)) ∧ yJ C W
def yI (W : List yE) (d : Int) (C : yC) (n : Int) : Prop := yWI W d ∧ yJ C W ∧ (C.length : Int) + yem W ≤ n
theorem yem_0 : ∀ W : List yE, 0 ≤ yem W := by
  intro W
  induction W with
  | nil => exact Int.le_refl _
  | cons e W ih =>
    obtain ⟨k, r, a, j⟩ := e
    unfold yem
    split <;> omega
theorem yI_0 {n : Int} (h : 0 ≤ n) : yI [] 0 [] n := ⟨rfl, trivial, by show (0 : Int) + 0 ≤ n; omega⟩
theorem yI_le {W : List yE} {d n m : Int} {C : yC} (h : yI W d C n) (hm : n ≤ m) : yI W d C m := ⟨h.1, h.2.1, Int.le_trans h.2.2 hm⟩
/-- how many wait, by the rank of the last -/
def yh (r : Int) : Int := if r = 3 then 1 else if r = 4 then 2 else if r = 6 then 3 else if r = 7 then 4 else if r = 8 then 5 else 0
theorem yWI_b : ∀ (W : List yE) (d : Int), yWI W d → 0 ≤ d ∧ (W.length : Int) ≤ 6 * d + yh (ytop W) ∧ 0 ≤ ytop W ∧ ytop W ≤ 9 := by
  intro W
  induction W with
  | nil =>
    intro d h
    have h : d = 0 := h
    subst h
    exact ⟨by omega, by decide, by decide, by decide⟩
  | cons e W ih =>
    intro d h
    obtain ⟨k, r, a, j⟩ := e
    have e1 : ytop ((k, r, a, j) :: W) = r := rfl
    rw [e1, List.length_cons]
    rcases h with ⟨h1, h2⟩ | ⟨h1, h2, h3⟩
    · have q := ih _ h2
      have b1 : yh (ytop W) ≤ 5 := by
        unfold yh
        repeat' split
        all_goals omega
      have b2 : 0 ≤ yh r := by
        unfold yh
        repeat' split
        all_goals omega
      refine ⟨by omega, by omega, by omega, by omega⟩
    · have q := ih _ h3
      have b1 : yh (ytop W) + 1 ≤ yh r := by
        have c : r = 3 ∨ r = 4 ∨ r = 6 ∨ r = 7 ∨ r = 8 := by omega
        have c2 : ytop W = 0 ∨ ytop W = 1 ∨ ytop W = 2 ∨ ytop W = 3 ∨ ytop W = 4 ∨ ytop W = 5 ∨ ytop W = 6 ∨ ytop W = 7 := by omega
        rcases c with rfl | rfl | rfl | rfl | rfl <;> rcases c2 with z | z | z | z | z | z | z | z <;> rw [z] at h2 ⊢ <;> first | (exact absurd h2 (by decide)) | decide
      refine ⟨by omega, by omega, by omega, by omega⟩
theorem yI_b {W : List yE} {d n : Int} {C : yC} (h : yI W d C n) : 0 ≤ d ∧ (W.length : Int) ≤ 6 * d + 5 ∧ (C.length : Int) ≤ n := by
  have q := yWI_b W d h.1
  have b1 : yh (ytop W) ≤ 5 := by
    unfold yh
    repeat' split
    all_goals omega
  have q2 := yem_0 W
  have q3 := h.2.2
  exact ⟨by omega, by omega, by omega⟩
theorem yJ_mono {C C' : yC} (h : ∀ (i : Nat) (o v : Int), C[i]? = some (o, v) → ∃ v', C'[i]? = some (o, v')) : ∀ W, yJ C W → yJ C' W := by
  intro W
  induction W with
  | nil => intro _; trivial
  | cons e W ih =>
    obtain ⟨k, r, a, j⟩ := e
    intro q
    refine ⟨?_, ih q.2⟩
    rcases q.1 with q1 | ⟨q1, o, v, q2, q3⟩
    · exact Or.inl q1
    · obtain ⟨v', z⟩ := h _ _ _ q2
      exact Or.inr ⟨q1, o, v', z, q3⟩
theorem yg_app {C : yC} {x : Int × Int} : ∀ (i : Nat) (o v : Int), C[i]? = some (o, v) → ∃ v', (C ++ [x])[i]? = some (o, v') := by
  intro i o v h
  refine ⟨v, ?_⟩
  rw [List.getElem?_append_left (List.getElem?_eq_some_iff.mp h).1]
  exact h
theorem yg_aim {C : yC} {j : Int} : ∀ (i : Nat) (o v : Int), C[i]? = some (o, v) → ∃ v', (yaim C j)[i]? = some (o, v') := by
  intro i o v h
  unfold yaim
  by_cases e : j.toNat = i
  · subst e
    refine ⟨(C.length : Int), ?_⟩
    rw [List.getElem?_set_self (List.getElem?_eq_some_iff.mp h).1, List.getD_eq_getElem?_getD, h]
    rfl
  · exact ⟨v, by rw [List.getElem?_set_ne e]; exact h⟩
theorem yaim_len {C : yC} {j : Int} : (yaim C j).length = C.length := by
  unfold yaim
  rw [List.length_set]
theorem yg_c1 {C : yC} {k j : Int} : ∀ (i : Nat) (o v : Int), C[i]? = some (o, v) → ∃ v', (yc1 k j C)[i]? = some (o, v') := by
  unfold yc1
  split
  · exact yg_aim
  · exact yg_app
theorem yc1_len {C : yC} {k j : Int} : ((yc1 k j C).length : Int) = C.length + (if j < 0 then 1 else 0) := by
  unfold yc1
  by_cases h : 0 ≤ j
  · rw [if_pos h, if_neg (by omega), yaim_len]
    omega
  · rw [if_neg h, if_pos (by omega), List.length_append]
    rfl
/-- one that waits is settled -/
theorem yI_pop {k r a j d n : Int} {W : List yE} {C : yC} (h : yI ((k, r, a, j) :: W) d C n) (hr : 1 ≤ r) : yI W (yd1 r d) (yc1 k j C) n := by
  obtain ⟨h1, h2, h3⟩ := h
  refine ⟨?_, yJ_mono yg_c1 W h2.2, ?_⟩
  · unfold yd1
    rcases h1 with ⟨q1, q2⟩ | ⟨q1, q2, q3⟩
    · rw [if_pos (by omega)]
      exact q2
    · rw [if_neg (by omega)]
      exact q3
  · rw [yc1_len]
    unfold yem at h3
    omega
theorem yset_I {thr : Int} (ht : 1 ≤ thr) : ∀ (W : List yE) (d : Int) (C : yC) (ty n : Int) (W' : List yE) (d' : Int) (C' : yC) (ty' : Int), yI W d C n → yset thr W d C ty = some (W', d', C', ty') → yI W' d' C' n ∧ ytop W' < thr := by
  intro W
  induction W with
  | nil =>
    intro d C ty n W' d' C' ty' h e
    injection e with e
    injection e with e1 e
    injection e with e2 e
    injection e with e3 e4
    subst e1 e2 e3
    exact ⟨h, by show (0 : Int) < thr; omega⟩
  | cons x W ih =>
    obtain ⟨k, r, a, j⟩ := x
    intro d C ty n W' d' C' ty' h e
    unfold yset at e
    split at e
    · rename_i hr
      split at e
      · exact ih _ _ _ _ _ _ _ _ (yI_pop h (by omega)) e
      · cases e
    · rename_i hr
      injection e with e
      injection e with e1 e
      injection e with e2 e
      injection e with e3 e4
      subst e1 e2 e3
      exact ⟨h, by show r < thr; omega⟩
theorem yI_op {q ty d n jm : Int} {W : List yE} {C : yC} (h : yI W d C n) (hq : yn0 q (yrank q)) (ht : ytop W < yrank q) (hnj : ¬ yjp q) (hj : jm = -1) : yI ((q, yrank q, ty, jm) :: W) d C (n + 1) := by
  subst hj
  refine ⟨Or.inr ⟨hq, ht, h.1⟩, ⟨Or.inl ⟨rfl, hnj⟩, h.2.1⟩, ?_⟩
  have := h.2.2
  show (C.length : Int) + ((if (-1 : Int) < 0 then 1 else 0) + yem W) ≤ n + 1
  rw [if_pos (by decide)]
  omega
theorem yI_jmp {q r ty d d' n jm : Int} {W : List yE} {C : yC} (h : yI W d C n) (hq : (yn1 q r ∧ d' = d + 1) ∨ (yn0 q r ∧ ytop W < r ∧ d' = d)) (hp : yjp q) (hj : jm = C.length) : yI ((q, r, ty, jm) :: W) d' (C ++ [(q, -1)]) (n + 1) := by
  subst hj
  refine ⟨?_, ⟨Or.inr ⟨by omega, q, -1, ?_, hp⟩, yJ_mono yg_app W h.2.1⟩, ?_⟩
  · rcases hq with ⟨q1, q2⟩ | ⟨q1, q2, q3⟩
    · refine Or.inl ⟨q1, ?_⟩
      rw [show d' - 1 = d by omega]
      exact h.1
    · rw [q3]
      exact Or.inr ⟨q1, q2, h.1⟩
  · rw [Int.toNat_natCast, List.getElem?_append_right (Nat.le_refl _), Nat.sub_self]
    rfl
  · have := h.2.2
    rw [List.length_append]
    show ((C.length + 1 : Nat) : Int) + ((if (C.length : Int) < 0 then 1 else 0) + yem W) ≤ n + 1
    rw [if_neg (by omega)]
    omega
theorem yI_nest {q r ty d n : Int} {W : List yE} {C : yC} (h : yI W d C n) (hq : yn1 q r) (h34 : ¬ yjp q) : yI ((q, r, ty, -1) :: W) (d + 1) C (n + 1) := by
  refine ⟨Or.inl ⟨hq, ?_⟩, ⟨Or.inl ⟨rfl, h34⟩, h.2.1⟩, ?_⟩
  · rw [show d + 1 - 1 = d by omega]
    exact h.1
  · have := h.2.2
    show (C.length : Int) + ((if (-1 : Int) < 0 then 1 else 0) + yem W) ≤ n + 1
    rw [if_pos (by decide)]
    omega
theorem yI_emit {c v d n : Int} {W : List yE} {C : yC} (h : yI W d C n) : yI W d (C ++ [(c, v)]) (n + 1) := by
  refine ⟨h.1, yJ_mono yg_app W h.2.1, ?_⟩
  have := h.2.2
  rw [List.length_append]
  show ((C.length + 1 : Nat) : Int) + yem W ≤ n + 1
  omega
theorem yI_top {k r a j a' d n : Int} {W : List yE} {C : yC} (h : yI ((k, r, a, j) :: W) d C n) : yI ((k, r, a', j) :: W) d C n := ⟨h.1, h.2.1, h.2.2⟩
theorem yI_fun {k r a j a' d n : Int} {W : List yE} {C : yC} (h : yI ((k, r, a, j) :: W) d C n) (hk : 15 ≤ k ∧ k ≤ 17) : yI ((k, 9, a', j) :: W) d C n := by
  refine ⟨?_, h.2.1, h.2.2⟩
  rcases h.1 with ⟨q1, q2⟩ | ⟨q1, q2, q3⟩
  · exact Or.inl ⟨by omega, q2⟩
  · exact absurd q1 (by omega)
theorem yI_shut {r a j d n : Int} {W : List yE} {C : yC} (h : yI ((39, r, a, j) :: W) d C n) : yI W (d - 1) C n := by
  refine ⟨?_, h.2.1.2, ?_⟩
  · rcases h.1 with ⟨q1, q2⟩ | ⟨q1, q2, q3⟩
    · exact q2
    · exact absurd q1 (by omega)
  · have h3 := h.2.2
    unfold yem at h3
    have := yem_0 W
    split at h3 <;> omega
theorem yI_ask {r a j d n : Int} {W : List yE} {C : yC} (h : yI ((34, r, a, j) :: W) d C n) : 0 ≤ j := by
  rcases h.2.1.1 with q | q
  · exact absurd (show yjp 34 by decide) q.2
  · exact q.1
theorem yI_colon {r a j a' d n jm : Int} {W : List yE} {C : yC} (h : yI ((34, r, a, j) :: W) d C n) (h0 : 0 ≤ j) (hm : jm = C.length) : yI ((34, 1, a', jm) :: W) d (yaim (C ++ [(35, -1)]) j) (n + 1) := by
  subst hm
  refine ⟨?_, ⟨Or.inr ⟨by omega, ?_⟩, yJ_mono yg_aim W (yJ_mono yg_app W h.2.1.2)⟩, ?_⟩
  · rcases h.1 with ⟨q1, q2⟩ | ⟨q1, q2, q3⟩
    · exact Or.inl ⟨by omega, q2⟩
    · exact absurd q1 (by omega)
  · have q : (C ++ [((35 : Int), (-1 : Int))])[C.length]? = some (35, -1) := by
      rw [List.getElem?_append_right (Nat.le_refl _), Nat.sub_self]
      rfl
    obtain ⟨v', z⟩ := yg_aim (j := j) _ _ _ q
    rw [Int.toNat_natCast]
    exact ⟨35, v', z, by decide⟩
  · have h3 := h.2.2
    unfold yem at h3
    rw [if_neg (by omega)] at h3
    rw [yaim_len, List.length_append]
    show ((C.length + 1 : Nat) : Int) + ((if (C.length : Int) < 0 then 1 else 0) + yem W) ≤ n + 1
    rw [if_neg (by omega)]
    omega
