/-! the code of an expression is in order -/
section YB
variable {B : Int → Int → Prop}
theorem yT_j {k r a j : Int} {W : List yE} (h : ¬ ((21 ≤ k ∧ k ≤ 29) ∨ ((15 ≤ k ∧ k ≤ 17) ∧ ¬ a = 0))) : yT ((k, r, a, j) :: W) = yT W := by
  show (if (21 ≤ k ∧ k ≤ 29) ∨ ((15 ≤ k ∧ k ≤ 17) ∧ ¬ a = 0) then a :: yT W else yT W) = _
  rw [if_neg h]
theorem yT_c {k r a j : Int} {W : List yE} (h : (21 ≤ k ∧ k ≤ 29) ∨ ((15 ≤ k ∧ k ≤ 17) ∧ ¬ a = 0)) : yT ((k, r, a, j) :: W) = a :: yT W := by
  show (if (21 ≤ k ∧ k ≤ 29) ∨ ((15 ≤ k ∧ k ≤ 17) ∧ ¬ a = 0) then a :: yT W else yT W) = _
  rw [if_pos h]
theorem yI_T {W : List yE} {d n : Int} {C : yC} (h : yI W d C n) (hd : d ≤ 40) : (yT W).length ≤ 163 := by
  have a := yT_b W d h.1
  have b := ygr_b (ytop W)
  omega
/-- one that waits without a jump -/
theorem yjs_n {k r a j : Int} {W : List yE} (h : j = -1) : yjs ((k, r, a, j) :: W) = yjs W := by
  show (if 0 ≤ j then j.toNat :: yjs W else yjs W) = _
  rw [if_neg (by omega)]
/-- a jump that waits is one -/
theorem yj_k {D : Nat → List Int} {C : yC} {W : List yE} {k r a j d n : Int} (hI : yI ((k, r, a, j) :: W) d C n) (hp : yP D C ((k, r, a, j) :: W)) (h0 : 0 ≤ j) : k = 32 ∨ k = 33 ∨ k = 20 ∨ k = 34 := by
  obtain ⟨q0, o, q1, q2⟩ := hp.1 h0
  rcases hI.2.1.1 with z | ⟨z1, o', v', z2, z3⟩
  · omega
  · rw [q1] at z2
    injection z2 with z2
    injection z2 with z2 z4
    subst z2
    unfold yjp at z3
    rcases q2 with ⟨a1, a2, a3, a4⟩ | ⟨a1, a2, a3⟩
    · omega
    · rcases hI.1 with ⟨c1, c2⟩ | ⟨c1, c2, c3⟩ <;> omega
theorem yTI_pop {D : Nat → List Int} {C : yC} {W : List yE} {k r a j d n ty : Int} (hI : yI ((k, r, a, j) :: W) d C n) (hd : d ≤ 40) (h : yTI B D (ty :: yT ((k, r, a, j) :: W)) C ((k, r, a, j) :: W)) (hr : 1 ≤ r) (hf : yfit k r a ty) (ht : ty = 1 ∨ ty = 2) : ∃ D', yTI B D' (yt1 r ty :: yT W) (yc1 k j C) W ∧ (yt1 r ty = 1 ∨ yt1 r ty = 2) := by
  have hT := yI_T hI hd
  have hWI := hI.1
  by_cases h0 : 0 ≤ j
  · have hk := yj_k hI h.2.2.2.2.1 h0
    have eT : yT ((k, r, a, j) :: W) = yT W := yT_j (by omega)
    have hkr : (k = 32 ∧ r = 4) ∨ (k = 33 ∧ r = 3) ∨ (k = 20 ∧ r = 2) ∨ (k = 34 ∧ r = 1) := by
      rcases hWI with ⟨c1, c2⟩ | ⟨c1, c2, c3⟩ <;> omega
    have et : yt1 r ty = ty := by
      unfold yt1
      rcases hkr with c | c | c | c
      · rw [if_neg (by omega), if_neg (by omega)]; omega
      · rw [if_neg (by omega), if_neg (by omega)]; omega
      · rw [if_neg (by omega), if_neg (by omega)]; omega
      · rw [if_pos (by omega)]
    refine ⟨D, ?_, by rw [et]; exact ht⟩
    rw [et]
    unfold yc1
    rw [if_pos h0]
    rw [eT] at h
    refine yTI_a h h0 (fun o ho hl => ?_)
    obtain ⟨q0, o', q1, q2⟩ := h.2.2.2.2.1.1 h0
    rw [ho] at q1
    injection q1 with q1
    injection q1 with q1
    subst q1
    have hc := h.2.1
    have hv := h.2.2.1 _ _ _ ho
    rcases hkr with c | c | c | c
    · rcases q2 with ⟨a1, a2, a3, a4⟩ | ⟨a1, a2, a3⟩
      · omega
      · have ha : a = 2 ∧ ty = 2 := by omega
        unfold yok at hv ⊢
        refine Or.inr (Or.inr (Or.inr (Or.inr (Or.inr (Or.inr (Or.inl ⟨by omega, ?_⟩))))))
        rcases hv with z | z | z | z | z | z | z | z | z
        · omega
        · omega
        · omega
        · omega
        · omega
        · omega
        · obtain ⟨_, a', s, z1, z2, z3⟩ := z
          rw [a3] at z1
          injection z1 with z1 z4
          refine ⟨a, yT W, a3, by rw [z2, z4], Or.inr ⟨ha.1, C.length, rfl, hl, Nat.le_refl _, ?_⟩⟩
          rw [hc, ha.2]
        · omega
        · omega
    · rcases q2 with ⟨a1, a2, a3, a4⟩ | ⟨a1, a2, a3⟩
      · omega
      · have ha : a = 2 ∧ ty = 2 := by omega
        unfold yok at hv ⊢
        refine Or.inr (Or.inr (Or.inr (Or.inr (Or.inr (Or.inr (Or.inl ⟨by omega, ?_⟩))))))
        rcases hv with z | z | z | z | z | z | z | z | z
        · omega
        · omega
        · omega
        · omega
        · omega
        · omega
        · obtain ⟨_, a', s, z1, z2, z3⟩ := z
          rw [a3] at z1
          injection z1 with z1 z4
          refine ⟨a, yT W, a3, by rw [z2, z4], Or.inr ⟨ha.1, C.length, rfl, hl, Nat.le_refl _, ?_⟩⟩
          rw [hc, ha.2]
        · omega
        · omega
    · rcases q2 with ⟨a1, a2, a3, a4⟩ | ⟨a1, a2, a3⟩
      · omega
      · have ha : a = 2 ∧ ty = 2 := by omega
        unfold yok at hv ⊢
        refine Or.inr (Or.inr (Or.inr (Or.inr (Or.inr (Or.inr (Or.inl ⟨by omega, ?_⟩))))))
        rcases hv with z | z | z | z | z | z | z | z | z
        · omega
        · omega
        · omega
        · omega
        · omega
        · omega
        · obtain ⟨_, a', s, z1, z2, z3⟩ := z
          rw [a3] at z1
          injection z1 with z1 z4
          refine ⟨a, yT W, a3, by rw [z2, z4], Or.inr ⟨ha.1, C.length, rfl, hl, Nat.le_refl _, ?_⟩⟩
          rw [hc, ha.2]
        · omega
        · omega
    · rcases q2 with ⟨a1, a2, a3, a4⟩ | ⟨a1, a2, a3⟩
      · have ha : a = ty := by omega
        unfold yok
        refine Or.inr (Or.inr (Or.inr (Or.inr (Or.inl ⟨a3, Or.inr ⟨C.length, rfl, hl, Nat.le_refl _, ?_⟩⟩))))
        rcases a4 with a4 | a4
        · omega
        · rw [hc, a4, ha]
      · exact absurd ⟨c.1, c.2⟩ a1
  · have hj : j = -1 := h.2.2.2.2.1.2.1 (by omega)
    have nj : ¬ yjp k := by
      rcases hI.2.1.1 with z | z
      · exact z.2
      · omega
    unfold yjp at nj
    unfold yc1
    rw [if_neg h0]
    have hc := h.2.1
    have hl : (yt1 r ty :: yT W).length ≤ 170 := by
      rw [List.length_cons]
      have : (yT W).length ≤ (yT ((k, r, a, j) :: W)).length := by
        by_cases z : (21 ≤ k ∧ k ≤ 29) ∨ ((15 ≤ k ∧ k ≤ 17) ∧ ¬ a = 0)
        · rw [yT_c z, List.length_cons]
          omega
        · rw [yT_j z]
          exact Nat.le_refl _
      omega
    have hkr : (k = 31 ∧ r = 5) ∨ (k = 43 ∧ r = 9) ∨ ((15 ≤ k ∧ k ≤ 17) ∧ r = 9) ∨ ((21 ≤ k ∧ k ≤ 26) ∧ r = 6) ∨ ((k = 27 ∨ k = 28) ∧ r = 7) ∨ (k = 29 ∧ r = 8) := by
      rcases hWI with ⟨c1, c2⟩ | ⟨c1, c2, c3⟩ <;> omega
    have et : yt1 r ty = 1 ∨ yt1 r ty = 2 := by
      unfold yt1
      repeat' split
      all_goals omega
    refine ⟨yup D (C.length + 1) (yt1 r ty :: yT W), yTI_e h hl ?_ (yP_e h.2.2.2.2.1.2.2) (fun i hi => ?_) (fun z => absurd z (by decide)), et⟩
    · have e0 : yup D (C.length + 1) (yt1 r ty :: yT W) C.length = ty :: yT ((k, r, a, j) :: W) := by
        rw [yup_n (by omega)]
        exact hc
      have e1 : yup D (C.length + 1) (yt1 r ty :: yT W) (C.length + 1) = yt1 r ty :: yT W := yup_s
      unfold yok
      rw [e0, e1]
      rcases hkr with c | c | c | c | c | c
      · have t1 : yt1 r ty = 2 := by unfold yt1; rw [if_neg (by omega), if_neg (by omega)]
        rw [t1, yT_j (by omega)]
        refine Or.inr (Or.inr (Or.inl ⟨c.1, yT W, ?_, rfl⟩))
        rw [show ty = 2 by omega]
      · have t1 : yt1 r ty = 1 := by unfold yt1; rw [if_neg (by omega), if_pos (by omega)]
        rw [t1, yT_j (by omega)]
        refine Or.inr (Or.inr (Or.inr (Or.inl ⟨c.1, yT W, ?_, rfl⟩)))
        rw [show ty = 1 by omega]
      · have t1 : yt1 r ty = 1 := by unfold yt1; rw [if_neg (by omega), if_pos (by omega)]
        have ha : a = 1 ∧ ty = 1 := by omega
        rw [t1, yT_c (by omega), ha.1, ha.2]
        exact Or.inr (Or.inr (Or.inr (Or.inr (Or.inr (Or.inr (Or.inr (Or.inl ⟨Or.inl c.1, yT W, rfl, rfl⟩)))))))
      · have t1 : yt1 r ty = 2 := by unfold yt1; rw [if_neg (by omega), if_neg (by omega)]
        have ha : a = ty := by omega
        rw [t1, yT_c (by omega), ha]
        exact Or.inr (Or.inr (Or.inr (Or.inr (Or.inr (Or.inr (Or.inr (Or.inr ⟨c.1, ty, yT W, rfl, rfl⟩)))))))
      · have t1 : yt1 r ty = 1 := by unfold yt1; rw [if_neg (by omega), if_pos (by omega)]
        have ha : a = 1 ∧ ty = 1 := by omega
        rw [t1, yT_c (by omega), ha.1, ha.2]
        exact Or.inr (Or.inr (Or.inr (Or.inr (Or.inr (Or.inr (Or.inr (Or.inl ⟨Or.inr (by omega), yT W, rfl, rfl⟩)))))))
      · have t1 : yt1 r ty = 1 := by unfold yt1; rw [if_neg (by omega), if_pos (by omega)]
        have ha : a = 1 ∧ ty = 1 := by omega
        rw [t1, yT_c (by omega), ha.1, ha.2]
        exact Or.inr (Or.inr (Or.inr (Or.inr (Or.inr (Or.inr (Or.inr (Or.inl ⟨Or.inr (by omega), yT W, rfl, rfl⟩)))))))
    · rw [yjs_n hj] at hi
      exact hi
theorem yd1_le {r d : Int} (h : d ≤ 40) : yd1 r d ≤ 40 := by
  unfold yd1
  split <;> omega
theorem yset_T {thr : Int} (hth : 1 ≤ thr) : ∀ (W : List yE) (d : Int) (C : yC) (ty n : Int) (D : Nat → List Int) (W' : List yE) (d' : Int) (C' : yC) (ty' : Int), yI W d C n → d ≤ 40 → yTI B D (ty :: yT W) C W → (ty = 1 ∨ ty = 2) → yset thr W d C ty = some (W', d', C', ty') → d' ≤ 40 ∧ (ty' = 1 ∨ ty' = 2) ∧ ∃ D', yTI B D' (ty' :: yT W') C' W' := by
  intro W
  induction W with
  | nil =>
    intro d C ty n D W' d' C' ty' hI hd h ht e
    injection e with e
    injection e with e1 e
    injection e with e2 e
    injection e with e3 e4
    subst e1 e2 e3 e4
    exact ⟨hd, ht, D, h⟩
  | cons x W ih =>
    obtain ⟨k, r, a, j⟩ := x
    intro d C ty n D W' d' C' ty' hI hd h ht e
    unfold yset at e
    split at e
    · rename_i hr
      split at e
      · rename_i hf
        obtain ⟨D1, h1, h2⟩ := yTI_pop hI hd h (by omega) hf ht
        exact ih _ _ _ _ D1 _ _ _ _ (yI_pop hI (by omega)) (yd1_le hd) h1 h2 e
      · cases e
    · injection e with e
      injection e with e1 e
      injection e with e2 e
      injection e with e3 e4
      subst e1 e2 e3 e4
      exact ⟨hd, ht, D, h⟩
/-- what is kept: 0 behind an operand -/
def yK (B : Int → Int → Prop) (c : yG) (n : Int) : Prop := match c with
  | (m, W, d, C, ty) => yI W d C n ∧ d ≤ 40 ∧ (m = 0 → ty = 1 ∨ ty = 2) ∧ ∃ D, yTI B D (if m = 0 then ty :: yT W else yT W) C W
theorem yn_j {D : Nat → List Int} {C : yC} {W : List yE} {k r a j d n : Int} (hI : yI ((k, r, a, j) :: W) d C n) (hp : yP D C ((k, r, a, j) :: W)) (hk : ¬ (k = 32 ∨ k = 33 ∨ k = 20 ∨ k = 34)) : j = -1 := by
  by_cases h0 : 0 ≤ j
  · exact absurd (yj_k hI hp h0) hk
  · exact hp.2.1 (by omega)
theorem ybr_K {q d ty n : Int} {W : List yE} {C : yC} {c : yG} {D : Nat → List Int} (hI : yI W d C n) (hd : d ≤ 40) (ht : ty = 1 ∨ ty = 2) (htop : ytop W < 1) (hT : yTI B D (ty :: yT W) C W) (h : ybr q W d C ty = some (.inl c)) : yK B c (n + 1) := by
  unfold ybr at h
  split at h
  · cases h
  · rename_i k r a jm W2
    have hr0 : r < 1 := htop
    have hlen := yI_T hI hd
    split at h
    · rename_i cc
      obtain ⟨c1, c2⟩ := cc
      subst c1
      injection h with h
      injection h with h
      subst h
      have hj := yI_ask hI
      refine ⟨yI_colon hI hj rfl, hd, fun z => absurd z (by decide), ?_⟩
      have eT : yT ((34, r, a, jm) :: W2) = yT W2 := yT_j (by omega)
      obtain ⟨q0, o, q1, q2⟩ := hT.2.2.2.2.1.1 hj
      rcases q2 with ⟨a1, a2, a3, a4⟩ | ⟨a1, a2, a3⟩
      · omega
      · have hl := (List.getElem?_eq_some_iff.mp q1).1
        have hc := hT.2.1
        rw [eT] at hc hT hlen
        have hn1 : ¬ C.length ∈ yjs W2 := by
          intro z
          have key : ∀ V : List yE, yP D C V → ∀ i, i ∈ yjs V → i < C.length := by
            intro V
            induction V with
            | nil => intro _ i hi; cases hi
            | cons e V ih =>
              obtain ⟨k', r', a', j'⟩ := e
              intro hp i hi
              unfold yjs at hi
              split at hi
              · rename_i hz
                rcases List.mem_cons.mp hi with hi | hi
                · obtain ⟨_, o', z1, _⟩ := hp.1 hz
                  rw [hi]
                  exact (List.getElem?_eq_some_iff.mp z1).1
                · exact ih hp.2.2 i hi
              · exact ih hp.2.2 i hi
          have := key W2 hT.2.2.2.2.1.2.2 _ z
          omega
        have e1 : yTI B (yup D (C.length + 1) (yT W2)) (yT W2) (C ++ [(35, -1)]) ((34, r, a, jm) :: (34, 1, (if a = 2 then ty else 0), (C.length : Int)) :: W2) := by
          refine yTI_e hT (by omega) ?_ ⟨fun _ => ⟨?_, o, ?_, ?_⟩, fun z => by omega, fun _ => ⟨?_, 35, ?_, ?_⟩, fun z => by omega, yP_e hT.2.2.2.2.1.2.2⟩ ?_ ?_
          · unfold yok
            exact Or.inr (Or.inr (Or.inr (Or.inr (Or.inl ⟨rfl, Or.inl rfl⟩))))
          · intro z
            unfold yjs at z
            rw [if_pos (by omega)] at z
            rcases List.mem_cons.mp z with z | z
            · omega
            · exact q0 z
          · rw [List.getElem?_append_left hl]
            exact q1
          · refine Or.inr ⟨a1, a2, ?_⟩
            rw [yup_n (by omega), a3, yT_j (by omega)]
          · rw [Int.toNat_natCast]
            exact hn1
          · rw [Int.toNat_natCast, List.getElem?_append_right (Nat.le_refl _), Nat.sub_self]
            rfl
          · refine Or.inl ⟨rfl, rfl, rfl, ?_⟩
            rw [Int.toNat_natCast, yup_n (by omega), hc]
            by_cases z : a = 2
            · rw [if_pos z]
              exact Or.inr rfl
            · rw [if_neg z]
              exact Or.inl rfl
          · intro i hi
            unfold yjs at hi ⊢
            rw [if_pos hj] at hi ⊢
            rcases List.mem_cons.mp hi with hi | hi
            · rw [hi]
              exact List.mem_cons_self
            · unfold yjs
              rw [if_pos (by omega)]
              exact List.mem_cons_of_mem _ (List.mem_cons_of_mem _ hi)
          · intro _ _
            unfold yjs
            rw [if_pos hj]
            unfold yjs
            rw [if_pos (by omega), Int.toNat_natCast]
            exact List.mem_cons_of_mem _ List.mem_cons_self
        refine ⟨yup D (C.length + 1) (yT W2), ?_⟩
        rw [if_neg (by decide), yT_j (by omega)]
        refine yTI_a e1 hj (fun o' ho' hl' => ?_)
        have ho2 := ho'
        rw [List.getElem?_append_left hl, q1] at ho'
        injection ho' with ho'
        injection ho' with ho'
        subst ho'
        have hv := e1.2.2.1 _ _ _ ho2
        have len : (C ++ [((35 : Int), (-1 : Int))]).length = C.length + 1 := by rw [List.length_append]; rfl
        unfold yok at hv ⊢
        refine Or.inr (Or.inr (Or.inr (Or.inr (Or.inr (Or.inl ⟨by omega, ?_⟩)))))
        rcases hv with z | z | z | z | z | z | z | z | z
        · omega
        · omega
        · omega
        · omega
        · omega
        · obtain ⟨_, a', s, z1, z2, z3⟩ := z
          refine ⟨a', s, z1, z2, Or.inr ⟨(C ++ [((35 : Int), (-1 : Int))]).length, rfl, hl', Nat.le_refl _, ?_⟩⟩
          rw [yup_n (by omega), a3] at z1
          injection z1 with z1 z4
          rw [len, yup_s, z4]
        · omega
        · omega
        · omega
    · split at h
      · rename_i cc
        obtain ⟨c1, c2⟩ := cc
        subst c1
        injection h with h
        injection h with h
        subst h
        have hj := yn_j hI hT.2.2.2.2.1 (by omega)
        refine ⟨yI_le (yI_shut hI) (by omega), by omega, fun _ => ht, D, ?_⟩
        rw [if_pos rfl]
        rw [yT_j (by omega)] at hT
        exact ⟨hT.1, hT.2.1, hT.2.2.1, hT.2.2.2.1, hT.2.2.2.2.1.2.2, fun i o hi hp => by have z := hT.2.2.2.2.2 i o hi hp; rw [yjs_n hj] at z; exact z⟩
      · split at h
        · rename_i cc
          injection h with h
          injection h with h
          subst h
          have hj := yn_j hI hT.2.2.2.2.1 (by omega)
          refine ⟨yI_le (yI_top hI) (by omega), hd, fun z => absurd z (by decide), D, ?_⟩
          rw [if_neg (by decide), yT_c (by omega)]
          rw [yT_j (by omega)] at hT
          refine ⟨hT.1, hT.2.1, hT.2.2.1, hT.2.2.2.1, ⟨fun z => by omega, fun _ => hj, hT.2.2.2.2.1.2.2⟩, fun i o hi hp => ?_⟩
          have z := hT.2.2.2.2.2 i o hi hp
          rw [yjs_n hj] at z ⊢
          exact z
        · split at h
          · rename_i cc
            injection h with h
            injection h with h
            subst h
            have hj := yn_j hI hT.2.2.2.2.1 (by omega)
            refine ⟨yI_le (yI_fun hI cc.1) (by omega), hd, fun _ => ht, D, ?_⟩
            rw [if_pos rfl]
            have e : yT ((k, 9, a, jm) :: W2) = yT ((k, r, a, jm) :: W2) := rfl
            rw [e]
            refine ⟨hT.1, hT.2.1, hT.2.2.1, hT.2.2.2.1, ⟨fun z => by omega, fun _ => hj, hT.2.2.2.2.1.2.2⟩, fun i o hi hp => ?_⟩
            have z := hT.2.2.2.2.2 i o hi hp
            rw [yjs_n hj] at z ⊢
            exact z
          · cases h
end YB
