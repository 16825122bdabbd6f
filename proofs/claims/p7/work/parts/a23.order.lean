/-! the code of an expression is in order: steps, the run -/
section YB
variable {B : Int → Int → Prop}
theorem yjs_lt {D : Nat → List Int} {C : yC} : ∀ V : List yE, yP D C V → ∀ i, i ∈ yjs V → i < C.length := by
  intro V
  induction V with
  | nil => intro _ i hi; cases hi
  | cons e V ih =>
    obtain ⟨k', r', a', j'⟩ := e
    intro hp i hi
    unfold yjs at hi
    split at hi
    · rename_i hz
      rcases List.mem_cons.mp hi with hi | hi
      · obtain ⟨_, o', z1, _⟩ := hp.1 hz
        rw [hi]
        exact (List.getElem?_eq_some_iff.mp z1).1
      · exact ih hp.2.2 i hi
    · exact ih hp.2.2 i hi
/-- one waits with no jump -/
theorem yTI_w {D : Nat → List Int} {cur : List Int} {C : yC} {W : List yE} {k r a : Int} (h : yTI B D cur C W) : yTI B D cur C ((k, r, a, -1) :: W) := by
  refine ⟨h.1, h.2.1, h.2.2.1, h.2.2.2.1, ⟨fun z => absurd z (by decide), fun _ => rfl, h.2.2.2.2.1⟩, fun i o hi hp => ?_⟩
  rw [yjs_n rfl]
  exact h.2.2.2.2.2 i o hi hp
theorem yop_K {q d ty n : Int} {W : List yE} {C : yC} {c : yG} {D : Nat → List Int} (hI : yI W d C n) (hd : d ≤ 40) (ht : ty = 1 ∨ ty = 2) (htop : ytop W < ythr q) (h6 : ¬ (yrank q = 6 ∧ ytop W = 6)) (hT : yTI B D (ty :: yT W) C W) (h : yop q W d C ty = some (.inl c)) : yK B c (n + 1) := by
  have hk : ∀ m W' d' C' t', c = (m, W', d', C', t') → yI W' d' C' (n + 1) := fun m W' d' C' t' e => yopI hI htop h6 (by rw [h, e])
  have hlen := yI_T hI hd
  unfold yop at h
  split at h
  · rename_i h0
    refine ybr_K hI hd ht ?_ hT h
    unfold ythr at htop
    rw [h0, if_pos (by omega)] at htop
    omega
  · rename_i h0
    split at h
    · cases h
    · rename_i h40
      split at h
      · rename_i hj
        injection h with h
        injection h with h
        have h := h.symm
        subst h
        refine ⟨hk _ _ _ _ _ rfl, ?_, fun z => absurd z (by decide), yup D (C.length + 1) (yT W), ?_⟩
        · split <;> omega
        · rw [if_neg (by decide), yT_j (by omega)]
          have hc := hT.2.1
          refine yTI_e hT (by omega) ?_ ⟨fun _ => ⟨?_, q, ?_, Or.inr ⟨?_, rfl, ?_⟩⟩, fun z => by omega, yP_e hT.2.2.2.2.1⟩ ?_ ?_
          · have e0 : yup D (C.length + 1) (yT W) C.length = ty :: yT W := by
              rw [yup_n (by omega)]
              exact hc
            have e1 : yup D (C.length + 1) (yT W) (C.length + 1) = yT W := yup_s
            unfold yok
            rw [e0, e1]
            rcases hj with hj | hj | hj | hj
            · exact Or.inr (Or.inr (Or.inr (Or.inr (Or.inr (Or.inr (Or.inl ⟨Or.inl hj, ty, yT W, rfl, rfl, Or.inl rfl⟩))))))
            · exact Or.inr (Or.inr (Or.inr (Or.inr (Or.inr (Or.inr (Or.inl ⟨Or.inr (Or.inl hj), ty, yT W, rfl, rfl, Or.inl rfl⟩))))))
            · exact Or.inr (Or.inr (Or.inr (Or.inr (Or.inr (Or.inr (Or.inl ⟨Or.inr (Or.inr hj), ty, yT W, rfl, rfl, Or.inl rfl⟩))))))
            · exact Or.inr (Or.inr (Or.inr (Or.inr (Or.inr (Or.inl ⟨hj, ty, yT W, rfl, rfl, Or.inl rfl⟩)))))
          · intro z
            rw [Int.toNat_natCast] at z
            have := yjs_lt W hT.2.2.2.2.1 _ z
            omega
          · rw [Int.toNat_natCast, List.getElem?_append_right (Nat.le_refl _), Nat.sub_self]
            rfl
          · intro z
            have z2 := z.2
            rw [if_pos z.1] at z2
            exact absurd z2 (by decide)
          · rw [Int.toNat_natCast, yup_n (by omega)]
            exact hc
          · intro i hi
            show i ∈ (if (0 : Int) ≤ (C.length : Int) then (C.length : Int).toNat :: yjs W else yjs W)
            rw [if_pos (by omega)]
            exact List.mem_cons_of_mem _ hi
          · intro _ _
            show C.length ∈ (if (0 : Int) ≤ (C.length : Int) then (C.length : Int).toNat :: yjs W else yjs W)
            rw [if_pos (by omega), Int.toNat_natCast]
            exact List.mem_cons_self
      · rename_i hj
        injection h with h
        injection h with h
        have h := h.symm
        subst h
        refine ⟨hk _ _ _ _ _ rfl, hd, fun z => absurd z (by decide), D, ?_⟩
        have hq : 21 ≤ q ∧ q ≤ 29 := by
          unfold yrank at h0
          split at h0
          · omega
          · split at h0
            · omega
            · split at h0
              · omega
              · split at h0
                · omega
                · split at h0
                  · omega
                  · split at h0
                    · omega
                    · split at h0
                      · omega
                      · omega
        rw [if_neg (by decide), yT_c (Or.inl hq)]
        exact yTI_w hT
theorem yhave_K {q d ty n : Int} {W : List yE} {C : yC} {D : Nat → List Int} (hI : yI W d C n) (hd : d ≤ 40) (ht : ty = 1 ∨ ty = 2) (hT : yTI B D (ty :: yT W) C W) : (∀ c, yhave q W d C ty = some (.inl c) → yK B c (n + 1)) ∧ (∀ t1 C1, yhave q W d C ty = some (.inr (t1, C1)) → ∃ D', yTI B D' [t1] C1 [] ∧ (t1 = 1 ∨ t1 = 2)) := by
  have fin : ∀ (V : List yE) (e : Int) (C2 : yC) (t2 : Int) (D2 : Nat → List Int) (t1 : Int) (C1 : yC), yTI B D2 (t2 :: yT V) C2 V → (t2 = 1 ∨ t2 = 2) → ybr q V e C2 t2 = some (.inr (t1, C1)) → ∃ D', yTI B D' [t1] C1 [] ∧ (t1 = 1 ∨ t1 = 2) := by
    intro V e C2 t2 D2 t1 C1 h1 h2 h3
    unfold ybr at h3
    split at h3
    · injection h3 with h3
      injection h3 with h3
      injection h3 with e1 e2
      subst e1 e2
      exact ⟨D2, h1, h2⟩
    · repeat' split at h3
      all_goals cases h3
  unfold yhave
  cases e1 : yset (ythr q) W d C ty with
  | none => exact ⟨fun c h => (by cases h), fun t1 C1 h => (by cases h)⟩
  | some x =>
    obtain ⟨W1, d1, C1, t1⟩ := x
    have i1 := yset_I (ythr_b q) W d C ty n W1 d1 C1 t1 hI e1
    obtain ⟨b1, b2, D1, b3⟩ := yset_T (ythr_b q) W d C ty n D W1 d1 C1 t1 hI hd hT ht e1
    dsimp only
    split
    · cases e2 : yset 1 W1 d1 C1 t1 with
      | none => exact ⟨fun c h => (by cases h), fun t1 C1 h => (by cases h)⟩
      | some x =>
        obtain ⟨W2, d2, C2, t2⟩ := x
        have i2 := yset_I (by decide) W1 d1 C1 t1 n W2 d2 C2 t2 i1.1 e2
        obtain ⟨c1, c2, D2, c3⟩ := yset_T (by decide) W1 d1 C1 t1 n D1 W2 d2 C2 t2 i1.1 b1 b3 b2 e2
        exact ⟨fun c h => ybr_K i2.1 c1 c2 i2.2 c3 h, fun t C3 h => fin _ _ _ _ _ _ _ c3 c2 h⟩
    · rename_i h6
      refine ⟨fun c h => yop_K i1.1 b1 b2 i1.2 h6 b3 h, fun t C3 h => ?_⟩
      unfold yop at h
      split at h
      · exact fin _ _ _ _ _ _ _ b3 b2 h
      · repeat' split at h
        all_goals cases h
/-- operands are in order -/
def yod (B : Int → Int → Prop) (od : Int → Option (Int × Int × Int)) : Prop := ∀ j c v t, od j = some (c, v, t) → (t = 1 ∨ t = 2) ∧ ((c = 3 ∧ (t = 2 → v = 0 ∨ v = 1)) ∨ (c = 2 ∧ B v t))
theorem ywant_K {od : Int → Option (Int × Int × Int)} (ho : yod B od) {q d n j : Int} {W : List yE} {C : yC} {D : Nat → List Int} {c : yG} (hI : yI W d C n) (hd : d ≤ 40) (hT : yTI B D (yT W) C W) (h : ywant (od j) q W d C = some (.inl c)) : yK B c (n + 1) := by
  have hk : ∀ m W' d' C' t', c = (m, W', d', C', t') → yI W' d' C' (n + 1) := fun m W' d' C' t' e => (ywantI ⟨(), hI⟩ (by rw [h, e])).elim fun _ z => z
  have hlen := yI_T hI hd
  have hc := hT.2.1
  unfold ywant at h
  split at h
  · rename_i c' v t ho'
    obtain ⟨o1, o2⟩ := ho j c' v t ho'
    injection h with h
    injection h with h
    have h := h.symm
    subst h
    refine ⟨hk _ _ _ _ _ rfl, hd, fun _ => o1, yup D (C.length + 1) (t :: yT W), ?_⟩
    rw [if_pos rfl]
    refine yTI_e hT (by rw [List.length_cons]; omega) ?_ (yP_e hT.2.2.2.2.1) (fun i hi => hi) (fun z hp => ?_)
    · have e0 : yup D (C.length + 1) (t :: yT W) C.length = yT W := by
        rw [yup_n (by omega)]
        exact hc
      have e1 : yup D (C.length + 1) (t :: yT W) (C.length + 1) = t :: yT W := yup_s
      unfold yok
      rw [e0, e1]
      rcases o2 with ⟨o2, o3⟩ | ⟨o2, o3⟩
      · refine Or.inl ⟨o2, ?_⟩
        rcases o1 with o1 | o1
        · rw [o1]
          exact Or.inl rfl
        · rw [o1]
          exact Or.inr ⟨rfl, o3 o1⟩
      · exact Or.inr (Or.inl ⟨o2, t, o1, o3, rfl⟩)
    · unfold yjp at hp
      omega
  · have fin : ∀ m k r a, c = (m, (k, r, a, -1) :: W, d + 1, C, 0) → ¬ m = 0 → d + 1 ≤ 40 → ¬ ((21 ≤ k ∧ k ≤ 29) ∨ ((15 ≤ k ∧ k ≤ 17) ∧ ¬ a = 0)) → yK B c (n + 1) := by
      intro m k r a e hm h40 hT2
      subst e
      refine ⟨hk _ _ _ _ _ rfl, h40, fun z => absurd z hm, D, ?_⟩
      rw [if_neg hm, yT_j hT2]
      exact yTI_w hT
    split at h
    · split at h
      · cases h
      · injection h with h
        injection h with h
        exact fin _ _ _ _ h.symm (by decide) (by omega) (by omega)
    · split at h
      · split at h
        · cases h
        · injection h with h
          injection h with h
          exact fin _ _ _ _ h.symm (by decide) (by omega) (by omega)
      · split at h
        · split at h
          · cases h
          · injection h with h
            injection h with h
            exact fin _ _ _ _ h.symm (by decide) (by omega) (by omega)
        · split at h
          · split at h
            · cases h
            · injection h with h
              injection h with h
              exact fin _ _ _ _ h.symm (by decide) (by omega) (by omega)
          · cases h
theorem yRf_T {k : Int → Int} {od : Int → Option (Int × Int × Int)} (ho : yod B od) : ∀ (f : Nat) (c : yG) (q j n : Int) (j' ty : Int) (C : yC), yK B c n → yRf k od f c q j = some (j', ty, C) → ∃ D, yTI B D [ty] C [] ∧ (ty = 1 ∨ ty = 2) := by
  intro f
  induction f with
  | zero => intro c q j n j' ty C _ h; cases h
  | succ f ih =>
    intro c q j n j' ty C hK h
    obtain ⟨m, W, d, C0, t0⟩ := c
    obtain ⟨k1, k2, k3, D, k4⟩ := hK
    unfold yRf at h
    have step : ∀ c', ystep (od j) q (m, W, d, C0, t0) = some (.inl c') → yK B c' (n + 1) := by
      intro c' hs
      unfold ystep at hs
      dsimp only at hs
      split at hs
      · rename_i hm
        rw [if_pos hm] at k4
        exact (yhave_K k1 k2 (k3 hm) k4).1 c' hs
      · rename_i hm
        rw [if_neg hm] at k4
        split at hs
        · exact ywant_K ho k1 k2 k4 hs
        · split at hs
          · injection hs with hs
            injection hs with hs
            have hs := hs.symm
            subst hs
            exact ⟨yI_le k1 (by omega), k2, fun z => absurd z (by decide), D, by rw [if_neg (by decide)]; exact k4⟩
          · cases hs
    have done : ∀ t1 C1, ystep (od j) q (m, W, d, C0, t0) = some (.inr (t1, C1)) → ∃ D', yTI B D' [t1] C1 [] ∧ (t1 = 1 ∨ t1 = 2) := by
      intro t1 C1 hs
      unfold ystep at hs
      dsimp only at hs
      split at hs
      · rename_i hm
        rw [if_pos hm] at k4
        exact (yhave_K k1 k2 (k3 hm) k4).2 t1 C1 hs
      · split at hs
        · unfold ywant at hs
          repeat' split at hs
          all_goals cases hs
        · split at hs
          · injection hs with hs
            cases hs
          · cases hs
    split at h
    · cases h
    · rename_i t1 C1 hs
      injection h with h
      injection h with h1 h
      injection h with h2 h3
      subst h2 h3
      exact done _ _ hs
    · rename_i c' hs
      split at h
      · cases h
      · exact ih _ _ _ _ _ _ _ (step _ hs) h
theorem yK_0 : yK B (1, [], 0, [], 0) 0 := by
  refine ⟨yI_0 (Int.le_refl 0), by decide, fun z => absurd z (by decide), fun _ => [], ?_⟩
  rw [if_neg (by decide)]
  exact ⟨rfl, rfl, fun i o v h => (by cases h), fun i _ => (by show ([] : List Int).length ≤ 170; decide), trivial, fun i o h => (by cases h)⟩
/-- an expression's code -/
theorem yex_T {t : Int → Int} {n vk x j j' : Int} {L : yN} {C : yC} (ho : yod B (odl t n L vk)) (h : yex t n L vk x j = some (j', C)) : ∃ D, yTI B D [x] C [] ∧ (x = 1 ∨ x = 2) := by
  unfold yex at h
  split at h
  · rename_i a b c e
    split at h
    · rename_i hx
      injection h with h
      injection h with h1 h2
      subst h2 hx
      exact yRf_T ho _ _ _ _ 0 _ _ _ yK_0 e
    · cases h
  · cases h
end YB
