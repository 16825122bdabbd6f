/-! what a text says: the whole of it -/
/-- (what is read, names, MODULES, first variable of this MODULE, variables, COMMANDS, TOKEN) -/
abbrev dM : Type := List (Int × Int × Int) × List dC × List Int
/-- what a text says: variables (low, high, first), COMMANDS, actions; how many MODULES; the target -/
abbrev dT : Type := Int × dM × Int × yC
abbrev pkC : Type := Int × yN × dM × Int × Int × Int × Int × Int
def pgo (j a : Int) (x : pkC) : Option (pkC ⊕ dT) := if j < a ∧ j < 1500 then some (.inl x) else none
noncomputable def pkS (t : Int → Int) (n : Int) : pkC → Option (pkC ⊕ dT)
  | (m, L, D, M, O, V, N, j) =>
    if m = 0 then (if kd t n j = 6 then (match pConst t n L j with
        | none => none
        | some (a, L') => pgo j a (0, L', D, M, O, V, N, a)) else some (.inl (1, L, D, M, O, V, N, j)))
    else if m = 1 then (match pOpen t n L M j with
        | none => none
        | some (a, L') => pgo j a (2, L', D, M + 1, V, V, N, a))
    else if m = 2 then (if kd t n j = 2 then (match pVar t n L V j with
        | none => none
        | some (a, L', lo, hi, v) => pgo j a (2, L', (D.1 ++ [(lo, hi, v)], D.2), M, O, V + 1, N, a)) else some (.inl (3, L, D, M, O, V, N, j)))
    else if kd t n j = 41 then (match pCmd t n L O N (M - 1) D.2.2 j with
        | none => none
        | some (a, c, A) => pgo j a (3, L, (D.1, D.2.1 ++ [c], A), M, O, V, N + 1, a))
    else (match tke (kd t n) 10 j with
        | none => none
        | some a => if kd t n a = 9 then pgo j a (1, L, D, M, 0, V, N, a) else (match pTarget t n L a with
          | none => none
          | some (b, C) => some (.inr (b, D, M, C))))
noncomputable def pkF (t : Int → Int) (n : Int) : Nat → pkC → Option dT
  | 0, _ => none
  | f + 1, c => match pkS t n c with
    | none => none
    | some (.inr b) => some b
    | some (.inl c') => pkF t n f c'
theorem pkF_e {t : Int → Int} {n : Int} {f : Nat} {c : pkC} : pkF t n (f + 1) c = match pkS t n c with
    | none => none
    | some (.inr b) => some b
    | some (.inl c') => pkF t n f c' := rfl
def pkm (c : pkC) : Nat := 5 * (1500 - c.2.2.2.2.2.2.2).toNat + (3 - c.1).toNat
def pk3 (c : pkC) : Prop := 0 ≤ c.1 ∧ c.1 ≤ 3
theorem pgo_i {j a : Int} {x y : pkC} (h : pgo j a x = some (.inl y)) : j < a ∧ j < 1500 ∧ x = y := by
  unfold pgo at h
  split at h
  · rename_i q
    injection h with h
    injection h with h
    exact ⟨q.1, q.2, h⟩
  · cases h
theorem pkS_m {t : Int → Int} {n : Int} {c c' : pkC} (h : pkS t n c = some (.inl c')) (h3 : pk3 c) : pkm c' < pkm c ∧ pk3 c' := by
  obtain ⟨m, L, D, M, O, V, N, j⟩ := c
  unfold pk3 at h3
  dsimp only at h3
  unfold pkS at h
  dsimp only at h
  split at h
  · split at h
    · split at h
      · cases h
      · obtain ⟨q1, q2, q3⟩ := pgo_i h
        subst q3
        refine ⟨?_, ?_⟩
        · unfold pkm; dsimp only; omega
        · unfold pk3; dsimp only; omega
    · injection h with h
      injection h with h
      subst h
      refine ⟨?_, ?_⟩
      · unfold pkm; dsimp only; omega
      · unfold pk3; dsimp only; omega
  · split at h
    · split at h
      · cases h
      · obtain ⟨q1, q2, q3⟩ := pgo_i h
        subst q3
        refine ⟨?_, ?_⟩
        · unfold pkm; dsimp only; omega
        · unfold pk3; dsimp only; omega
    · split at h
      · split at h
        · split at h
          · cases h
          · obtain ⟨q1, q2, q3⟩ := pgo_i h
            subst q3
            refine ⟨?_, ?_⟩
            · unfold pkm; dsimp only; omega
            · unfold pk3; dsimp only; omega
        · injection h with h
          injection h with h
          subst h
          refine ⟨?_, ?_⟩
          · unfold pkm; dsimp only; omega
          · unfold pk3; dsimp only; omega
      · split at h
        · split at h
          · cases h
          · obtain ⟨q1, q2, q3⟩ := pgo_i h
            subst q3
            refine ⟨?_, ?_⟩
            · unfold pkm; dsimp only; omega
            · unfold pk3; dsimp only; omega
        · split at h
          · cases h
          · split at h
            · obtain ⟨q1, q2, q3⟩ := pgo_i h
              subst q3
              refine ⟨?_, ?_⟩
              · unfold pkm; dsimp only; omega
              · unfold pk3; dsimp only; omega
            · split at h
              · cases h
              · injection h with h
                cases h
theorem pkF_m {t : Int → Int} {n : Int} : ∀ (f : Nat) (c : pkC), pk3 c → pkm c < f → pkF t n (f + 1) c = pkF t n f c := by
  intro f
  induction f with
  | zero => intro c _ h; exact absurd h (Nat.not_lt_zero _)
  | succ f ih =>
    intro c h3 h
    rw [pkF_e (f := f + 1), pkF_e (f := f)]
    cases hs : pkS t n c with
    | none => rfl
    | some x =>
      cases x with
      | inr b => rfl
      | inl c' =>
        have q := pkS_m hs h3
        exact ih c' q.2 (by omega)
noncomputable def pk (t : Int → Int) (n : Int) (c : pkC) : Option dT := pkF t n 8000 c
theorem pk_l {t : Int → Int} {n : Int} {c c' : pkC} (hs : pkS t n c = some (.inl c')) (h3 : pk3 c) (hj : 0 ≤ c'.2.2.2.2.2.2.2) : pk t n c = pk t n c' := by
  have q := pkS_m hs h3
  unfold pk
  rw [pkF_e (f := 7999), hs]
  refine (pkF_m 7999 c' q.2 ?_).symm
  have q3 := q.2
  unfold pk3 at q3
  unfold pkm
  omega
theorem pk_r {t : Int → Int} {n : Int} {b : dT} {c : pkC} (hs : pkS t n c = some (.inr b)) : pk t n c = some b := by
  unfold pk
  rw [pkF_e (f := 7999), hs]
theorem pk_n {t : Int → Int} {n : Int} {c : pkC} (hs : pkS t n c = none) : pk t n c = none := by
  unfold pk
  rw [pkF_e (f := 7999), hs]
theorem pgo_s {j a : Int} {x : pkC} (h : 0 ≤ j ∧ j < a ∧ j < 1500) : pgo j a x = some (.inl x) := if_pos h.2
/-- behind the target -/
def pTg (D : dM) (M : Int) (Y : Option (Int × yC)) : Option dT := match Y with
  | none => none
  | some (b, C) => some (b, D, M, C)
section YK
variable {t : Int → Int} {n j a b M M' O O' V V' N N' lo hi v : Int} {L L' : yN} {D D' : dM} {x : dC} {A : List Int} {C : yC}
theorem pk0_c (hk : kd t n j = 6) (h : pConst t n L j = some (a, L')) (hj : 0 ≤ j ∧ j < a ∧ j < 1500) : pk t n (0, L, D, M, O, V, N, j) = pk t n (0, L', D, M, O, V, N, a) := by
  refine pk_l ?_ ⟨by show (0 : Int) ≤ 0; decide, by show (0 : Int) ≤ 3; decide⟩ (show 0 ≤ a by omega)
  unfold pkS
  simp only [if_pos, hk, h, pgo_s hj]
theorem pk0_n (hk : kd t n j = 6) (h : pConst t n L j = none) : pk t n (0, L, D, M, O, V, N, j) = none := by
  refine pk_n ?_
  unfold pkS
  simp only [if_pos, hk, h]
theorem pk0_e (hk : ¬ kd t n j = 6) (hj : 0 ≤ j) : pk t n (0, L, D, M, O, V, N, j) = pk t n (1, L, D, M, O, V, N, j) := by
  refine pk_l ?_ ⟨by show (0 : Int) ≤ 0; decide, by show (0 : Int) ≤ 3; decide⟩ hj
  unfold pkS
  simp only [if_pos, if_neg hk]
theorem n10 : ¬ (1 : Int) = 0 := by decide
theorem n20 : ¬ (2 : Int) = 0 := by decide
theorem n21 : ¬ (2 : Int) = 1 := by decide
theorem n30 : ¬ (3 : Int) = 0 := by decide
theorem n31 : ¬ (3 : Int) = 1 := by decide
theorem n32 : ¬ (3 : Int) = 2 := by decide
theorem pk1_s (h : pOpen t n L M j = some (a, L')) (hj : 0 ≤ j ∧ j < a ∧ j < 1500) (hM : M' = M + 1) (hO : O' = V) : pk t n (1, L, D, M, O, V, N, j) = pk t n (2, L', D, M', O', V, N, a) := by
  subst hM hO
  refine pk_l ?_ ⟨by show (0 : Int) ≤ 1; decide, by show (1 : Int) ≤ 3; decide⟩ (show 0 ≤ a by omega)
  unfold pkS
  simp only [if_pos, if_neg n10, h, pgo_s hj]
theorem pk1_n (h : pOpen t n L M j = none) : pk t n (1, L, D, M, O, V, N, j) = none := by
  refine pk_n ?_
  unfold pkS
  simp only [if_pos, if_neg n10, h]
theorem pk2_c (hk : kd t n j = 2) (h : pVar t n L V j = some (a, L', lo, hi, v)) (hj : 0 ≤ j ∧ j < a ∧ j < 1500) (hV : V' = V + 1) (hD : D' = (D.1 ++ [(lo, hi, v)], D.2)) : pk t n (2, L, D, M, O, V, N, j) = pk t n (2, L', D', M, O, V', N, a) := by
  subst hV hD
  refine pk_l ?_ ⟨by show (0 : Int) ≤ 2; decide, by show (2 : Int) ≤ 3; decide⟩ (show 0 ≤ a by omega)
  unfold pkS
  simp only [if_pos, if_neg n20, if_neg n21, hk, h, pgo_s hj]
theorem pk2_n (hk : kd t n j = 2) (h : pVar t n L V j = none) : pk t n (2, L, D, M, O, V, N, j) = none := by
  refine pk_n ?_
  unfold pkS
  simp only [if_pos, if_neg n20, if_neg n21, hk, h]
theorem pk2_e (hk : ¬ kd t n j = 2) (hj : 0 ≤ j) : pk t n (2, L, D, M, O, V, N, j) = pk t n (3, L, D, M, O, V, N, j) := by
  refine pk_l ?_ ⟨by show (0 : Int) ≤ 2; decide, by show (2 : Int) ≤ 3; decide⟩ hj
  unfold pkS
  simp only [if_pos, if_neg n20, if_neg n21, if_neg hk]
theorem pk3_c (hk : kd t n j = 41) (h : pCmd t n L O N M' D.2.2 j = some (a, x, A)) (hj : 0 ≤ j ∧ j < a ∧ j < 1500) (hM : M' = M - 1) (hN : N' = N + 1) (hD : D' = (D.1, D.2.1 ++ [x], A)) : pk t n (3, L, D, M, O, V, N, j) = pk t n (3, L, D', M, O, V, N', a) := by
  subst hM hN hD
  refine pk_l ?_ ⟨by show (0 : Int) ≤ 3; decide, by show (3 : Int) ≤ 3; decide⟩ (show 0 ≤ a by omega)
  unfold pkS
  simp only [if_neg n30, if_neg n31, if_neg n32, if_pos hk, h, pgo_s hj]
theorem pk3_n (hk : kd t n j = 41) (h : pCmd t n L O N M' D.2.2 j = none) (hM : M' = M - 1) : pk t n (3, L, D, M, O, V, N, j) = none := by
  subst hM
  refine pk_n ?_
  unfold pkS
  simp only [if_neg n30, if_neg n31, if_neg n32, if_pos hk, h]
theorem pk3_x (hk : ¬ kd t n j = 41) (h : tke (kd t n) 10 j = none) : pk t n (3, L, D, M, O, V, N, j) = none := by
  refine pk_n ?_
  unfold pkS
  simp only [if_neg n30, if_neg n31, if_neg n32, if_neg hk, h]
theorem pk3_m (hk : ¬ kd t n j = 41) (h : tke (kd t n) 10 j = some a) (h9 : kd t n a = 9) (hj : 0 ≤ j ∧ j < a ∧ j < 1500) : pk t n (3, L, D, M, O, V, N, j) = pk t n (1, L, D, M, 0, V, N, a) := by
  refine pk_l ?_ ⟨by show (0 : Int) ≤ 3; decide, by show (3 : Int) ≤ 3; decide⟩ (show 0 ≤ a by omega)
  unfold pkS
  simp only [if_neg n30, if_neg n31, if_neg n32, if_neg hk, h, if_pos h9, pgo_s hj]
theorem pk3_t (hk : ¬ kd t n j = 41) (h : tke (kd t n) 10 j = some a) (h9 : ¬ kd t n a = 9) : pk t n (3, L, D, M, O, V, N, j) = pTg D M (pTarget t n L a) := by
  have e : pkS t n (3, L, D, M, O, V, N, j) = match pTarget t n L a with
      | none => none
      | some (b, C) => some (.inr (b, D, M, C)) := by
    unfold pkS
    simp only [if_neg n30, if_neg n31, if_neg n32, if_neg hk, h, if_neg h9]
  cases hp : pTarget t n L a with
  | none => rw [hp] at e; exact pk_n e
  | some b => obtain ⟨b, C⟩ := b; rw [hp] at e; exact pk_r e
end YK
/-- a text -/
noncomputable def pText (t : Int → Int) (n : Int) : Option dT := @ite _ (tx_ok t n) (Classical.propDecidable _) (if kd t n 0 = 1 then none else match tke (kd t n) 5 0 with
    | none => none
    | some a => pk t n (0, [], ([], [], []), 0, 0, 0, 0, a)) none
section YT
variable {t : Int → Int} {n e a b r made : Int} {tk pl le nm : Int → Int}
theorem pT_f (h : ¬ tx_ok t n) : pText t n = none := if_neg h
theorem pT_b (h : tx_ok t n) (hk : kd t e 0 = 1) (he : e = n) : pText t n = none := by
  subst he
  unfold pText
  rw [if_pos h, if_pos hk]
theorem pT_n (h : tx_ok t n) (hk : ¬ kd t e b = 1) (hm : tke (kd t e) 5 b = none) (hb : b = 0) (he : e = n) : pText t n = none := by
  subst hb he
  unfold pText
  rw [if_pos h, if_neg hk, hm]
theorem pT_s (h : tx_ok t n) (hk : ¬ kd t e b = 1) (hm : tke (kd t e) 5 b = some a) (hb : b = 0) (he : e = n) : pText t n = pk t e (0, [], ([], [], []), 0, 0, 0, 0, a) := by
  subst hb he
  unfold pText
  rw [if_pos h, if_neg hk, hm]
theorem tq_0 (h : tqq_ok t n made 0 tk) (hb : b = 0) : tqq_ok t n made b tk := by subst hb; exact h
theorem kd_0i (h : r = kd t n b) (hb : b = 0) (hr : r = 1) : kd t n 0 = 1 := by subst hb; omega
theorem tks_q0 (h : tks t n made tk pl le nm) (hm : 1 ≤ made) : tqq_ok t n made 0 tk := ⟨(), Int.le_refl 0, by omega, (tks_at h (Int.le_refl 0) (by omega)).1⟩
theorem rdr_0e (h1 : tks t e made tk pl le nm) (h2 : kd t e (made - 1) = 0 ∨ kd t e (made - 1) = 1) (h0 : a = 0) (hm : 1 ≤ made) (h5 : made ≤ 1501) (h6 : 0 ≤ n ∧ n ≤ 8192) (he : e = n) (hn : ¬ kd t e a = 1) : rdr_ok t e made a tk pl le nm := by subst he; exact rdr_0 h1 h2 h0 hm h5 h6 hn
theorem rdr_e (h : rdr_ok t n made a tk pl le nm) (hk : kd t n a = 0) : made = a + 1 := by
  obtain ⟨_, h1, h2, h3, h4, h5, h6, h7, h8⟩ := h
  have q := (tks_at h1 h3 h4).2.2.2.2
  rcases Int.lt_or_le a (made - 1) with g | g
  · exact absurd hk (q g).1
  · omega
theorem pT_e {A B : Option dT} {D : dM} {M : Int} {C : yC} (h : A = B) (h2 : B = some (a, D, M, C)) (h3 : made = a + 1) : A = some (made - 1, D, M, C) := by
  rw [h, h2, h3, show a + 1 - 1 = a by omega]
theorem nmL_0 {nt role holds ty : Int → Int} : nmL 0 nt role holds ty = [] := rfl
end YT
