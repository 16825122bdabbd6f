/-! what a text says: an UPDATE -/
/-- a variable and what it becomes -/
abbrev dU : Type := List (Int × yC)
def svf (sv : Int → Int) (f : Int) : Nat → List Int
  | 0 => []
  | n + 1 => svf sv f n ++ [sv (f + n)]
def svL (sv : Int → Int) (f s : Int) : List Int := svf sv f (s - f).toNat
theorem svf_m {sv : Int → Int} {f v : Int} : ∀ n : Nat, v ∈ svf sv f n ↔ ∃ i : Nat, i < n ∧ sv (f + i) = v := by
  intro n
  induction n with
  | zero => exact ⟨fun h => (by cases h), fun ⟨i, h, _⟩ => absurd h (Nat.not_lt_zero i)⟩
  | succ n ih =>
    unfold svf
    rw [List.mem_append, ih]
    constructor
    · rintro (⟨i, h1, h2⟩ | h)
      · exact ⟨i, by omega, h2⟩
      · exact ⟨n, by omega, (List.mem_singleton.mp h).symm⟩
    · rintro ⟨i, h1, h2⟩
      by_cases e : i = n
      · subst e
        exact Or.inr (List.mem_singleton.mpr h2.symm)
      · exact Or.inl ⟨i, by omega, h2⟩
theorem svL_m {sv : Int → Int} {f s v : Int} : v ∈ svL sv f s ↔ ∃ i : Int, f ≤ i ∧ i < s ∧ sv i = v := by
  unfold svL
  rw [svf_m]
  constructor
  · rintro ⟨i, h1, h2⟩
    exact ⟨f + i, by omega, by omega, h2⟩
  · rintro ⟨i, h1, h2, h3⟩
    exact ⟨(i - f).toNat, by omega, by rw [show f + (((i - f).toNat : Nat) : Int) = i by omega]; exact h3⟩
theorem svL_0 {sv : Int → Int} {s : Int} : svL sv s s = [] := by
  unfold svL
  rw [show (s - s).toNat = 0 by omega]
  rfl
theorem svL_s {sv : Int → Int} {f s s' v : Int} (h : f ≤ s) (hs : s' = s + 1) : svL (hw_up sv s v) f s' = svL sv f s ++ [v] := by
  subst hs
  unfold svL
  rw [show (s + 1 - f).toNat = (s - f).toNat + 1 by omega]
  show svf (hw_up sv s v) f (s - f).toNat ++ [hw_up sv s v (f + ((s - f).toNat : Int))] = _
  rw [show f + (((s - f).toNat : Nat) : Int) = s by omega, hw_up_s]
  have key : ∀ n : Nat, (n : Int) ≤ s - f → svf (hw_up sv s v) f n = svf sv f n := by
    intro n
    induction n with
    | zero => intro _; rfl
    | succ n ih =>
      intro hn
      unfold svf
      rw [ih (by omega), hw_up_n (by omega)]
  rw [key _ (by omega)]
/-- none of those from f to i is v -/
def svn (sv : Int → Int) (f i v : Int) : Prop := ∃ _ : Unit, ∀ k, f ≤ k → k < i → ¬ sv k = v
theorem svn_0 {sv : Int → Int} {f v : Int} : svn sv f f v := ⟨(), fun k h1 h2 => absurd h1 (by omega)⟩
theorem svn_s {sv : Int → Int} {f i i' v : Int} (h : svn sv f i v) (hv : ¬ sv i = v) (hi : i' = i + 1) : svn sv f i' v := by
  subst hi
  refine ⟨(), fun k h1 h2 => ?_⟩
  by_cases e : k = i
  · rw [e]; exact hv
  · exact h.elim fun _ h => h k h1 (by omega)
theorem svn_e {sv : Int → Int} {f i s v : Int} (h : svn sv f i v) (hs : s ≤ i) : ¬ v ∈ svL sv f s := by
  rw [svL_m]
  rintro ⟨k, h1, h2, h3⟩
  exact h.elim fun _ h => h k h1 (by omega) h3
theorem svn_i {sv : Int → Int} {f i s v : Int} (h1 : f ≤ i) (h2 : i < s) (h : sv i = v) : v ∈ svL sv f s := svL_m.mpr ⟨i, h1, h2, h⟩
/-- the variable that is changed: one of this MODULE, not yet changed; its TYPE -/
noncomputable def pChg (t : Int → Int) (n : Int) (L : yN) (own : Int) (S : List Int) (j : Int) : Option (Int × Int) := if kd t n j = 2 then (match fnd t n j L with
    | none => none
    | some (r, v, x) => if r = 1 ∧ own ≤ v ∧ ¬ v ∈ S then some (v, x) else none) else none
theorem pChg_k {t : Int → Int} {n own j : Int} {L : yN} {S : List Int} (h : ¬ kd t n j = 2) : pChg t n L own S j = none := if_neg h
theorem pChg_f {t : Int → Int} {n own j : Int} {L : yN} {S : List Int} (hf : fnd t n j L = none) : pChg t n L own S j = none := by
  unfold pChg
  split
  · rw [hf]
  · rfl
theorem pChg_n {t : Int → Int} {n own j r v x : Int} {L : yN} {S : List Int} (hf : fnd t n j L = some (r, v, x)) (h : ¬ r = 1 ∨ v < own ∨ v ∈ S) : pChg t n L own S j = none := by
  unfold pChg
  split
  · rw [hf]
    refine if_neg ?_
    rintro ⟨h1, h2, h3⟩
    rcases h with h | h | h
    · exact h h1
    · omega
    · exact h3 h
  · rfl
theorem pChg_s {t : Int → Int} {n own j r v x y : Int} {L : yN} {S : List Int} (hf : fnd t n j L = some (r, v, if r = 1 then x else y)) (hk : kd t n j = 2) (hr : r = 1) (ho : own ≤ v) (hS : ¬ v ∈ S) : pChg t n L own S j = some (v, x) := by
  unfold pChg
  rw [if_pos hk, hf]
  show (if r = 1 ∧ own ≤ v ∧ ¬ v ∈ S then some (v, if r = 1 then x else y) else none) = _
  rw [if_pos ⟨hr, ho, hS⟩, if_pos hr]
noncomputable def pAsg (t : Int → Int) (n : Int) (L : yN) (own : Int) (U : dU) (j : Int) : Option (Int × Int × yC) := (match tke (kd t n) 39 j with
    | none => none
    | some a => (match pChg t n L own (U.map Prod.fst) a with
    | none => none
    | some (v, x) => (match ad (kd t n) a with
    | none => none
    | some b => (match tke (kd t n) 38 b with
    | none => none
    | some c => (match tke (kd t n) 24 c with
    | none => none
    | some d => (match yex t n L 1 x d with
    | none => none
    | some (e, C) => (match tke (kd t n) 40 e with
    | none => none
    | some f => some (f, v, C))))))))
theorem pAsg_n0 {t : Int → Int} {n : Int} {L : yN} {own : Int} {U : dU} {j : Int}  (h0 : tke (kd t n) 39 j = none) : pAsg t n L own U j = none := by
  unfold pAsg
  simp only [h0]
theorem pAsg_n1 {t : Int → Int} {n : Int} {L : yN} {own : Int} {U : dU} {j : Int} {a : Int} (h0 : tke (kd t n) 39 j = some a) (h1 : pChg t n L own (U.map Prod.fst) a = none) : pAsg t n L own U j = none := by
  unfold pAsg
  simp only [h0, h1]
theorem pAsg_n2 {t : Int → Int} {n : Int} {L : yN} {own : Int} {U : dU} {j : Int} {a : Int} {v x : Int} (h0 : tke (kd t n) 39 j = some a) (h1 : pChg t n L own (U.map Prod.fst) a = some (v, x)) (h2 : ad (kd t n) a = none) : pAsg t n L own U j = none := by
  unfold pAsg
  simp only [h0, h1, h2]
theorem pAsg_n3 {t : Int → Int} {n : Int} {L : yN} {own : Int} {U : dU} {j : Int} {a : Int} {v x : Int} {b : Int} (h0 : tke (kd t n) 39 j = some a) (h1 : pChg t n L own (U.map Prod.fst) a = some (v, x)) (h2 : ad (kd t n) a = some b) (h3 : tke (kd t n) 38 b = none) : pAsg t n L own U j = none := by
  unfold pAsg
  simp only [h0, h1, h2, h3]
theorem pAsg_n4 {t : Int → Int} {n : Int} {L : yN} {own : Int} {U : dU} {j : Int} {a : Int} {v x : Int} {b : Int} {c : Int} (h0 : tke (kd t n) 39 j = some a) (h1 : pChg t n L own (U.map Prod.fst) a = some (v, x)) (h2 : ad (kd t n) a = some b) (h3 : tke (kd t n) 38 b = some c) (h4 : tke (kd t n) 24 c = none) : pAsg t n L own U j = none := by
  unfold pAsg
  simp only [h0, h1, h2, h3, h4]
theorem pAsg_n5 {t : Int → Int} {n : Int} {L : yN} {own : Int} {U : dU} {j : Int} {a : Int} {v x : Int} {b : Int} {c : Int} {d : Int} (h0 : tke (kd t n) 39 j = some a) (h1 : pChg t n L own (U.map Prod.fst) a = some (v, x)) (h2 : ad (kd t n) a = some b) (h3 : tke (kd t n) 38 b = some c) (h4 : tke (kd t n) 24 c = some d) (h5 : yex t n L 1 x d = none) : pAsg t n L own U j = none := by
  unfold pAsg
  simp only [h0, h1, h2, h3, h4, h5]
theorem pAsg_n6 {t : Int → Int} {n : Int} {L : yN} {own : Int} {U : dU} {j : Int} {a : Int} {v x : Int} {b : Int} {c : Int} {d : Int} {e : Int} {C : yC} (h0 : tke (kd t n) 39 j = some a) (h1 : pChg t n L own (U.map Prod.fst) a = some (v, x)) (h2 : ad (kd t n) a = some b) (h3 : tke (kd t n) 38 b = some c) (h4 : tke (kd t n) 24 c = some d) (h5 : yex t n L 1 x d = some (e, C)) (h6 : tke (kd t n) 40 e = none) : pAsg t n L own U j = none := by
  unfold pAsg
  simp only [h0, h1, h2, h3, h4, h5, h6]
theorem pAsg_s {t : Int → Int} {n : Int} {L : yN} {own : Int} {U : dU} {j : Int} {a : Int} {v x : Int} {b : Int} {c : Int} {d : Int} {e : Int} {C : yC} {f : Int} (h0 : tke (kd t n) 39 j = some a) (h1 : pChg t n L own (U.map Prod.fst) a = some (v, x)) (h2 : ad (kd t n) a = some b) (h3 : tke (kd t n) 38 b = some c) (h4 : tke (kd t n) 24 c = some d) (h5 : yex t n L 1 x d = some (e, C)) (h6 : tke (kd t n) 40 e = some f) : pAsg t n L own U j = some (f, v, C) := by
  unfold pAsg
  simp only [h0, h1, h2, h3, h4, h5, h6]
noncomputable def pAsF (t : Int → Int) (n : Int) (L : yN) (own : Int) : Nat → dU → Int → Option (Int × dU)
  | 0, _, _ => none
  | k + 1, U, j => match pAsg t n L own U j with
    | none => none
    | some (f, v, C) => if kd t n f = 32 then (match ad (kd t n) f with
      | none => none
      | some g => pAsF t n L own k (U ++ [(v, C)]) g) else some (f, U ++ [(v, C)])
noncomputable def pAs (t : Int → Int) (n : Int) (L : yN) (own : Int) (U : dU) (j : Int) : Option (Int × dU) := pAsF t n L own (1501 - U.length) U j
noncomputable def pUpdate (t : Int → Int) (n : Int) (L : yN) (own : Int) (j : Int) : Option (Int × dU) := if kd t n j = 13 then (match ad (kd t n) j with
    | none => none
    | some a => some (a, [])) else pAs t n L own [] j
theorem pAs_u {t : Int → Int} {n own j : Int} {L : yN} {U : dU} (h : U.length ≤ 1500) : pAs t n L own U j = match pAsg t n L own U j with
    | none => none
    | some (f, v, C) => if kd t n f = 32 then (match ad (kd t n) f with
      | none => none
      | some g => pAs t n L own (U ++ [(v, C)]) g) else some (f, U ++ [(v, C)]) := by
  have e : ∀ x : Int × yC, 1501 - (U ++ [x]).length = 1501 - U.length - 1 := by
    intro v
    rw [List.length_append]
    show 1501 - (U.length + 1) = _
    omega
  unfold pAs
  rw [show 1501 - U.length = (1501 - U.length - 1) + 1 by omega]
  simp only [e]
  rfl
