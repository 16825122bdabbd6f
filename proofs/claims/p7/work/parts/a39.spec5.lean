/-! what a text says: a COMMAND -/
/-- a COMMAND: its MODULE, its action (-1: none), its guard, its UPDATES -/
abbrev dC : Type := Int × Int × yC × List dU
/-- the number of an action among those that were named -/
noncomputable def aix (t : Int → Int) (n j : Int) : List Int → Int
  | [] => 0
  | a :: A => @ite _ (smt t n a j) (Classical.propDecidable _) 0 (1 + aix t n j A)
def aadd (A : List Int) (i j : Int) : List Int := if i < A.length then A else A ++ [j]
theorem aix_b {t : Int → Int} {n j : Int} : ∀ A : List Int, 0 ≤ aix t n j A ∧ aix t n j A ≤ A.length := by
  intro A
  induction A with
  | nil => exact ⟨Int.le_refl 0, Int.le_refl 0⟩
  | cons a A ih =>
    unfold aix
    rw [List.length_cons]
    split <;> omega
/-- an action, if one is named -/
noncomputable def pAct (t : Int → Int) (n : Int) (A : List Int) (j : Int) : Option (Int × Int × List Int) := if kd t n j = 2 then (match ad (kd t n) j with
    | none => none
    | some b => some (b, aix t n j A, aadd A (aix t n j A) j)) else some (j, -1, A)
theorem pAct_a {t : Int → Int} {n j b : Int} {A : List Int} (h : ad (kd t n) j = some b) (hk : kd t n j = 2) : pAct t n A j = some (b, aix t n j A, aadd A (aix t n j A) j) := by
  unfold pAct
  rw [if_pos hk, h]
theorem pAct_n {t : Int → Int} {n j : Int} {A : List Int} (h : ad (kd t n) j = none) (hk : kd t n j = 2) : pAct t n A j = none := by
  unfold pAct
  rw [if_pos hk, h]
theorem pAct_0 {t : Int → Int} {n j : Int} {A : List Int} (hk : ¬ kd t n j = 2) : pAct t n A j = some (j, -1, A) := if_neg hk
noncomputable def pHead (t : Int → Int) (n : Int) (L : yN) (N : Int) (A : List Int) (j : Int) : Option (Int × Int × yC × List Int) := (match cnd (N < 40) with
    | none => none
    | some _ => (match tke (kd t n) 41 j with
    | none => none
    | some a => (match pAct t n A a with
    | none => none
    | some (b, i, A') => (match tke (kd t n) 42 b with
    | none => none
    | some c => (match yex t n L 1 2 c with
    | none => none
    | some (d, C) => (match tke (kd t n) 18 d with
    | none => none
    | some e => some (e, i, C, A')))))))
theorem pHead_n0 {t : Int → Int} {n : Int} {L : yN} {N : Int} {A : List Int} {j : Int}  (h0 : cnd (N < 40) = none) : pHead t n L N A j = none := by
  unfold pHead
  simp only [h0]
theorem pHead_n1 {t : Int → Int} {n : Int} {L : yN} {N : Int} {A : List Int} {j : Int} (h0 : cnd (N < 40) = some ()) (h1 : tke (kd t n) 41 j = none) : pHead t n L N A j = none := by
  unfold pHead
  simp only [h0, h1]
theorem pHead_n2 {t : Int → Int} {n : Int} {L : yN} {N : Int} {A : List Int} {j : Int} {a : Int} (h0 : cnd (N < 40) = some ()) (h1 : tke (kd t n) 41 j = some a) (h2 : pAct t n A a = none) : pHead t n L N A j = none := by
  unfold pHead
  simp only [h0, h1, h2]
theorem pHead_n3 {t : Int → Int} {n : Int} {L : yN} {N : Int} {A : List Int} {j : Int} {a : Int} {b i : Int} {A' : List Int} (h0 : cnd (N < 40) = some ()) (h1 : tke (kd t n) 41 j = some a) (h2 : pAct t n A a = some (b, i, A')) (h3 : tke (kd t n) 42 b = none) : pHead t n L N A j = none := by
  unfold pHead
  simp only [h0, h1, h2, h3]
theorem pHead_n4 {t : Int → Int} {n : Int} {L : yN} {N : Int} {A : List Int} {j : Int} {a : Int} {b i : Int} {A' : List Int} {c : Int} (h0 : cnd (N < 40) = some ()) (h1 : tke (kd t n) 41 j = some a) (h2 : pAct t n A a = some (b, i, A')) (h3 : tke (kd t n) 42 b = some c) (h4 : yex t n L 1 2 c = none) : pHead t n L N A j = none := by
  unfold pHead
  simp only [h0, h1, h2, h3, h4]
theorem pHead_n5 {t : Int → Int} {n : Int} {L : yN} {N : Int} {A : List Int} {j : Int} {a : Int} {b i : Int} {A' : List Int} {c : Int} {d : Int} {C : yC} (h0 : cnd (N < 40) = some ()) (h1 : tke (kd t n) 41 j = some a) (h2 : pAct t n A a = some (b, i, A')) (h3 : tke (kd t n) 42 b = some c) (h4 : yex t n L 1 2 c = some (d, C)) (h5 : tke (kd t n) 18 d = none) : pHead t n L N A j = none := by
  unfold pHead
  simp only [h0, h1, h2, h3, h4, h5]
theorem pHead_s {t : Int → Int} {n : Int} {L : yN} {N : Int} {A : List Int} {j : Int} {a : Int} {b i : Int} {A' : List Int} {c : Int} {d : Int} {C : yC} {e : Int} (h0 : cnd (N < 40) = some ()) (h1 : tke (kd t n) 41 j = some a) (h2 : pAct t n A a = some (b, i, A')) (h3 : tke (kd t n) 42 b = some c) (h4 : yex t n L 1 2 c = some (d, C)) (h5 : tke (kd t n) 18 d = some e) : pHead t n L N A j = some (e, i, C, A') := by
  unfold pHead
  simp only [h0, h1, h2, h3, h4, h5]
noncomputable def pStep (t : Int → Int) (n : Int) (L : yN) (own : Int) (Q : List (Int × Int)) (j : Int) : Option (Int × Int × Int × dU) := (match pShare t n j with
    | none => none
    | some (a, x, y) => (match tke (kd t n) 35 a with
    | none => none
    | some b => (match cnd (Q.length < 6) with
    | none => none
    | some _ => (match pUpdate t n L own b with
    | none => none
    | some (c, U) => some (c, x, y, U)))))
theorem pStep_n0 {t : Int → Int} {n : Int} {L : yN} {own : Int} {Q : List (Int × Int)} {j : Int}  (h0 : pShare t n j = none) : pStep t n L own Q j = none := by
  unfold pStep
  simp only [h0]
theorem pStep_n1 {t : Int → Int} {n : Int} {L : yN} {own : Int} {Q : List (Int × Int)} {j : Int} {a x y : Int} (h0 : pShare t n j = some (a, x, y)) (h1 : tke (kd t n) 35 a = none) : pStep t n L own Q j = none := by
  unfold pStep
  simp only [h0, h1]
theorem pStep_n2 {t : Int → Int} {n : Int} {L : yN} {own : Int} {Q : List (Int × Int)} {j : Int} {a x y : Int} {b : Int} (h0 : pShare t n j = some (a, x, y)) (h1 : tke (kd t n) 35 a = some b) (h2 : cnd (Q.length < 6) = none) : pStep t n L own Q j = none := by
  unfold pStep
  simp only [h0, h1, h2]
theorem pStep_n3 {t : Int → Int} {n : Int} {L : yN} {own : Int} {Q : List (Int × Int)} {j : Int} {a x y : Int} {b : Int} (h0 : pShare t n j = some (a, x, y)) (h1 : tke (kd t n) 35 a = some b) (h2 : cnd (Q.length < 6) = some ()) (h3 : pUpdate t n L own b = none) : pStep t n L own Q j = none := by
  unfold pStep
  simp only [h0, h1, h2, h3]
theorem pStep_s {t : Int → Int} {n : Int} {L : yN} {own : Int} {Q : List (Int × Int)} {j : Int} {a x y : Int} {b : Int} {c : Int} {U : dU} (h0 : pShare t n j = some (a, x, y)) (h1 : tke (kd t n) 35 a = some b) (h2 : cnd (Q.length < 6) = some ()) (h3 : pUpdate t n L own b = some (c, U)) : pStep t n L own Q j = some (c, x, y, U) := by
  unfold pStep
  simp only [h0, h1, h2, h3]
noncomputable def pShF7 (t : Int → Int) (n : Int) (L : yN) (own : Int) : Nat → List (Int × Int) → List dU → Int → Option (Int × List (Int × Int) × List dU)
  | 0, _, _, _ => none
  | k + 1, Q, G, j => match pStep t n L own Q j with
    | none => none
    | some (c, x, y, U) => if kd t n c = 27 then (match ad (kd t n) c with
      | none => none
      | some d => pShF7 t n L own k (Q ++ [(x, y)]) (G ++ [U]) d) else some (c, Q ++ [(x, y)], G ++ [U])
noncomputable def pShs (t : Int → Int) (n : Int) (L : yN) (own : Int) (Q : List (Int × Int)) (G : List dU) (j : Int) : Option (Int × List (Int × Int) × List dU) := pShF7 t n L own (7 - Q.length) Q G j
theorem pShs_u {t : Int → Int} {n own j : Int} {L : yN} {Q : List (Int × Int)} {G : List dU} (h : Q.length ≤ 6) : pShs t n L own Q G j = match pStep t n L own Q j with
    | none => none
    | some (c, x, y, U) => if kd t n c = 27 then (match ad (kd t n) c with
      | none => none
      | some d => pShs t n L own (Q ++ [(x, y)]) (G ++ [U]) d) else some (c, Q ++ [(x, y)], G ++ [U]) := by
  have e : ∀ x y : Int, 7 - (Q ++ [(x, y)]).length = 7 - Q.length - 1 := by
    intro x y
    rw [List.length_append]
    show 7 - (Q.length + 1) = _
    omega
  unfold pShs
  rw [show 7 - Q.length = (7 - Q.length - 1) + 1 by omega]
  simp only [e]
  rfl
section YQ
variable {t : Int → Int} {n own j c d x y : Int} {L : yN} {Q : List (Int × Int)} {G : List dU} {U : dU} {P : Option (Int × List (Int × Int) × List dU)}
theorem uq_n (h0 : P = pShs t n L own Q G j) (h : pStep t n L own Q j = none) (hQ : Q.length ≤ 6) : P = none := by
  rw [h0, pShs_u hQ, h]
theorem uq_d (h0 : P = pShs t n L own Q G j) (h : pStep t n L own Q j = some (c, x, y, U)) (hk : ¬ kd t n c = 27) (hQ : Q.length ≤ 6) : P = some (c, Q ++ [(x, y)], G ++ [U]) := by
  rw [h0, pShs_u hQ, h]
  exact if_neg hk
theorem uq_c (h0 : P = pShs t n L own Q G j) (h : pStep t n L own Q j = some (c, x, y, U)) (ha : ad (kd t n) c = some d) (hk : kd t n c = 27) (hQ : Q.length ≤ 6) : P = pShs t n L own (Q ++ [(x, y)]) (G ++ [U]) d := by
  rw [h0, pShs_u hQ, h]
  show (if kd t n c = 27 then (match ad (kd t n) c with | none => none | some d => pShs t n L own (Q ++ [(x, y)]) (G ++ [U]) d) else some (c, Q ++ [(x, y)], G ++ [U])) = _
  rw [if_pos hk, ha]
theorem uq_x (h0 : P = pShs t n L own Q G j) (h : pStep t n L own Q j = some (c, x, y, U)) (ha : ad (kd t n) c = none) (hk : kd t n c = 27) (hQ : Q.length ≤ 6) : P = none := by
  rw [h0, pShs_u hQ, h]
  show (if kd t n c = 27 then (match ad (kd t n) c with | none => none | some d => pShs t n L own (Q ++ [(x, y)]) (G ++ [U]) d) else some (c, Q ++ [(x, y)], G ++ [U])) = _
  rw [if_pos hk, ha]
end YQ
/-- one UPDATE alone, or shares -/
noncomputable def pBody (t : Int → Int) (n : Int) (L : yN) (own : Int) (j : Int) : Option (Int × List (Int × Int) × List dU) := if kd t n j = 13 ∨ kd t n j = 39 then (match pUpdate t n L own j with
    | none => none
    | some (c, U) => some (c, [(1, 1)], [U])) else pShs t n L own [] [] j
theorem pBody_1 {t : Int → Int} {n own j c : Int} {L : yN} {U : dU} (h : pUpdate t n L own j = some (c, U)) (hk : kd t n j = 13 ∨ kd t n j = 39) : pBody t n L own j = some (c, [(1, 1)], [U]) := by
  unfold pBody
  simp only [if_pos hk, h]
theorem pBody_1n {t : Int → Int} {n own j : Int} {L : yN} (h : pUpdate t n L own j = none) (hk : kd t n j = 13 ∨ kd t n j = 39) : pBody t n L own j = none := by
  unfold pBody
  simp only [if_pos hk, h]
theorem pBody_s {t : Int → Int} {n own j : Int} {L : yN} (hk : ¬ (kd t n j = 13 ∨ kd t n j = 39)) : pBody t n L own j = pShs t n L own [] [] j := if_neg hk
noncomputable def qonD (Q : List (Int × Int)) : Option Unit := @ite _ (qone Q) (Classical.propDecidable _) (some ()) none
theorem qonD_s {Q : List (Int × Int)} (h : qone Q) : qonD Q = some () := if_pos h
theorem qonD_n {Q : List (Int × Int)} (h : ¬ qone Q) : qonD Q = none := if_neg h
noncomputable def pCmd (t : Int → Int) (n : Int) (L : yN) (own : Int) (N : Int) (M : Int) (A : List Int) (j : Int) : Option (Int × dC × List Int) := (match pHead t n L N A j with
    | none => none
    | some (a, i, C, A') => (match pBody t n L own a with
    | none => none
    | some (b, Q, G) => (match tke (kd t n) 36 b with
    | none => none
    | some c => (match qonD Q with
    | none => none
    | some _ => some (c, (M, i, C, G), A')))))
theorem pCmd_n0 {t : Int → Int} {n : Int} {L : yN} {own : Int} {N : Int} {M : Int} {A : List Int} {j : Int}  (h0 : pHead t n L N A j = none) : pCmd t n L own N M A j = none := by
  unfold pCmd
  simp only [h0]
theorem pCmd_n1 {t : Int → Int} {n : Int} {L : yN} {own : Int} {N : Int} {M : Int} {A : List Int} {j : Int} {a i : Int} {C : yC} {A' : List Int} (h0 : pHead t n L N A j = some (a, i, C, A')) (h1 : pBody t n L own a = none) : pCmd t n L own N M A j = none := by
  unfold pCmd
  simp only [h0, h1]
theorem pCmd_n2 {t : Int → Int} {n : Int} {L : yN} {own : Int} {N : Int} {M : Int} {A : List Int} {j : Int} {a i : Int} {C : yC} {A' : List Int} {b : Int} {Q : List (Int × Int)} {G : List dU} (h0 : pHead t n L N A j = some (a, i, C, A')) (h1 : pBody t n L own a = some (b, Q, G)) (h2 : tke (kd t n) 36 b = none) : pCmd t n L own N M A j = none := by
  unfold pCmd
  simp only [h0, h1, h2]
theorem pCmd_n3 {t : Int → Int} {n : Int} {L : yN} {own : Int} {N : Int} {M : Int} {A : List Int} {j : Int} {a i : Int} {C : yC} {A' : List Int} {b : Int} {Q : List (Int × Int)} {G : List dU} {c : Int} (h0 : pHead t n L N A j = some (a, i, C, A')) (h1 : pBody t n L own a = some (b, Q, G)) (h2 : tke (kd t n) 36 b = some c) (h3 : qonD Q = none) : pCmd t n L own N M A j = none := by
  unfold pCmd
  simp only [h0, h1, h2, h3]
theorem pCmd_s {t : Int → Int} {n : Int} {L : yN} {own : Int} {N : Int} {M : Int} {A : List Int} {j : Int} {a i : Int} {C : yC} {A' : List Int} {b : Int} {Q : List (Int × Int)} {G : List dU} {c : Int} (h0 : pHead t n L N A j = some (a, i, C, A')) (h1 : pBody t n L own a = some (b, Q, G)) (h2 : tke (kd t n) 36 b = some c) (h3 : qonD Q = some ()) : pCmd t n L own N M A j = some (c, (M, i, C, G), A') := by
  unfold pCmd
  simp only [h0, h1, h2, h3]
