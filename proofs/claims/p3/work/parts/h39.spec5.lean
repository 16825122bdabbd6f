/-! what a text says: a COMMAND -/
/-- an action, if one is named -/
noncomputable def pAct (t : Int → Int) (n : Int) (j : Int) : Option Int := if kd t n j = 2 then ad (kd t n) j else some j
theorem pAct_a {t : Int → Int} {n j : Int} {Y : Option Int} (h : ad (kd t n) j = Y) (hk : kd t n j = 2) : pAct t n j = Y := by
  unfold pAct
  rw [if_pos hk]
  exact h
theorem pAct_0 {t : Int → Int} {n j : Int} (hk : ¬ kd t n j = 2) : pAct t n j = some j := if_neg hk
noncomputable def pHead (t : Int → Int) (n : Int) (L : yN) (N : Int) (j : Int) : Option Int := (match cnd (N < 40) with
    | none => none
    | some _ => (match tke (kd t n) 41 j with
    | none => none
    | some a => (match pAct t n a with
    | none => none
    | some b => (match tke (kd t n) 42 b with
    | none => none
    | some c => (match yex t n L 1 2 c with
    | none => none
    | some (d, C) => (match tke (kd t n) 18 d with
    | none => none
    | some e => some (e)))))))
theorem pHead_n0 {t : Int → Int} {n : Int} {L : yN} {N : Int} {j : Int}  (h0 : cnd (N < 40) = none) : pHead t n L N j = none := by
  unfold pHead
  simp only [h0]
theorem pHead_n1 {t : Int → Int} {n : Int} {L : yN} {N : Int} {j : Int} (h0 : cnd (N < 40) = some ()) (h1 : tke (kd t n) 41 j = none) : pHead t n L N j = none := by
  unfold pHead
  simp only [h0, h1]
theorem pHead_n2 {t : Int → Int} {n : Int} {L : yN} {N : Int} {j : Int} {a : Int} (h0 : cnd (N < 40) = some ()) (h1 : tke (kd t n) 41 j = some a) (h2 : pAct t n a = none) : pHead t n L N j = none := by
  unfold pHead
  simp only [h0, h1, h2]
theorem pHead_n3 {t : Int → Int} {n : Int} {L : yN} {N : Int} {j : Int} {a : Int} {b : Int} (h0 : cnd (N < 40) = some ()) (h1 : tke (kd t n) 41 j = some a) (h2 : pAct t n a = some b) (h3 : tke (kd t n) 42 b = none) : pHead t n L N j = none := by
  unfold pHead
  simp only [h0, h1, h2, h3]
theorem pHead_n4 {t : Int → Int} {n : Int} {L : yN} {N : Int} {j : Int} {a : Int} {b : Int} {c : Int} (h0 : cnd (N < 40) = some ()) (h1 : tke (kd t n) 41 j = some a) (h2 : pAct t n a = some b) (h3 : tke (kd t n) 42 b = some c) (h4 : yex t n L 1 2 c = none) : pHead t n L N j = none := by
  unfold pHead
  simp only [h0, h1, h2, h3, h4]
theorem pHead_n5 {t : Int → Int} {n : Int} {L : yN} {N : Int} {j : Int} {a : Int} {b : Int} {c : Int} {d : Int} {C : yC} (h0 : cnd (N < 40) = some ()) (h1 : tke (kd t n) 41 j = some a) (h2 : pAct t n a = some b) (h3 : tke (kd t n) 42 b = some c) (h4 : yex t n L 1 2 c = some (d, C)) (h5 : tke (kd t n) 18 d = none) : pHead t n L N j = none := by
  unfold pHead
  simp only [h0, h1, h2, h3, h4, h5]
theorem pHead_s {t : Int → Int} {n : Int} {L : yN} {N : Int} {j : Int} {a : Int} {b : Int} {c : Int} {d : Int} {C : yC} {e : Int} (h0 : cnd (N < 40) = some ()) (h1 : tke (kd t n) 41 j = some a) (h2 : pAct t n a = some b) (h3 : tke (kd t n) 42 b = some c) (h4 : yex t n L 1 2 c = some (d, C)) (h5 : tke (kd t n) 18 d = some e) : pHead t n L N j = some (e) := by
  unfold pHead
  simp only [h0, h1, h2, h3, h4, h5]
noncomputable def pStep (t : Int → Int) (n : Int) (L : yN) (own : Int) (Q : List (Int × Int)) (j : Int) : Option (Int × Int × Int) := (match pShare t n j with
    | none => none
    | some (a, x, y) => (match tke (kd t n) 35 a with
    | none => none
    | some b => (match cnd (Q.length < 6) with
    | none => none
    | some _ => (match pUpdate t n L own b with
    | none => none
    | some c => some (c, x, y)))))
theorem pStep_n0 {t : Int → Int} {n : Int} {L : yN} {own : Int} {Q : List (Int × Int)} {j : Int}  (h0 : pShare t n j = none) : pStep t n L own Q j = none := by
  unfold pStep
  simp only [h0]
theorem pStep_n1 {t : Int → Int} {n : Int} {L : yN} {own : Int} {Q : List (Int × Int)} {j : Int} {a x y : Int} (h0 : pShare t n j = some (a, x, y)) (h1 : tke (kd t n) 35 a = none) : pStep t n L own Q j = none := by
  unfold pStep
  simp only [h0, h1]
theorem pStep_n2 {t : Int → Int} {n : Int} {L : yN} {own : Int} {Q : List (Int × Int)} {j : Int} {a x y : Int} {b : Int} (h0 : pShare t n j = some (a, x, y)) (h1 : tke (kd t n) 35 a = some b) (h2 : cnd (Q.length < 6) = none) : pStep t n L own Q j = none := by
  unfold pStep
  simp only [h0, h1, h2]
theorem pStep_n3 {t : Int → Int} {n : Int} {L : yN} {own : Int} {Q : List (Int × Int)} {j : Int} {a x y : Int} {b : Int} (h0 : pShare t n j = some (a, x, y)) (h1 : tke (kd t n) 35 a = some b) (h2 : cnd (Q.length < 6) = some ()) (h3 : pUpdate t n L own b = none) : pStep t n L own Q j = none := by
  unfold pStep
  simp only [h0, h1, h2, h3]
theorem pStep_s {t : Int → Int} {n : Int} {L : yN} {own : Int} {Q : List (Int × Int)} {j : Int} {a x y : Int} {b : Int} {c : Int} (h0 : pShare t n j = some (a, x, y)) (h1 : tke (kd t n) 35 a = some b) (h2 : cnd (Q.length < 6) = some ()) (h3 : pUpdate t n L own b = some c) : pStep t n L own Q j = some (c, x, y) := by
  unfold pStep
  simp only [h0, h1, h2, h3]
noncomputable def pShF7 (t : Int → Int) (n : Int) (L : yN) (own : Int) : Nat → List (Int × Int) → Int → Option (Int × List (Int × Int))
  | 0, _, _ => none
  | k + 1, Q, j => match pStep t n L own Q j with
    | none => none
    | some (c, x, y) => if kd t n c = 27 then (match ad (kd t n) c with
      | none => none
      | some d => pShF7 t n L own k (Q ++ [(x, y)]) d) else some (c, Q ++ [(x, y)])
noncomputable def pShs (t : Int → Int) (n : Int) (L : yN) (own : Int) (Q : List (Int × Int)) (j : Int) : Option (Int × List (Int × Int)) := pShF7 t n L own (7 - Q.length) Q j
theorem pShs_u {t : Int → Int} {n own j : Int} {L : yN} {Q : List (Int × Int)} (h : Q.length ≤ 6) : pShs t n L own Q j = match pStep t n L own Q j with
    | none => none
    | some (c, x, y) => if kd t n c = 27 then (match ad (kd t n) c with
      | none => none
      | some d => pShs t n L own (Q ++ [(x, y)]) d) else some (c, Q ++ [(x, y)]) := by
  have e : ∀ x y : Int, 7 - (Q ++ [(x, y)]).length = 7 - Q.length - 1 := by
    intro x y
    rw [List.length_append]
    show 7 - (Q.length + 1) = _
    omega
  unfold pShs
  rw [show 7 - Q.length = (7 - Q.length - 1) + 1 by omega]
  simp only [e]
  rfl
section YQ
variable {t : Int → Int} {n own j c d x y : Int} {L : yN} {Q : List (Int × Int)} {P : Option (Int × List (Int × Int))}
theorem uq_n (h0 : P = pShs t n L own Q j) (h : pStep t n L own Q j = none) (hQ : Q.length ≤ 6) : P = none := by
  rw [h0, pShs_u hQ, h]
theorem uq_d (h0 : P = pShs t n L own Q j) (h : pStep t n L own Q j = some (c, x, y)) (hk : ¬ kd t n c = 27) (hQ : Q.length ≤ 6) : P = some (c, Q ++ [(x, y)]) := by
  rw [h0, pShs_u hQ, h]
  exact if_neg hk
theorem uq_c (h0 : P = pShs t n L own Q j) (h : pStep t n L own Q j = some (c, x, y)) (ha : ad (kd t n) c = some d) (hk : kd t n c = 27) (hQ : Q.length ≤ 6) : P = pShs t n L own (Q ++ [(x, y)]) d := by
  rw [h0, pShs_u hQ, h]
  show (if kd t n c = 27 then (match ad (kd t n) c with | none => none | some d => pShs t n L own (Q ++ [(x, y)]) d) else some (c, Q ++ [(x, y)])) = _
  rw [if_pos hk, ha]
theorem uq_x (h0 : P = pShs t n L own Q j) (h : pStep t n L own Q j = some (c, x, y)) (ha : ad (kd t n) c = none) (hk : kd t n c = 27) (hQ : Q.length ≤ 6) : P = none := by
  rw [h0, pShs_u hQ, h]
  show (if kd t n c = 27 then (match ad (kd t n) c with | none => none | some d => pShs t n L own (Q ++ [(x, y)]) d) else some (c, Q ++ [(x, y)])) = _
  rw [if_pos hk, ha]
end YQ
/-- one UPDATE alone, or shares -/
noncomputable def pBody (t : Int → Int) (n : Int) (L : yN) (own : Int) (j : Int) : Option (Int × List (Int × Int)) := if kd t n j = 13 ∨ kd t n j = 39 then (match pUpdate t n L own j with
    | none => none
    | some c => some (c, [(1, 1)])) else pShs t n L own [] j
theorem pBody_1 {t : Int → Int} {n own j c : Int} {L : yN} (h : pUpdate t n L own j = some c) (hk : kd t n j = 13 ∨ kd t n j = 39) : pBody t n L own j = some (c, [(1, 1)]) := by
  unfold pBody
  simp only [if_pos hk, h]
theorem pBody_1n {t : Int → Int} {n own j : Int} {L : yN} (h : pUpdate t n L own j = none) (hk : kd t n j = 13 ∨ kd t n j = 39) : pBody t n L own j = none := by
  unfold pBody
  simp only [if_pos hk, h]
theorem pBody_s {t : Int → Int} {n own j : Int} {L : yN} (hk : ¬ (kd t n j = 13 ∨ kd t n j = 39)) : pBody t n L own j = pShs t n L own [] j := if_neg hk
noncomputable def qonD (Q : List (Int × Int)) : Option Unit := @ite _ (qone Q) (Classical.propDecidable _) (some ()) none
theorem qonD_s {Q : List (Int × Int)} (h : qone Q) : qonD Q = some () := if_pos h
theorem qonD_n {Q : List (Int × Int)} (h : ¬ qone Q) : qonD Q = none := if_neg h
noncomputable def pCmd (t : Int → Int) (n : Int) (L : yN) (own : Int) (N : Int) (j : Int) : Option Int := (match pHead t n L N j with
    | none => none
    | some a => (match pBody t n L own a with
    | none => none
    | some (b, Q) => (match tke (kd t n) 36 b with
    | none => none
    | some c => (match qonD Q with
    | none => none
    | some _ => some (c)))))
theorem pCmd_n0 {t : Int → Int} {n : Int} {L : yN} {own : Int} {N : Int} {j : Int}  (h0 : pHead t n L N j = none) : pCmd t n L own N j = none := by
  unfold pCmd
  simp only [h0]
theorem pCmd_n1 {t : Int → Int} {n : Int} {L : yN} {own : Int} {N : Int} {j : Int} {a : Int} (h0 : pHead t n L N j = some a) (h1 : pBody t n L own a = none) : pCmd t n L own N j = none := by
  unfold pCmd
  simp only [h0, h1]
theorem pCmd_n2 {t : Int → Int} {n : Int} {L : yN} {own : Int} {N : Int} {j : Int} {a : Int} {b : Int} {Q : List (Int × Int)} (h0 : pHead t n L N j = some a) (h1 : pBody t n L own a = some (b, Q)) (h2 : tke (kd t n) 36 b = none) : pCmd t n L own N j = none := by
  unfold pCmd
  simp only [h0, h1, h2]
theorem pCmd_n3 {t : Int → Int} {n : Int} {L : yN} {own : Int} {N : Int} {j : Int} {a : Int} {b : Int} {Q : List (Int × Int)} {c : Int} (h0 : pHead t n L N j = some a) (h1 : pBody t n L own a = some (b, Q)) (h2 : tke (kd t n) 36 b = some c) (h3 : qonD Q = none) : pCmd t n L own N j = none := by
  unfold pCmd
  simp only [h0, h1, h2, h3]
theorem pCmd_s {t : Int → Int} {n : Int} {L : yN} {own : Int} {N : Int} {j : Int} {a : Int} {b : Int} {Q : List (Int × Int)} {c : Int} (h0 : pHead t n L N j = some a) (h1 : pBody t n L own a = some (b, Q)) (h2 : tke (kd t n) 36 b = some c) (h3 : qonD Q = some ()) : pCmd t n L own N j = some (c) := by
  unfold pCmd
  simp only [h0, h1, h2, h3]
