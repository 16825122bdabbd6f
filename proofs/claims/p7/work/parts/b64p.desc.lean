/-! a text that is read: what it says is in order -/
section YB2
variable {B B' : Int → Int → Prop}
theorem yok_B (h : ∀ v a, B v a → B' v a) {D : Nat → List Int} {N i : Nat} {o v : Int} (hk : yok B D N i o v) : yok B' D N i o v := by
  unfold yok at hk ⊢
  rcases hk with z | ⟨z, a, z1, z2, z3⟩ | z | z | z | z | z | z | z
  · exact Or.inl z
  · exact Or.inr (Or.inl ⟨z, a, z1, h _ _ z2, z3⟩)
  · exact Or.inr (Or.inr (Or.inl z))
  · exact Or.inr (Or.inr (Or.inr (Or.inl z)))
  · exact Or.inr (Or.inr (Or.inr (Or.inr (Or.inl z))))
  · exact Or.inr (Or.inr (Or.inr (Or.inr (Or.inr (Or.inl z)))))
  · exact Or.inr (Or.inr (Or.inr (Or.inr (Or.inr (Or.inr (Or.inl z))))))
  · exact Or.inr (Or.inr (Or.inr (Or.inr (Or.inr (Or.inr (Or.inr (Or.inl z)))))))
  · exact Or.inr (Or.inr (Or.inr (Or.inr (Or.inr (Or.inr (Or.inr (Or.inr z)))))))
theorem yTI_B (h : ∀ v a, B v a → B' v a) {D : Nat → List Int} {cur : List Int} {C : yC} {W : List yE} (hT : yTI B D cur C W) : yTI B' D cur C W := ⟨hT.1, hT.2.1, fun i o v hi => yok_B h (hT.2.2.1 i o v hi), hT.2.2.2⟩
end YB2
theorem qlo_a {V : qVs} {x : Int × Int × Int} {v : Int} (h : 0 ≤ v) (h1 : v < V.length) : qlo (V ++ [x]) v = qlo V v ∧ qhi (V ++ [x]) v = qhi V v := by
  unfold qlo qhi
  have e : (V ++ [x]).getD v.toNat (0, 0, 0) = V.getD v.toNat (0, 0, 0) := by
    rw [List.getD_eq_getElem?_getD, List.getD_eq_getElem?_getD, List.getElem?_append_left (by omega)]
  rw [e]
  exact ⟨rfl, rfl⟩
theorem qB_a {V : qVs} {x : Int × Int × Int} {v a : Int} (h : qB V v a) : qB (V ++ [x]) v a := by
  obtain ⟨h1, h2, h3⟩ := h
  have q := qlo_a (x := x) h1 h2
  exact ⟨h1, by rw [len_s]; omega, fun z => by rw [q.1, q.2]; exact h3 z⟩
theorem yTd_a {V : qVs} {x : Int × Int × Int} {ty : Int} {C : yC} (h : yTd V ty C) : yTd (V ++ [x]) ty C := h.elim fun D h => ⟨D, yTI_B (fun v a => qB_a) h⟩
theorem kOK_a {V : qVs} {x : Int × Int × Int} {M nA : Int} {c : dC} (h : kOK V M nA c) : kOK (V ++ [x]) M nA c := by
  obtain ⟨h1, h2, h3, h4, h5⟩ := h
  refine ⟨h1, h2, yTd_a h3, h4, fun U hU => ⟨(h5 U hU).1, fun a ha => ?_⟩⟩
  obtain ⟨q1, y, q2⟩ := (h5 U hU).2 a ha
  exact ⟨⟨q1.1, by rw [len_s]; omega⟩, y, yTd_a q2⟩
theorem kOK_m {V : qVs} {M M' nA nA' : Int} {c : dC} (h : kOK V M nA c) (hM : M ≤ M') (hA : nA ≤ nA') : kOK V M' nA' c := by
  obtain ⟨h1, h2, h3⟩ := h
  exact ⟨by omega, by omega, h3⟩
/-- names: a variable's TYPE is its own -/
def nOK (V : qVs) (L : yN) : Prop := ∀ e : Int × Int × Int × Int, e ∈ L → e.2.1 = 1 → (e.2.2.2 = 1 ∨ e.2.2.2 = 2) ∧ qB V e.2.2.1 e.2.2.2
theorem nOK_a {V : qVs} {L : yN} {x : Int × Int × Int} (h : nOK V L) : nOK (V ++ [x]) L := fun e he h1 => ⟨(h e he h1).1, qB_a (h e he h1).2⟩
theorem nOK_s {V : qVs} {L : yN} {e : Int × Int × Int × Int} (h : nOK V L) (he : e.2.1 = 1 → (e.2.2.2 = 1 ∨ e.2.2.2 = 2) ∧ qB V e.2.2.1 e.2.2.2) : nOK V (L ++ [e]) := fun e' h' h1 => by
  rcases List.mem_append.mp h' with z | z
  · exact h e' z h1
  · rw [List.mem_singleton.mp z] at h1 ⊢
    exact he h1
theorem fnd_m {t : Int → Int} {n j r h x : Int} : ∀ L : yN, fnd t n j L = some (r, h, x) → ∃ tok, (tok, r, h, x) ∈ L := by
  intro L
  induction L with
  | nil => intro h; cases h
  | cons e L ih =>
    obtain ⟨a, b, c, d⟩ := e
    intro hf
    unfold fnd at hf
    split at hf
    · injection hf with hf
      injection hf with h1 h2
      injection h2 with h2 h3
      subst h1 h2 h3
      exact ⟨a, List.mem_cons_self⟩
    · obtain ⟨tok, z⟩ := ih hf
      exact ⟨tok, List.mem_cons_of_mem _ z⟩
theorem odl_ok {t : Int → Int} {n vk : Int} {V : qVs} {L : yN} (hL : nOK V L) : yod (qB V) (odl t n L vk) := by
  intro j c v x h
  unfold odl at h
  split at h
  · injection h with h
    injection h with h1 h
    injection h with h2 h3
    exact ⟨Or.inl h3.symm, Or.inl ⟨h1.symm, fun z => by omega⟩⟩
  · split at h
    · injection h with h
      injection h with h1 h
      injection h with h2 h3
      exact ⟨Or.inr h3.symm, Or.inl ⟨h1.symm, fun _ => Or.inr h2.symm⟩⟩
    · split at h
      · injection h with h
        injection h with h1 h
        injection h with h2 h3
        exact ⟨Or.inr h3.symm, Or.inl ⟨h1.symm, fun _ => Or.inl h2.symm⟩⟩
      · split at h
        · split at h
          · cases h
          · rename_i r hh y hf
            split at h
            · injection h with h
              injection h with h1 h
              injection h with h2 h3
              exact ⟨Or.inl h3.symm, Or.inl ⟨h1.symm, fun z => by omega⟩⟩
            · split at h
              · rename_i hr
                injection h with h
                injection h with h1 h
                injection h with h2 h3
                subst h2 h3
                obtain ⟨tok, hm⟩ := fnd_m L hf
                have q := hL _ hm hr.1
                exact ⟨q.1, Or.inr ⟨h1.symm, q.2⟩⟩
              · cases h
        · cases h
theorem yex_ok {t : Int → Int} {n vk x j j' : Int} {V : qVs} {L : yN} {C : yC} (hL : nOK V L) (h : yex t n L vk x j = some (j', C)) : yTd V x C := by
  obtain ⟨D, h1, _⟩ := yex_T (odl_ok hL) h
  exact ⟨D, h1⟩
/-! what the statements give -/
theorem cnd_i {p : Prop} [Decidable p] {u : Unit} (h : cnd p = some u) : p := by
  unfold cnd at h
  split at h
  · assumption
  · cases h
section YIN
variable {t : Int → Int} {n own V N M j a d lo hi v k : Int} {L L' : yN} {A A' : List Int} {c : dC} {U : dU} {C : yC}
theorem pConst_i (h : pConst t n L j = some (a, L')) : ∃ b y, L' = L ++ [(b, 0, y, 0)] := by
  unfold pConst at h
  (split at h; · cases h)
  (split at h; · cases h)
  (split at h; · cases h)
  (split at h; · cases h)
  (split at h; · cases h)
  (split at h; · cases h)
  (split at h; · cases h)
  injection h with h
  injection h with h1 h2
  exact ⟨_, _, h2.symm⟩
theorem pOpen_i (h : pOpen t n L M j = some (a, L')) : M < 3 ∧ ∃ b, L' = L ++ [(b, 2, M, 0)] := by
  unfold pOpen at h
  (split at h; · cases h)
  rename_i u hc
  (split at h; · cases h)
  (split at h; · cases h)
  injection h with h
  injection h with h1 h2
  exact ⟨cnd_i hc, _, h2.symm⟩
theorem pTarget_i (h : pTarget t n L j = some (a, C)) : ∃ j1 j2, yex t n L 1 2 j1 = some (j2, C) := by
  unfold pTarget at h
  (split at h; · cases h)
  (split at h; · cases h)
  rename_i b C' hx
  (split at h; · cases h)
  (split at h; · cases h)
  injection h with h
  injection h with h1 h2
  subst h2
  exact ⟨_, _, hx⟩
theorem pBounds_i (h : pBounds t n L j = some (a, lo, hi)) : lo ≤ hi := by
  unfold pBounds at h
  (split at h; · cases h)
  (split at h; · cases h)
  (split at h; · cases h)
  (split at h; · cases h)
  (split at h; · cases h)
  (split at h; · cases h)
  (split at h; · cases h)
  (split at h; · cases h)
  rename_i u hc
  injection h with h
  injection h with h1 h
  injection h with h2 h3
  subst h2 h3
  exact (cnd_i hc).1
theorem pType_i2 {ty : Int} (h : pType t n L j = some (a, ty, lo, hi)) : (ty = 1 ∨ (ty = 2 ∧ lo = 0 ∧ hi = 1)) ∧ lo ≤ hi := by
  unfold pType at h
  split at h
  · split at h
    · cases h
    · injection h with h
      injection h with h1 h
      injection h with h2 h
      injection h with h3 h4
      subst h2 h3 h4
      exact ⟨Or.inr ⟨rfl, rfl, rfl⟩, by decide⟩
  · split at h
    · cases h
    · rename_i a' lo' hi' hb
      injection h with h
      injection h with h1 h
      injection h with h2 h
      injection h with h3 h4
      subst h2 h3 h4
      exact ⟨Or.inl rfl, pBounds_i hb⟩
theorem pInit_i {ty : Int} (h : pInit t n L ty lo hi j = some (d, v)) (hl : lo ≤ hi) : lo ≤ v ∧ v ≤ hi := by
  unfold pInit at h
  split at h
  · unfold pvI at h
    (split at h; · cases h)
    (split at h; · cases h)
    (split at h; · cases h)
    (split at h; · cases h)
    (split at h; · cases h)
    rename_i u hc
    injection h with h
    injection h with h1 h2
    subst h2
    exact cnd_i hc
  · unfold tkl at h
    split at h
    · cases h
    · injection h with h
      injection h with h1 h2
      subst h2
      exact ⟨Int.le_refl _, hl⟩
theorem pVar_i (h : pVar t n L V j = some (d, L', lo, hi, v)) : V < 8 ∧ ∃ ty, L' = L ++ [(j, 1, V, ty)] ∧ (ty = 1 ∨ (ty = 2 ∧ lo = 0 ∧ hi = 1)) ∧ lo ≤ v ∧ v ≤ hi := by
  unfold pVar at h
  (split at h; · cases h)
  rename_i c1 ty lo1 hi1 hA
  (split at h; · cases h)
  rename_i d1 v1 hI
  injection h with h
  injection h with h1 h
  injection h with h2 h
  injection h with h3 h
  injection h with h4 h5
  subst h2 h3 h4 h5
  unfold pvA at hA
  (split at hA; · cases hA)
  rename_i u hc
  (split at hA; · cases hA)
  (split at hA; · cases hA)
  (split at hA; · cases hA)
  rename_i c2 ty2 lo2 hi2 hT
  injection hA with hA
  injection hA with g1 hA
  injection hA with g2 hA
  injection hA with g3 g4
  subst g2 g3 g4
  have q := pType_i2 hT
  exact ⟨cnd_i hc, _, rfl, q.1, pInit_i hI q.2⟩
theorem pChg_i {S : List Int} {x : Int} (h : pChg t n L own S j = some (v, x)) : own ≤ v ∧ ¬ v ∈ S ∧ ∃ tok, (tok, 1, v, x) ∈ L := by
  unfold pChg at h
  split at h
  · split at h
    · cases h
    · rename_i r h1 x1 hf
      split at h
      · rename_i hr
        injection h with h
        injection h with e1 e2
        subst e1 e2
        obtain ⟨tok, hm⟩ := fnd_m L hf
        rw [hr.1] at hm
        exact ⟨hr.2.1, hr.2.2, tok, hm⟩
      · cases h
  · cases h
/-- assignments in order -/
def uOK (t : Int → Int) (n : Int) (L : yN) (own : Int) (U : dU) : Prop := adj U ∧ ∀ a, a ∈ U → own ≤ a.1 ∧ ∃ tok x j1 j2, (tok, 1, a.1, x) ∈ L ∧ yex t n L 1 x j1 = some (j2, a.2)
theorem pAsg_i {f : Int} (h : pAsg t n L own U j = some (f, v, C)) (hU : uOK t n L own U) : uOK t n L own (U ++ [(v, C)]) := by
  unfold pAsg at h
  (split at h; · cases h)
  (split at h; · cases h)
  rename_i v1 x1 hc
  (split at h; · cases h)
  (split at h; · cases h)
  (split at h; · cases h)
  (split at h; · cases h)
  rename_i e1 C1 hx
  (split at h; · cases h)
  injection h with h
  injection h with h1 h
  injection h with h2 h3
  subst h2 h3
  obtain ⟨q1, q2, tok, q3⟩ := pChg_i hc
  refine ⟨List.pairwise_append.mpr ⟨hU.1, List.pairwise_singleton _ _, fun a ha b hb z => ?_⟩, fun a ha => ?_⟩
  · rw [List.mem_singleton.mp hb] at z
    exact q2 (List.mem_map.mpr ⟨a, ha, z⟩)
  · rcases List.mem_append.mp ha with z | z
    · exact hU.2 a z
    · rw [List.mem_singleton.mp z]
      exact ⟨q1, tok, x1, _, _, q3, hx⟩
theorem pAsF_i : ∀ (q : Nat) (U : dU) (j : Int) (U' : dU) (f : Int), pAsF t n L own q U j = some (f, U') → uOK t n L own U → uOK t n L own U' := by
  intro q
  induction q with
  | zero => intro U j U' f h; cases h
  | succ q ih =>
    intro U j U' f h hU
    unfold pAsF at h
    split at h
    · cases h
    · rename_i f1 v1 C1 ha
      have hU' := pAsg_i ha hU
      split at h
      · split at h
        · cases h
        · exact ih _ _ _ _ h hU'
      · injection h with h
        injection h with h1 h2
        subst h2
        exact hU'
theorem pUpdate_i {f : Int} (h : pUpdate t n L own j = some (f, U)) : uOK t n L own U := by
  have h0 : uOK t n L own [] := ⟨List.Pairwise.nil, fun a ha => by cases ha⟩
  unfold pUpdate at h
  split at h
  · split at h
    · cases h
    · injection h with h
      injection h with h1 h2
      subst h2
      exact h0
  · unfold pAs at h
    exact pAsF_i _ _ _ _ _ h h0
theorem pStep_i {Q : List (Int × Int)} {x y b : Int} (h : pStep t n L own Q j = some (b, x, y, U)) : Q.length < 6 ∧ uOK t n L own U := by
  unfold pStep at h
  (split at h; · cases h)
  (split at h; · cases h)
  (split at h; · cases h)
  rename_i u hc
  (split at h; · cases h)
  rename_i c1 U1 hu
  injection h with h
  injection h with h1 h
  injection h with h2 h
  injection h with h3 h4
  subst h4
  exact ⟨cnd_i hc, pUpdate_i hu⟩
theorem pShF_i : ∀ (q : Nat) (Q : List (Int × Int)) (G : List dU) (j b : Int) (Q' : List (Int × Int)) (G' : List dU), pShF7 t n L own q Q G j = some (b, Q', G') → Q.length = G.length → (∀ U, U ∈ G → uOK t n L own U) → (1 ≤ G'.length ∧ G'.length ≤ 6) ∧ ∀ U, U ∈ G' → uOK t n L own U := by
  intro q
  induction q with
  | zero => intro Q G j b Q' G' h; cases h
  | succ q ih =>
    intro Q G j b Q' G' h hl hG
    unfold pShF7 at h
    split at h
    · cases h
    · rename_i c1 x1 y1 U1 hs
      obtain ⟨s1, s2⟩ := pStep_i hs
      have hG' : ∀ U, U ∈ G ++ [U1] → uOK t n L own U := fun U hU => by
        rcases List.mem_append.mp hU with z | z
        · exact hG U z
        · rw [List.mem_singleton.mp z]; exact s2
      have hl' : (Q ++ [(x1, y1)]).length = (G ++ [U1]).length := by
        rw [List.length_append, List.length_append, hl]
        rfl
      split at h
      · split at h
        · cases h
        · exact ih _ _ _ _ _ _ h hl' hG'
      · injection h with h
        injection h with h1 h
        injection h with h2 h3
        subst h3
        refine ⟨?_, hG'⟩
        rw [List.length_append]
        show 1 ≤ G.length + 1 ∧ G.length + 1 ≤ 6
        omega
theorem pBody_i {Q : List (Int × Int)} {G : List dU} (h : pBody t n L own j = some (a, Q, G)) : (1 ≤ G.length ∧ G.length ≤ 6) ∧ ∀ U, U ∈ G → uOK t n L own U := by
  unfold pBody at h
  split at h
  · split at h
    · cases h
    · rename_i c1 U1 hu
      injection h with h
      injection h with h1 h
      injection h with h2 h3
      subst h3
      refine ⟨⟨Nat.le_refl 1, by show 1 ≤ 6; omega⟩, fun U hU => ?_⟩
      rw [List.mem_singleton.mp hU]
      exact pUpdate_i hu
  · unfold pShs at h
    exact pShF_i _ _ _ _ _ _ _ h rfl (fun U hU => by cases hU)
theorem pAct_i {i : Int} (h : pAct t n A j = some (a, i, A')) : (-1 ≤ i ∧ i < A'.length) ∧ A.length ≤ A'.length := by
  unfold pAct at h
  split at h
  · split at h
    · cases h
    · injection h with h
      injection h with h1 h
      injection h with h2 h3
      subst h2 h3
      have b := aix_b (t := t) (n := n) (j := j) A
      unfold aadd
      split
      · exact ⟨⟨by omega, by assumption⟩, Nat.le_refl _⟩
      · rw [len_s]
        exact ⟨⟨by omega, by omega⟩, by rw [List.length_append]; omega⟩
  · injection h with h
    injection h with h1 h
    injection h with h2 h3
    subst h2 h3
    exact ⟨⟨Int.le_refl _, by omega⟩, Nat.le_refl _⟩
theorem pCmd_i (h : pCmd t n L own N M A j = some (a, c, A')) : N < 40 ∧ c.1 = M ∧ (-1 ≤ c.2.1 ∧ c.2.1 < A'.length) ∧ A.length ≤ A'.length ∧ (∃ j1 j2, yex t n L 1 2 j1 = some (j2, c.2.2.1)) ∧ (1 ≤ c.2.2.2.length ∧ c.2.2.2.length ≤ 6) ∧ ∀ U, U ∈ c.2.2.2 → uOK t n L own U := by
  unfold pCmd at h
  (split at h; · cases h)
  rename_i a1 i1 C1 A1 hH
  (split at h; · cases h)
  rename_i b1 Q1 G1 hB
  (split at h; · cases h)
  (split at h; · cases h)
  injection h with h
  injection h with h1 h
  injection h with h2 h3
  subst h2 h3
  unfold pHead at hH
  (split at hH; · cases hH)
  rename_i u hc
  (split at hH; · cases hH)
  (split at hH; · cases hH)
  rename_i b2 i2 A2 hA
  (split at hH; · cases hH)
  (split at hH; · cases hH)
  rename_i d2 C2 hx
  (split at hH; · cases hH)
  injection hH with hH
  injection hH with g1 hH
  injection hH with g2 hH
  injection hH with g3 g4
  subst g2 g3 g4
  have qA := pAct_i hA
  have qB := pBody_i hB
  exact ⟨cnd_i hc, rfl, qA.1, qA.2, ⟨_, _, hx⟩, qB.1, qB.2⟩
end YIN
/-! all of it -/
def pkI (c : pkC) : Prop := nOK c.2.2.1.1 c.2.1 ∧ c.2.2.2.2.2.1 = c.2.2.1.1.length ∧ c.2.2.1.1.length ≤ 8 ∧ c.2.2.2.2.2.2.1 = c.2.2.1.2.1.length ∧ c.2.2.1.2.1.length ≤ 40 ∧ (0 ≤ c.2.2.2.1 ∧ c.2.2.2.1 ≤ 3) ∧ (∀ x, x ∈ c.2.2.1.2.1 → kOK c.2.2.1.1 c.2.2.2.1 c.2.2.1.2.2.length x) ∧ kDJ c.2.2.1.2.1 ∧ (∀ x, x ∈ c.2.2.1.1 → x.1 ≤ x.2.2 ∧ x.2.2 ≤ x.2.1) ∧ (2 ≤ c.1 → (1 ≤ c.2.2.2.1 ∧ 0 ≤ c.2.2.2.2.1) ∧ ∀ x, x ∈ c.2.2.1.2.1 → ∀ U, U ∈ x.2.2.2 → ∀ a, a ∈ U → (x.1 < c.2.2.2.1 - 1 → a.1 < c.2.2.2.2.1) ∧ (x.1 = c.2.2.2.1 - 1 → c.2.2.2.2.1 ≤ a.1))
theorem pk_i {t : Int → Int} {n m M O V N j : Int} {L : yN} {D : dM} (h1 : nOK D.1 L) (h2 : V = D.1.length) (h3 : D.1.length ≤ 8) (h4 : N = D.2.1.length) (h5 : D.2.1.length ≤ 40) (h6 : 0 ≤ M ∧ M ≤ 3) (h7 : ∀ x, x ∈ D.2.1 → kOK D.1 M D.2.2.length x) (h8 : kDJ D.2.1) (h9 : ∀ x, x ∈ D.1 → x.1 ≤ x.2.2 ∧ x.2.2 ≤ x.2.1) (h10 : 2 ≤ m → (1 ≤ M ∧ 0 ≤ O) ∧ ∀ x, x ∈ D.2.1 → ∀ U, U ∈ x.2.2.2 → ∀ a, a ∈ U → (x.1 < M - 1 → a.1 < O) ∧ (x.1 = M - 1 → O ≤ a.1)) : pkI (m, L, D, M, O, V, N, j) := ⟨h1, h2, h3, h4, h5, h6, h7, h8, h9, h10⟩
theorem qlo_l {V : qVs} {x : Int × Int × Int} {v : Int} (h : v = V.length) : qlo (V ++ [x]) v = x.1 ∧ qhi (V ++ [x]) v = x.2.1 := by
  have e : (V ++ [x]).getD v.toNat (0, 0, 0) = x := by
    rw [List.getD_eq_getElem?_getD, show v.toNat = V.length by omega, List.getElem?_append_right (Nat.le_refl _), Nat.sub_self]
    rfl
  unfold qlo qhi
  rw [e]
  exact ⟨rfl, rfl⟩
theorem pkS_I {t : Int → Int} {n : Int} {c c' : pkC} (h : pkS t n c = some (.inl c')) (hI : pkI c) (h3 : pk3 c) : pkI c' := by
  obtain ⟨m, L, D, M, O, V, N, j⟩ := c
  obtain ⟨i1, i2, i3, i4, i5, i6, i7, i8, i9, i10⟩ := hI
  dsimp only at i1 i2 i3 i4 i5 i6 i7 i8 i9 i10
  unfold pk3 at h3
  dsimp only at h3
  unfold pkS at h
  dsimp only at h
  split at h
  · split at h
    · split at h
      · cases h
      · rename_i a L' hp
        obtain ⟨_, _, e⟩ := pgo_i h
        subst e
        obtain ⟨b, y, e⟩ := pConst_i hp
        subst e
        exact pk_i (t := t) (n := n) (nOK_s i1 (fun z => absurd z (show ¬ (0 : Int) = 1 by decide))) i2 i3 i4 i5 i6 i7 i8 i9 (fun z => absurd z (by decide))
    · injection h with h
      injection h with h
      subst h
      exact pk_i (t := t) (n := n) i1 i2 i3 i4 i5 i6 i7 i8 i9 (fun z => absurd z (by decide))
  · split at h
    · split at h
      · cases h
      · rename_i a L' hp
        obtain ⟨_, _, e⟩ := pgo_i h
        subst e
        obtain ⟨hM, b, e⟩ := pOpen_i hp
        subst e
        refine pk_i (t := t) (n := n) (nOK_s i1 (fun z => absurd z (show ¬ (2 : Int) = 1 by decide))) i2 i3 i4 i5 (by omega) (fun x hx => kOK_m (i7 x hx) (by omega) (Int.le_refl _)) i8 i9 (fun _ => ⟨by omega, fun x hx U hU a ha => ?_⟩)
        have q := i7 x hx
        have q2 := (q.2.2.2.2 U hU).2 a ha
        refine ⟨fun _ => by omega, fun z => ?_⟩
        have := q.1
        omega
    · split at h
      · split at h
        · split at h
          · cases h
          · rename_i hm a L' lo hi v hp
            obtain ⟨_, _, e⟩ := pgo_i h
            subst e
            obtain ⟨hV, ty, e, hty, hlo, hhi⟩ := pVar_i hp
            subst e
            have ql := qlo_l (V := D.1) (x := (lo, hi, v)) i2
            refine pk_i (t := t) (n := n) (nOK_s (nOK_a i1) (fun _ => ⟨by show ty = 1 ∨ ty = 2; omega, by show 0 ≤ V; omega, by show V < (((D.1 ++ [(lo, hi, v)]).length : Nat) : Int); rw [len_s]; omega, fun z => ?_⟩)) (by show V + 1 = (((D.1 ++ [(lo, hi, v)]).length : Nat) : Int); rw [len_s]; omega) (by show (D.1 ++ [(lo, hi, v)]).length ≤ 8; rw [List.length_append]; show D.1.length + 1 ≤ 8; omega) i4 i5 i6 (fun x hx => kOK_a (i7 x hx)) i8 (fun x hx => ?_) (fun _ => i10 (by omega))
            · have z : ty = 2 := z
              have e2 : lo = 0 ∧ hi = 1 := by omega
              show qlo (D.1 ++ [(lo, hi, v)]) V = 0 ∧ qhi (D.1 ++ [(lo, hi, v)]) V = 1
              rw [ql.1, ql.2]
              exact e2
            · have hx : x ∈ D.1 ++ [(lo, hi, v)] := hx
              rcases List.mem_append.mp hx with z | z
              · exact i9 x z
              · rw [List.mem_singleton.mp z]
                exact ⟨hlo, hhi⟩
        · injection h with h
          injection h with h
          subst h
          exact pk_i (t := t) (n := n) i1 i2 i3 i4 i5 i6 i7 i8 i9 (fun _ => i10 (by omega))
      · have i11 := i10 (by omega)
        split at h
        · split at h
          · cases h
          · rename_i hm a x A hp
            obtain ⟨_, _, e⟩ := pgo_i h
            subst e
            obtain ⟨g1, g2, g3, g4, ⟨j1, j2, g5⟩, g6, g7⟩ := pCmd_i hp
            have gv : ∀ U, U ∈ x.2.2.2 → ∀ a, a ∈ U → (0 ≤ a.1 ∧ a.1 < D.1.length) ∧ (∃ y, yTd D.1 y a.2) ∧ O ≤ a.1 := fun U hU a ha => by
              obtain ⟨q1, tok, y, k1, k2, q2, q3⟩ := (g7 U hU).2 a ha
              have q4 := (i1 _ q2 rfl).2
              exact ⟨⟨q4.1, q4.2.1⟩, ⟨y, yex_ok i1 q3⟩, q1⟩
            have kx : kOK D.1 M A.length x := ⟨by omega, g3, yex_ok i1 g5, g6, fun U hU => ⟨(g7 U hU).1, fun a ha => ⟨(gv U hU a ha).1, (gv U hU a ha).2.1⟩⟩⟩
            have memx : ∀ y, y ∈ D.2.1 ++ [x] → y ∈ D.2.1 ∨ y = x := fun y hy => by
              rcases List.mem_append.mp hy with z | z
              · exact Or.inl z
              · exact Or.inr (List.mem_singleton.mp z)
            refine pk_i (t := t) (n := n) i1 i2 i3 (by show N + 1 = (((D.2.1 ++ [x]).length : Nat) : Int); rw [len_s]; omega) (by show (D.2.1 ++ [x]).length ≤ 40; rw [List.length_append]; show D.2.1.length + 1 ≤ 40; omega) i6 (fun y hy => ?_) (fun y y' hy hy' hne U U' hU hU' a a' ha ha' => ?_) i9 (fun _ => ⟨i11.1, fun y hy U hU a ha => ?_⟩)
            · rcases memx y hy with z | z
              · exact kOK_m (i7 y z) (Int.le_refl _) (by show ((D.2.2.length : Nat) : Int) ≤ A.length; omega)
              · rw [z]; exact kx
            · rcases memx y hy with z | z
              · rcases memx y' hy' with z' | z'
                · exact i8 y y' z z' hne U U' hU hU' a a' ha ha'
                · subst z'
                  have q := (i11.2 y z U hU a ha).1 (by have := (i7 y z).1; omega)
                  have q' := (gv U' hU' a' ha').2.2
                  omega
              · rcases memx y' hy' with z' | z'
                · subst z
                  have q := (i11.2 y' z' U' hU' a' ha').1 (by have := (i7 y' z').1; omega)
                  have q' := (gv U hU a ha).2.2
                  omega
                · rw [z, z'] at hne
                  exact absurd rfl hne
            · rcases memx y hy with z | z
              · exact i11.2 y z U hU a ha
              · subst z
                exact ⟨fun w => by omega, fun _ => (gv U hU a ha).2.2⟩
        · split at h
          · cases h
          · split at h
            · obtain ⟨_, _, e⟩ := pgo_i h
              subst e
              exact pk_i (t := t) (n := n) i1 i2 i3 i4 i5 i6 i7 i8 i9 (fun z => absurd z (by decide))
            · split at h
              · cases h
              · injection h with h
                cases h
theorem pkS_D {t : Int → Int} {n : Int} {c : pkC} {D : dT} (h : pkS t n c = some (.inr D)) (hI : pkI c) : dOK D := by
  obtain ⟨m, L, D0, M, O, V, N, j⟩ := c
  obtain ⟨i1, i2, i3, i4, i5, i6, i7, i8, i9, i10⟩ := hI
  dsimp only at i1 i2 i3 i4 i5 i6 i7 i8 i9 i10
  have no : ∀ (a b : Int) (x : pkC), ¬ pgo a b x = some (.inr D) := by
    intro a b x z
    unfold pgo at z
    split at z
    · injection z with z
      cases z
    · cases z
  unfold pkS at h
  dsimp only at h
  split at h
  · split at h
    · split at h
      · cases h
      · exact absurd h (no _ _ _)
    · injection h with h
      cases h
  · split at h
    · split at h
      · cases h
      · exact absurd h (no _ _ _)
    · split at h
      · split at h
        · split at h
          · cases h
          · exact absurd h (no _ _ _)
        · injection h with h
          cases h
      · split at h
        · split at h
          · cases h
          · exact absurd h (no _ _ _)
        · split at h
          · cases h
          · split at h
            · exact absurd h (no _ _ _)
            · split at h
              · cases h
              · rename_i b C hp
                injection h with h
                injection h with h
                subst h
                obtain ⟨j1, j2, hx⟩ := pTarget_i hp
                exact ⟨(), i3, i5, i6, i7, i8, yex_ok i1 hx, i9⟩
theorem pkF_D {t : Int → Int} {n : Int} {D : dT} : ∀ (f : Nat) (c : pkC), pkF t n f c = some D → pkI c → pk3 c → dOK D := by
  intro f
  induction f with
  | zero => intro c h; cases h
  | succ f ih =>
    intro c h hI h3
    rw [pkF_e] at h
    split at h
    · cases h
    · rename_i b hs
      injection h with h
      subst h
      exact pkS_D hs hI
    · rename_i c' hs
      exact ih c' h (pkS_I hs hI h3) (pkS_m hs h3).2
theorem pText_ok {t : Int → Int} {n : Int} {D : dT} (h : pText t n = some D) : dOK D := by
  unfold pText at h
  split at h
  · split at h
    · cases h
    · split at h
      · cases h
      · rename_i a ha
        unfold pk at h
        refine pkF_D _ _ h ?_ ⟨show (0 : Int) ≤ 0 by decide, show (0 : Int) ≤ 3 by decide⟩
        exact pk_i (t := t) (n := n) (fun e he => by cases he) rfl (by decide) rfl (by decide) (by decide) (fun x hx => by cases hx) (fun c c' hc => by cases hc) (fun x hx => by cases hx) (fun z => absurd z (by decide))
  · cases h
