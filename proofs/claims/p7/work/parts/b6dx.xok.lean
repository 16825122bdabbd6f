/-! what exploring gives is in order -/
/-- CHOICES' first OUTCOMES are OUTCOMES' numbers or their count -/
def xOK (X : qX) : Prop := ∃ _ : Unit, ∀ x : Int, x ∈ X.2.2 → 0 ≤ x ∧ x ≤ (X.2.1.length : Int)
def yOK (Y : qY) : Prop := ∃ _ : Unit, xOK Y.1 ∧ ∀ x : Int, x ∈ Y.2.1 → 0 ≤ x ∧ x ≤ (Y.1.2.2.length : Int)
section XOK
variable {V : qVs} {K : List dC} {r : List Int} {A : dU} {f M n s : Nat} {X X' : qX} {F : Nat → dU} {T : List Nat} {D : dT} {Y Y' : qY}
theorem qre_w {E : List Int} {t : Nat} : E.length ≤ (qre E f t).length := by
  unfold qre
  split
  · exact Nat.le_refl _
  · rw [List.length_append]; omega
theorem qO_w (h : qO V r A f X = .inr X') : X'.2.2 = X.2.2 ∧ X.2.1.length ≤ X'.2.1.length := by
  rw [qO_i h]
  exact ⟨rfl, qre_w⟩
theorem qW_w : ∀ (n w : Nat) (X : qX), qW V r F f n w X = .inr X' → X'.2.2 = X.2.2 ∧ X.2.1.length ≤ X'.2.1.length := by
  intro n
  induction n with
  | zero => intro w X h; injection h with h; rw [← h]; exact ⟨rfl, Nat.le_refl _⟩
  | succ n ih =>
    intro w X h
    cases hq : qO V r (F w) f X with
    | inl e => rw [qW_n hq] at h; cases h
    | inr Y =>
      rw [qW_s hq] at h
      have a := ih _ Y h
      have b := qO_w hq
      exact ⟨a.1.trans b.1, Nat.le_trans b.2 a.2⟩
theorem qC_w (h : qC V K r T X = .inr X') (hx : xOK X) : xOK X' ∧ X.2.2.length ≤ X'.2.2.length := by
  unfold qC at h
  split at h
  · cases h
  · have a := qW_w _ _ _ h
    have a1 : X'.2.2 = X.2.2 ++ [(X.2.1.length : Int)] := a.1
    have a2 : X.2.1.length ≤ X'.2.1.length := a.2
    refine ⟨⟨(), fun x hm => ?_⟩, ?_⟩
    · rw [a1] at hm
      rcases List.mem_append.mp hm with m | m
      · have := hx.elim fun _ hx => hx x m
        omega
      · have := List.mem_singleton.mp m
        omega
    · rw [a1, List.length_append]; omega
theorem qL_w : ∀ (l : List (List Nat)) (X : qX), qL V K r l X = .inr X' → xOK X → xOK X' ∧ X.2.2.length ≤ X'.2.2.length := by
  intro l
  induction l with
  | nil => intro X h hx; injection h with h; rw [← h]; exact ⟨hx, Nat.le_refl _⟩
  | cons T l ih =>
    intro X h hx
    cases hq : qC V K r T X with
    | inl e => rw [qL_n hq] at h; cases h
    | inr Y =>
      rw [qL_s hq] at h
      have b := qC_w hq hx
      have a := ih Y h b.1
      exact ⟨a.1, Nat.le_trans b.2 a.2⟩
theorem qA_w (h : qA V K M n r X = .inr X') (hx : xOK X) : xOK X' ∧ X.2.2.length ≤ X'.2.2.length := by
  cases h1 : qL V K r ((qsg K (qen K r)).map (fun k => [k])) X with
  | inl e => rw [qA_1 h1] at h; cases h
  | inr X1 =>
    have a := qL_w _ _ h1 hx
    cases h2 : qL V K r (qjt K (qen K r) M n) X1 with
    | inl e => rw [qA_2 h1 h2] at h; cases h
    | inr X2 =>
      have b := qL_w _ _ h2 a.1
      rw [qA_3 h1 h2] at h
      unfold qst at h
      split at h
      · have c := qC_w h b.1
        exact ⟨c.1, Nat.le_trans a.2 (Nat.le_trans b.2 c.2)⟩
      · injection h with h
        rw [← h]
        exact ⟨b.1, Nat.le_trans a.2 b.2⟩
theorem qSt_w (h : qSt D s Y = .inr Y') (hy : yOK Y) : yOK Y' := by
  obtain ⟨_, hx, hf⟩ := hy
  unfold qSt at h
  split at h
  · split at h
    · cases h
    · rename_i X hX
      have a := qA_w hX hx
      injection h with h
      rw [← h]
      refine ⟨(), a.1, fun x hm => ?_⟩
      have a2 := a.2
      show 0 ≤ x ∧ x ≤ (X.2.2.length : Int)
      rcases List.mem_append.mp hm with m | m
      · have := hf x m
        omega
      · have := List.mem_singleton.mp m
        omega
  · cases h
theorem qE_w : ∀ (f s : Nat) (Y : qY), qE D f s Y = .inr Y' → yOK Y → yOK Y' := by
  intro f
  induction f with
  | zero => intro s Y h hy; injection h with h; rw [← h]; exact hy
  | succ f ih =>
    intro s Y h hy
    unfold qE at h
    split at h
    · split at h
      · cases h
      · rename_i Y1 h1
        exact ih _ _ h (qSt_w h1 hy)
    · injection h with h
      rw [← h]
      exact hy
theorem qEx_ok (h : qEx D = .inr Y) : yOK Y := qE_w _ _ _ h ⟨(), ⟨(), fun x hm => (by cases hm)⟩, fun x hm => (by cases hm)⟩
end XOK
/-- where a STATE's CHOICES, a CHOICE's OUTCOMES begin; where an OUTCOME leads -/
def fcv (Y : qY) (i : Int) : Int := if i.toNat < Y.2.1.length then Y.2.1.getD i.toNat 0 else (Y.1.2.2.length : Int)
def fov (Y : qY) (i : Int) : Int := if i.toNat < Y.1.2.2.length then Y.1.2.2.getD i.toNat 0 else (Y.1.2.1.length : Int)
def rcv (Y : qY) (i : Int) : Int := Y.1.2.1.getD i.toNat 0
section FCV
variable {Y : qY} {A : Int → Int} {n m i : Int} {L : List Int}
theorem lsA_d (h : lsA A n L) (h0 : 0 ≤ i) (h1 : i < n) : A i = L.getD i.toNat 0 := by
  have hn := lsA_n h
  have l : i.toNat < L.length := by omega
  have q := lsA_at h (List.getElem?_eq_getElem l)
  rw [show ((i.toNat : Nat) : Int) = i by omega] at q
  rw [q, List.getD_eq_getElem?_getD, List.getElem?_eq_getElem l]
  rfl
theorem fcv_a (h : lsA A n Y.2.1) (he : A n = m) (hm : m = (Y.1.2.2.length : Int)) (h0 : 0 ≤ i) (h1 : i ≤ n) : A i = fcv Y i := by
  have hn := lsA_n h
  unfold fcv
  by_cases c : i.toNat < Y.2.1.length
  · rw [if_pos c]
    exact lsA_d h h0 (by omega)
  · rw [if_neg c, show i = n by omega, he, hm]
theorem fov_a (h : lsA A n Y.1.2.2) (he : A n = m) (hm : m = (Y.1.2.1.length : Int)) (h0 : 0 ≤ i) (h1 : i ≤ n) : A i = fov Y i := by
  have hn := lsA_n h
  unfold fov
  by_cases c : i.toNat < Y.1.2.2.length
  · rw [if_pos c]
    exact lsA_d h h0 (by omega)
  · rw [if_neg c, show i = n by omega, he, hm]
theorem rcv_a (h : lsA A n Y.1.2.1) (h0 : 0 ≤ i) (h1 : i < n) : A i = rcv Y i := lsA_d h h0 h1
theorem getD_b {b : Int} (h : ∀ x : Int, x ∈ L → 0 ≤ x ∧ x ≤ b) {k : Nat} (hk : k < L.length) : 0 ≤ L.getD k 0 ∧ L.getD k 0 ≤ b := by
  have e : L.getD k 0 = L[k] := by
    rw [List.getD_eq_getElem?_getD, List.getElem?_eq_getElem hk]
    rfl
  rw [e]
  exact h _ (List.getElem_mem hk)
theorem fcv_b (h : yOK Y) : 0 ≤ fcv Y i ∧ fcv Y i ≤ (Y.1.2.2.length : Int) := by
  unfold fcv
  by_cases c : i.toNat < Y.2.1.length
  · rw [if_pos c]
    exact getD_b (h.elim fun _ h => h.2) c
  · rw [if_neg c]
    omega
theorem fov_b (h : yOK Y) : 0 ≤ fov Y i ∧ fov Y i ≤ (Y.1.2.1.length : Int) := by
  unfold fov
  by_cases c : i.toNat < Y.1.2.2.length
  · rw [if_pos c]
    exact getD_b (h.elim fun _ h => h.1.elim fun _ h => h) c
  · rw [if_neg c]
    omega
end FCV
/-- the OUTCOME is there -/
def oin (Y : qY) (s c o : Int) : Prop := 0 ≤ s ∧ s < (Y.1.1.length : Int) ∧ 0 ≤ c ∧ c < fcv Y (s + 1) - fcv Y s ∧ 0 ≤ o ∧ o < fov Y (fcv Y s + c + 1) - fov Y (fcv Y s + c)
def oto (Y : qY) (s c o : Int) : Int := rcv Y (fov Y (fcv Y s + c) + o)
/-- by arrays that hold what was found -/
def oar (fc fo : Int → Int) (n s c o : Int) : Prop := 0 ≤ s ∧ s < n ∧ 0 ≤ c ∧ c < fc (s + 1) - fc s ∧ 0 ≤ o ∧ o < fo (fc s + c + 1) - fo (fc s + c)
theorem oin_a {Y : qY} {fc fo go : Int → Int} {n nc oc s c o : Int} (hy : yOK Y) (hn : n = (Y.1.1.length : Int)) (h1 : lsA fc n Y.2.1) (h2 : lsA fo nc Y.1.2.2) (h3 : lsA go oc Y.1.2.1) (e1 : 0 < n → fc n = nc) (e2 : 0 < nc → fo nc = oc) : (oar fc fo n s c o ↔ oin Y s c o) ∧ (oin Y s c o → go (fo (fc s + c) + o) = oto Y s c o) := by
  have m2 := lsA_n h2
  have m3 := lsA_n h3
  by_cases a : 0 ≤ s ∧ s < n
  · have f1 := fcv_a h1 (e1 (by omega)) m2 (i := s) (by omega) (by omega)
    have f2 := fcv_a h1 (e1 (by omega)) m2 (i := s + 1) (by omega) (by omega)
    have b1 := fcv_b hy (i := s)
    have b2 := fcv_b hy (i := s + 1)
    by_cases b : 0 ≤ c ∧ c < fcv Y (s + 1) - fcv Y s
    · have g1 := fov_a h2 (e2 (by omega)) m3 (i := fcv Y s + c) (by omega) (by omega)
      have g2 := fov_a h2 (e2 (by omega)) m3 (i := fcv Y s + c + 1) (by omega) (by omega)
      have d1 := fov_b hy (i := fcv Y s + c)
      have d2 := fov_b hy (i := fcv Y s + c + 1)
      constructor
      · unfold oar oin
        rw [f1, f2, g1, g2, hn]
      · rintro ⟨_, _, _, _, o1, o2⟩
        unfold oto
        rw [f1, g1]
        exact rcv_a h3 (by omega) (by omega)
    · constructor
      · unfold oar oin
        rw [f1, f2]
        constructor
        · rintro ⟨_, _, c1, c2, _⟩
          exact absurd ⟨c1, c2⟩ b
        · rintro ⟨_, _, c1, c2, _⟩
          exact absurd ⟨c1, c2⟩ b
      · rintro ⟨_, _, c1, c2, _⟩
        exact absurd ⟨c1, c2⟩ b
  · constructor
    · constructor
      · rintro ⟨a1, a2, _⟩
        exact absurd ⟨a1, a2⟩ a
      · rintro ⟨a1, a2, _⟩
        exact absurd ⟨a1, by omega⟩ a
    · rintro ⟨a1, a2, _⟩
      exact absurd ⟨a1, by omega⟩ a
