/-! what a description keeps; COMMANDS in the class's arrays, looked up -/
def adj (l : dU) : Prop := l.Pairwise (fun a b => ¬ a.1 = b.1)
/-- a COMMAND in order -/
def kOK (V : qVs) (M nA : Int) (c : dC) : Prop := (0 ≤ c.1 ∧ c.1 < M) ∧ (-1 ≤ c.2.1 ∧ c.2.1 < nA) ∧ yTd V 2 c.2.2.1 ∧ (1 ≤ c.2.2.2.length ∧ c.2.2.2.length ≤ 6) ∧ ∀ U, U ∈ c.2.2.2 → adj U ∧ ∀ a, a ∈ U → (0 ≤ a.1 ∧ a.1 < V.length) ∧ ∃ x, yTd V x a.2
/-- COMMANDS of different MODULES change different variables -/
def kDJ (K : List dC) : Prop := ∀ c c', c ∈ K → c' ∈ K → ¬ c.1 = c'.1 → ∀ U U', U ∈ c.2.2.2 → U' ∈ c'.2.2.2 → ∀ a a', a ∈ U → a' ∈ U' → ¬ a.1 = a'.1
def dOK (D : dT) : Prop := ∃ _ : Unit, D.2.1.1.length ≤ 8 ∧ D.2.1.2.1.length ≤ 40 ∧ (0 ≤ D.2.2.1 ∧ D.2.2.1 ≤ 3) ∧ (∀ c, c ∈ D.2.1.2.1 → kOK D.2.1.1 D.2.2.1 D.2.1.2.2.length c) ∧ kDJ D.2.1.2.1 ∧ yTd D.2.1.1 2 D.2.2.2 ∧ ∀ x, x ∈ D.2.1.1 → x.1 ≤ x.2.2 ∧ x.2.2 ≤ x.2.1
theorem dOK_m {D : dT} (h : dOK D) : 0 ≤ D.2.2.1 ∧ D.2.2.1 ≤ 3 := h.elim fun _ h => h.2.2.1
/-- COMMANDS that are taken together -/
def tOK (K : List dC) (T : List Nat) : Prop := (∀ k, k ∈ T → k < K.length) ∧ T.Pairwise (fun a b => ¬ (qcm K a).1 = (qcm K b).1) ∧ T.length ≤ 3
theorem qcm_at {K : List dC} {k : Nat} (h : k < K.length) : K[k]? = some (qcm K k) ∧ qcm K k ∈ K := by
  have e : qcm K k = K[k] := by
    unfold qcm
    rw [List.getD_eq_getElem?_getD, List.getElem?_eq_getElem h]
    rfl
  exact ⟨by rw [List.getElem?_eq_getElem h, e], by rw [e]; exact List.getElem_mem h⟩
theorem qup_get {K : List dC} {T : List Nat} {p k : Nat} (h : T[p]? = some k) : (qup K T)[p]? = some (qcm K k).2.2.2 := by
  unfold qup
  rw [List.getElem?_map, h]
  rfl
theorem qup_len {K : List dC} {T : List Nat} : (qup K T).length = T.length := List.length_map ..
/-- the UPDATE of one that is taken -/
def qui (K : List dC) (T : List Nat) (w p k : Nat) : Nat := w / mxp ((qup K T).drop (p + 1)) % (qcm K k).2.2.2.length
section QU
variable {V : qVs} {K : List dC} {T : List Nat} {M nA : Int} {w p k : Nat}
theorem mxs_up (h : T[p]? = some k) : (mxs [] (qup K T) w)[p]? = some ((qcm K k).2.2.2.getD (qui K T w p k) []) := mxs_get (qup K T) p (qup_get h)
theorem qui_lt (hK : ∀ c, c ∈ K → kOK V M nA c) (hk : k < K.length) : qui K T w p k < (qcm K k).2.2.2.length := by
  have h := (hK _ (qcm_at hk).2).2.2.2.1
  exact Nat.mod_lt _ (by omega)
theorem upd_get (hK : ∀ c, c ∈ K → kOK V M nA c) (hk : k < K.length) : (qcm K k).2.2.2[qui K T w p k]? = some ((qcm K k).2.2.2.getD (qui K T w p k) []) ∧ (qcm K k).2.2.2.getD (qui K T w p k) [] ∈ (qcm K k).2.2.2 := by
  have l := qui_lt (T := T) (w := w) (p := p) hK hk
  have e : (qcm K k).2.2.2.getD (qui K T w p k) [] = (qcm K k).2.2.2[qui K T w p k] := by
    rw [List.getD_eq_getElem?_getD, List.getElem?_eq_getElem l]
    rfl
  exact ⟨by rw [List.getElem?_eq_getElem l, e], by rw [e]; exact List.getElem_mem l⟩
theorem mxs_mem (hK : ∀ c, c ∈ K → kOK V M nA c) : ∀ (T : List Nat), (∀ k, k ∈ T → k < K.length) → ∀ U, U ∈ mxs [] (qup K T) w → ∃ k, k ∈ T ∧ U ∈ (qcm K k).2.2.2 := by
  intro T
  induction T with
  | nil => intro _ U hU; cases hU
  | cons k T ih =>
    intro h U hU
    have hk := h k List.mem_cons_self
    have e : mxs [] (qup K (k :: T)) w = (qcm K k).2.2.2.getD (w / mxp (qup K T) % (qcm K k).2.2.2.length) [] :: mxs [] (qup K T) w := rfl
    rw [e] at hU
    rcases List.mem_cons.mp hU with z | z
    · refine ⟨k, List.mem_cons_self, ?_⟩
      have q := (upd_get (T := k :: T) (w := w) (p := 0) hK hk).2
      rw [z]
      exact q
    · obtain ⟨k', h1, h2⟩ := ih (fun k' h' => h k' (List.mem_cons_of_mem _ h')) U z
      exact ⟨k', List.mem_cons_of_mem _ h1, h2⟩
theorem qas_adj (hK : ∀ c, c ∈ K → kOK V M nA c) (hD : kDJ K) : ∀ (T : List Nat), (∀ k, k ∈ T → k < K.length) → T.Pairwise (fun a b => ¬ (qcm K a).1 = (qcm K b).1) → adj (qas K T w) := by
  intro T
  induction T with
  | nil => intro _ _; exact List.Pairwise.nil
  | cons k T ih =>
    intro h hp
    have hk := h k List.mem_cons_self
    have hT : ∀ k', k' ∈ T → k' < K.length := fun k' h' => h k' (List.mem_cons_of_mem _ h')
    have hp := List.pairwise_cons.mp hp
    have q := (upd_get (T := k :: T) (w := w) (p := 0) hK hk).2
    have e : qas K (k :: T) w = (qcm K k).2.2.2.getD (qui K (k :: T) w 0 k) [] ++ qas K T w := by
      show (mxs [] (qup K (k :: T)) w).flatten = _
      have e : mxs [] (qup K (k :: T)) w = (qcm K k).2.2.2.getD (qui K (k :: T) w 0 k) [] :: mxs [] (qup K T) w := rfl
      rw [e, List.flatten_cons]
      rfl
    rw [e]
    refine List.pairwise_append.mpr ⟨((hK _ (qcm_at hk).2).2.2.2.2 _ q).1, ih hT hp.2, fun a ha b hb => ?_⟩
    obtain ⟨U, hU, hb⟩ := List.mem_flatten.mp hb
    obtain ⟨k', h1, h2⟩ := mxs_mem hK T hT U hU
    exact hD _ _ (qcm_at hk).2 (qcm_at (hT k' h1)).2 (hp.1 k' h1) _ _ q h2 a b ha hb
end QU
/-- what is taken of a way from party p on -/
theorem us_drop {us : List dU} {p : Nat} {U : dU} (h : us[p]? = some U) : (us.drop p).flatten = U ++ (us.drop (p + 1)).flatten := by
  have l := (List.getElem?_eq_some_iff.mp h).1
  have e := (List.getElem?_eq_some_iff.mp h).2
  rw [List.drop_eq_getElem_cons l, e, List.flatten_cons]
theorem us_adj {us : List dU} {p i : Nat} {U : dU} {a : Int × yC} (hA : adj us.flatten) (h : us[p]? = some U) (hi : U[i]? = some a) : ∀ b, b ∈ U.take i ++ (us.drop (p + 1)).flatten → ¬ b.1 = a.1 := by
  have l := (List.getElem?_eq_some_iff.mp hi).1
  have e := (List.getElem?_eq_some_iff.mp hi).2
  have h1 : us.flatten = (us.take p).flatten ++ (us.drop p).flatten := by rw [← List.flatten_append, List.take_append_drop]
  unfold adj at hA
  rw [h1, us_drop h] at hA
  have h2 := (List.pairwise_append.mp hA).2.1
  have h3 : U = U.take i ++ a :: U.drop (i + 1) := by
    rw [← e, ← List.drop_eq_getElem_cons l, List.take_append_drop]
  rw [h3, List.append_assoc, List.cons_append] at h2
  obtain ⟨_, h5, h6⟩ := List.pairwise_append.mp h2
  have h7 := List.pairwise_cons.mp h5
  intro b hb
  rcases List.mem_append.mp hb with z | z
  · exact h6 b z a List.mem_cons_self
  · exact fun q => h7.1 b (List.mem_append_right _ z) q.symm
theorem us_step {us : List dU} {p i : Nat} {U : dU} {a : Int × yC} (hi : U[i]? = some a) : ∀ b, b ∈ U.take (i + 1) ++ (us.drop (p + 1)).flatten ↔ b = a ∨ b ∈ U.take i ++ (us.drop (p + 1)).flatten := by
  have l := (List.getElem?_eq_some_iff.mp hi).1
  have e := (List.getElem?_eq_some_iff.mp hi).2
  have h : U.take (i + 1) = U.take i ++ [a] := by rw [List.take_succ_eq_append_getElem l, e]
  intro b
  rw [h]
  simp only [List.mem_append, List.mem_singleton]
  constructor
  · rintro ((z | z) | z)
    · exact Or.inr (Or.inl z)
    · exact Or.inl z
    · exact Or.inr (Or.inr z)
  · rintro (z | z | z)
    · exact Or.inl (Or.inr z)
    · exact Or.inl (Or.inl z)
    · exact Or.inr z
/-! the class's arrays -/
section CK2
variable {op wi sv sc fs fu ho ac gu : Int → Int} {us st up : Int}
theorem cKs_at : ∀ (l : List dC) (k : Int) (i : Nat) (c : dC), cKs op wi sv sc fs fu ho ac gu us st up k l → l[i]? = some c → cK op wi sv sc fs fu ho ac gu us st up (k + i) c := by
  intro l
  induction l with
  | nil => intro k i c _ h; cases h
  | cons x l ih =>
    intro k i c h hi
    cases i with
    | zero =>
      have hi : some x = some c := hi
      injection hi with hi
      subst hi
      rw [show k + ((0 : Nat) : Int) = k by omega]
      exact h.1
    | succ i =>
      rw [show k + ((i + 1 : Nat) : Int) = k + 1 + i by omega]
      exact ih (k + 1) i c h.2 hi
theorem cG_at : ∀ (G : List dU) (u : Int) (i : Nat) (U : dU), cG op wi sv sc fs us st u G → G[i]? = some U → 0 ≤ fs (u + i) ∧ fs (u + i + 1) = fs (u + i) + U.length ∧ fs (u + i + 1) ≤ st ∧ cU op wi sv sc us (fs (u + i)) U := by
  intro G
  induction G with
  | nil => intro u i U _ h; cases h
  | cons x G ih =>
    intro u i U h hi
    cases i with
    | zero =>
      have hi : some x = some U := hi
      injection hi with hi
      subst hi
      rw [show u + ((0 : Nat) : Int) = u by omega]
      exact ⟨h.1, h.2.1, h.2.2.1, h.2.2.2.1⟩
    | succ i =>
      rw [show u + ((i + 1 : Nat) : Int) = u + 1 + i by omega]
      exact ih (u + 1) i U h.2.2.2.2 hi
theorem cU_at : ∀ (U : dU) (f : Int) (i : Nat) (v : Int) (C : yC), cU op wi sv sc us f U → U[i]? = some (v, C) → sv (f + i) = v ∧ cdA op wi us (sc (f + i)) C := by
  intro U
  induction U with
  | nil => intro f i v C _ h; cases h
  | cons x U ih =>
    obtain ⟨v0, C0⟩ := x
    intro f i v C h hi
    cases i with
    | zero =>
      have hi : some (v0, C0) = some (v, C) := hi
      injection hi with hi
      injection hi with h1 h2
      subst h1 h2
      rw [show f + ((0 : Nat) : Int) = f by omega]
      exact ⟨h.1, h.2.1⟩
    | succ i =>
      rw [show f + ((i + 1 : Nat) : Int) = f + 1 + i by omega]
      exact ih (f + 1) i v C h.2.2 hi
end CK2
theorem cVs_at {lo hi bg : Int → Int} : ∀ (l : qVs) (v : Int) (i : Nat) (x : Int × Int × Int), cVs lo hi bg v l → l[i]? = some x → lo (v + i) = x.1 ∧ hi (v + i) = x.2.1 ∧ bg (v + i) = x.2.2 := by
  intro l
  induction l with
  | nil => intro v i x _ h; cases h
  | cons y l ih =>
    intro v i x h h'
    cases i with
    | zero =>
      have h' : some y = some x := h'
      injection h' with h'
      subst h'
      rw [show v + ((0 : Nat) : Int) = v by omega]
      exact ⟨h.1, h.2.1, h.2.2.1⟩
    | succ i =>
      rw [show v + ((i + 1 : Nat) : Int) = v + 1 + i by omega]
      exact ih (v + 1) i x h.2.2.2 h'
theorem cVs_q {lo hi bg : Int → Int} {V : qVs} {v : Int} (h : cVs lo hi bg 0 V) (h0 : 0 ≤ v) (h1 : v < V.length) : lo v = qlo V v ∧ hi v = qhi V v := by
  have l : v.toNat < V.length := by omega
  have e := cVs_at V 0 v.toNat _ h (List.getElem?_eq_getElem l)
  rw [show (0 : Int) + ((v.toNat : Nat) : Int) = v by omega] at e
  have q : V.getD v.toNat (0, 0, 0) = V[v.toNat] := by
    rw [List.getD_eq_getElem?_getD, List.getElem?_eq_getElem l]
    rfl
  unfold qlo qhi
  rw [q]
  exact ⟨e.1, e.2.1⟩
theorem cVs_in {lo hi bg : Int → Int} {V : qVs} (h : cVs lo hi bg 0 V) : V.map (fun x => x.2.2) = rowL bg 0 V.length := by
  refine List.ext_getElem? (fun i => ?_)
  by_cases c : i < V.length
  · have e := cVs_at V 0 i _ h (List.getElem?_eq_getElem c)
    rw [rowL_get c, List.getElem?_map, List.getElem?_eq_getElem c, e.2.2]
    rfl
  · rw [List.getElem?_eq_none (by rw [List.length_map]; omega), List.getElem?_eq_none (by rw [rowL_len]; omega)]
