/-! rows and lists in arrays; ways -/
def rowL (A : Int → Int) (b : Int) (n : Nat) : List Int := (List.range n).map (fun (i : Nat) => A (b + (i : Int)))
section RW
variable {A A' : Int → Int} {b b' v : Int} {n i : Nat}
theorem rowL_len : (rowL A b n).length = n := by
  unfold rowL
  rw [List.length_map, List.length_range]
theorem rowL_get (h : i < n) : (rowL A b n)[i]? = some (A (b + (i : Int))) := by
  unfold rowL
  rw [List.getElem?_map, List.getElem?_range h]
  rfl
theorem rowL_getD (h : i < n) : (rowL A b n).getD i 0 = A (b + (i : Int)) := by
  rw [List.getD_eq_getElem?_getD, rowL_get h]
  rfl
theorem qnow_row (h0 : 0 ≤ v) (h1 : v < n) : qnow (rowL A b n) v = A (b + v) := by
  unfold qnow
  rw [if_pos h0, rowL_getD (by omega), Int.toNat_of_nonneg h0]
theorem rowL_ext (h : ∀ i : Nat, i < n → A (b + (i : Int)) = A' (b' + (i : Int))) : rowL A b n = rowL A' b' n := by
  unfold rowL
  exact List.map_congr_left (fun i hi => h i (List.mem_range.mp hi))
theorem rowL_inj (h : rowL A b n = rowL A' b' n) : ∀ i : Nat, i < n → A (b + (i : Int)) = A' (b' + (i : Int)) := by
  intro i hi
  have q := congrArg (fun l : List Int => l[i]?) h
  (try dsimp only at q)
  rw [rowL_get hi, rowL_get hi] at q
  injection q
end RW
theorem nat_em (a b : Nat) : ((a % b : Nat) : Int) = (a : Int) % (b : Int) := by
  first | rfl | exact Int.natCast_emod a b | exact Int.natCast_mod a b | simp
theorem nat_dv (a b : Nat) : ((a / b : Nat) : Int) = (a : Int) / (b : Int) := by
  first | rfl | exact Int.natCast_ediv a b | exact Int.natCast_div a b | simp
/-- code that reads no other variables says the same -/
theorem yev_ag {C : yC} {now now' : Int → Int} (h : ∀ (k : Nat) (o v : Int), C[k]? = some (o, v) → o = 2 → now v = now' v) : ∀ (f k : Nat) (st : List Int), yev C now f k st = yev C now' f k st := by
  intro f
  induction f with
  | zero => intro k st; rfl
  | succ f ih =>
    intro k st
    cases hg : C[k]? with
    | none =>
      show (match C[k]? with | none => st.head? | some (o, v) => _) = (match C[k]? with | none => st.head? | some (o, v) => _)
      rw [hg]
    | some ov =>
      obtain ⟨o, v⟩ := ov
      rw [ye_o hg, ye_o hg]
      by_cases h2 : o = 2
      · have e := h k o v hg h2
        simp only [ih, e]
      · simp only [ih, if_neg h2]
/-- which variables code may read at which TYPE -/
def qB (V : qVs) (v a : Int) : Prop := 0 ≤ v ∧ v < V.length ∧ (a = 2 → qlo V v = 0 ∧ qhi V v = 1)
def yTd (V : qVs) (x : Int) (C : yC) : Prop := ∃ D, yTI (qB V) D [x] C []
theorem yTd_v {V : qVs} {x : Int} {C : yC} (h : yTd V x C) (k : Nat) (o v : Int) (hc : C[k]? = some (o, v)) (ho : o = 2) : 0 ≤ v ∧ v < V.length := by
  obtain ⟨D, h⟩ := h
  have z := h.2.2.1 k o v hc
  unfold yok at z
  rcases z with ⟨z, -⟩ | ⟨z, a, z1, z2, z3⟩ | ⟨z, -⟩ | ⟨z, -⟩ | ⟨z, -⟩ | ⟨z, -⟩ | ⟨z, -⟩ | ⟨z, -⟩ | ⟨z, -⟩
  · omega
  · exact ⟨z2.1, z2.2.1⟩
  · omega
  · omega
  · omega
  · omega
  · omega
  · omega
  · omega
/-- the class's run over a row is what the code says -/
theorem qv_run {op wi A st : Int → Int} {us g b x : Int} {C : yC} {V : qVs} {r : List Int} (hc : cdA op wi us g C) (ht : yTd V x C) (hr : r = rowL A b V.length) (hV : V.length ≤ 8) (hb : 0 ≤ b ∧ b ≤ 184) : cRi op wi (nwL A b 192) us 0 g 1 st = qval C r := by
  have ht0 := ht
  obtain ⟨D, ht⟩ := ht
  obtain ⟨_, c1, c2, c3, c4⟩ := hc
  have e := cR_yev (lo := nwL A b 192) (used := us) ht c3 c4 c2 c1 1501 0 0 [] st 1 rfl (Nat.zero_le _) (by rw [ht.1]) rfl trivial
  rw [show g + ((0 : Nat) : Int) = g by omega] at e
  rw [e]
  unfold qval
  refine yev_ag (fun k o v hk ho => ?_) _ _ _
  have q := yTd_v ht0 k o v hk ho
  rw [hr, qnow_row q.1 q.2]
  unfold nwL
  exact if_pos (by omega)
/-- a list in an array -/
def lsA (A : Int → Int) (n : Int) (L : List Int) : Prop := ∃ _ : Unit, n = L.length ∧ ∀ (i : Nat) (x : Int), L[i]? = some x → A i = x
section LS
variable {A A' : Int → Int} {n m x : Int} {L : List Int} {i : Nat}
theorem lsA_n (h : lsA A n L) : n = L.length := h.elim fun _ h => h.1
theorem lsA_0 : lsA A 0 [] := ⟨(), rfl, fun i x h => by cases h⟩
theorem lsA_at (h : lsA A n L) (hi : L[i]? = some x) : A i = x := h.elim fun _ h => h.2 i x hi
theorem lsA_f (h : lsA A n L) (hf : ∀ i : Int, 0 ≤ i → i < n → A' i = A i) : lsA A' n L := by
  obtain ⟨_, h1, h2⟩ := h
  refine ⟨(), h1, fun i x hi => ?_⟩
  have l := (List.getElem?_eq_some_iff.mp hi).1
  rw [hf i (by omega) (by omega)]
  exact h2 i x hi
theorem lsA_u (h : lsA A n L) (hm : n ≤ m) : lsA (hw_up A m x) n L := lsA_f h (fun i _ h1 => hw_up_n (by omega))
theorem lsA_s (h : lsA A n L) (hm : m = n + 1) : lsA (hw_up A n x) m (L ++ [x]) := by
  have hn := lsA_n h
  subst hm
  refine ⟨(), by rw [len_s]; omega, fun i y hi => ?_⟩
  by_cases c : i < L.length
  · rw [List.getElem?_append_left c] at hi
    rw [hw_up_n (by omega)]
    exact lsA_at h hi
  · have l := (List.getElem?_eq_some_iff.mp hi).1
    rw [List.length_append] at l
    have l : i < L.length + 1 := l
    have e2 : i = L.length := by omega
    subst e2
    rw [List.getElem?_append_right (Nat.le_refl _), Nat.sub_self] at hi
    injection hi with hi
    subst hi
    rw [← hn, hw_up_s]
end LS
/-- rows in an array, eight cells each -/
def rwA (nv : Nat) (A : Int → Int) (n : Int) (R : List (List Int)) : Prop := ∃ _ : Unit, n = R.length ∧ ∀ (t : Nat) (r : List Int), R[t]? = some r → r = rowL A (8 * (t : Int)) nv
section RWA
variable {A A' : Int → Int} {n m x : Int} {R : List (List Int)} {i nv : Nat} {r : List Int}
theorem rwA_n (h : rwA nv A n R) : n = R.length := h.elim fun _ h => h.1
theorem rwA_at (h : rwA nv A n R) (hi : R[i]? = some r) : r = rowL A (8 * (i : Int)) nv := h.elim fun _ h => h.2 i r hi
theorem rwA_l (h : rwA nv A n R) (hi : R[i]? = some r) : r.length = nv := by
  rw [rwA_at h hi]
  exact rowL_len
theorem rwA_f (h : rwA nv A n R) (hv : nv ≤ 8) (hf : ∀ i : Int, 0 ≤ i → i < 8 * n → A' i = A i) : rwA nv A' n R := by
  obtain ⟨_, h1, h2⟩ := h
  refine ⟨(), h1, fun t r hi => ?_⟩
  have l := (List.getElem?_eq_some_iff.mp hi).1
  rw [h2 t r hi]
  exact rowL_ext (fun i hi => (hf _ (by omega) (by omega)).symm)
theorem rwA_s (h : rwA nv A n R) (hr : r = rowL A (8 * n) nv) (hm : m = n + 1) : rwA nv A m (R ++ [r]) := by
  have hn := rwA_n h
  subst hm
  refine ⟨(), by rw [len_s]; omega, fun i y hi => ?_⟩
  by_cases c : i < R.length
  · rw [List.getElem?_append_left c] at hi
    exact rwA_at h hi
  · have l := (List.getElem?_eq_some_iff.mp hi).1
    rw [List.length_append] at l
    have l : i < R.length + 1 := l
    have e2 : i = R.length := by omega
    subst e2
    rw [List.getElem?_append_right (Nat.le_refl _), Nat.sub_self] at hi
    injection hi with hi
    rw [← hi, hr, hn]
end RWA
/-- a row is copied behind the others -/
theorem cpf_in {f g : Int → Int} {s d n q : Int} (h1 : d ≤ q) (h2 : q < d + n) : hw_cpf f g s d n q = f (s + (q - d)) := if_pos ⟨h1, h2⟩
theorem cpf_out {f g : Int → Int} {s d n q : Int} (h : q < d ∨ d + n ≤ q) : hw_cpf f g s d n q = g q := if_neg (by omega)
theorem rwA_cp {A B : Int → Int} {n m d : Int} {R : List (List Int)} {nv : Nat} {r : List Int} (h : rwA nv A n R) (hv : nv ≤ 8) (hr : r = rowL B 0 nv) (hd : d = n * 8) (hm : m = n + 1) (h0 : 0 ≤ n) : rwA nv (hw_cpf B A 0 d 8) m (R ++ [r]) := by
  subst hd
  refine rwA_s (rwA_f h hv (fun i i0 i1 => cpf_out (by omega))) ?_ hm
  rw [hr]
  exact rowL_ext (fun i hi => by rw [cpf_in (by omega) (by omega)]; exact congrArg B (by omega))
theorem rowL_cp {A B : Int → Int} {s b : Int} {nv : Nat} (hv : nv ≤ 8) (hs : s = b) : rowL (hw_cpf A B s 0 8) 0 nv = rowL A b nv := by
  subst hs
  exact rowL_ext (fun i hi => by rw [cpf_in (by omega) (by omega)]; exact congrArg A (by omega))
/-- those that are assigned have their new values, others the old ones -/
def nxA (V : qVs) (r : List Int) (A : dU) (nx : Int → Int) : Prop := ∃ _ : Unit, (∀ a, a ∈ A → qok V r a ∧ qval a.2 r = some (nx a.1)) ∧ ∀ v : Nat, v < V.length → (∀ a, a ∈ A → ¬ a.1 = (v : Int)) → nx v = r.getD v 0
section NX
variable {V : qVs} {r : List Int} {A A' : dU} {nx : Int → Int} {v x : Int} {C : yC}
theorem nxA_0 (h : r = rowL nx 0 V.length) : nxA V r [] nx := ⟨(), fun a ha => (by cases ha), fun v hv _ => by rw [h, rowL_getD hv, Int.zero_add]⟩
theorem nxA_m (h : nxA V r A nx) (hm : ∀ a, a ∈ A' ↔ a ∈ A) : nxA V r A' nx := h.elim fun _ h => ⟨(), fun a ha => h.1 a ((hm a).mp ha), fun v hv hn => h.2 v hv (fun a ha => hn a ((hm a).mpr ha))⟩
theorem nxA_s (h : nxA V r A nx) (hq : qval C r = some x) (h1 : qlo V v ≤ x) (h2 : x ≤ qhi V v) (hn : ∀ a, a ∈ A → ¬ a.1 = v) (hm : ∀ a, a ∈ A' ↔ a = (v, C) ∨ a ∈ A) : nxA V r A' (hw_up nx v x) := by
  obtain ⟨_, a1, a2⟩ := h
  refine ⟨(), fun a ha => ?_, fun w hw hn2 => ?_⟩
  · rcases (hm a).mp ha with e | e
    · subst e
      refine ⟨⟨x, hq, h1, h2⟩, ?_⟩
      rw [hw_up_s]
      exact hq
    · refine ⟨(a1 a e).1, ?_⟩
      rw [hw_up_n (hn a e)]
      exact (a1 a e).2
  · have e : ¬ (w : Int) = v := fun z => hn2 (v, C) ((hm _).mpr (Or.inl rfl)) z.symm
    rw [hw_up_n e]
    exact a2 w hw (fun a ha => hn2 a ((hm a).mpr (Or.inr ha)))
theorem nxA_new (h : nxA V r A nx) (hl : r.length = V.length) : rowL nx 0 V.length = qnew A r := by
  obtain ⟨_, a1, a2⟩ := h
  unfold qnew rowL
  rw [hl]
  refine List.map_congr_left (fun v hv => ?_)
  have hv := List.mem_range.mp hv
  rw [Int.zero_add]
  unfold qnv qfd
  cases hf : A.find? (fun a => decide (a.1 = (v : Int))) with
  | none =>
    refine a2 v hv (fun a ha e => ?_)
    have z := List.find?_eq_none.mp hf a ha
    exact z (decide_eq_true e)
  | some a =>
    have hm := List.mem_of_find?_eq_some hf
    have he := List.find?_some hf
    have e : a.1 = (v : Int) := of_decide_eq_true he
    have q := (a1 a hm).2
    show nx v = (qval a.2 r).getD 0
    rw [q, e]
    rfl
theorem nxA_ok (h : nxA V r A nx) : ∀ a, a ∈ A → qok V r a := h.elim fun _ h a ha => (h.1 a ha).1
end NX
/-! ways -/
section MX
variable {α : Type} {z : α} {O : List α} {w p : Nat}
theorem mxs_len : ∀ L : List (List α), (mxs z L w).length = L.length := by
  intro L
  induction L with
  | nil => rfl
  | cons O T ih =>
    show (mxs z T w).length + 1 = T.length + 1
    rw [ih]
theorem mxs_get : ∀ (L : List (List α)) (p : Nat), L[p]? = some O → (mxs z L w)[p]? = some (O.getD (w / mxp (L.drop (p + 1)) % O.length) z) := by
  intro L
  induction L with
  | nil => intro p h; cases h
  | cons O' T ih =>
    intro p h
    cases p with
    | zero =>
      have h : some O' = some O := h
      injection h with h
      subst h
      rfl
    | succ p => exact ih p h
theorem mxp_drop {L : List (List α)} (h : L[p]? = some O) : mxp (L.drop p) = O.length * mxp (L.drop (p + 1)) := by
  have l := (List.getElem?_eq_some_iff.mp h).1
  have e := (List.getElem?_eq_some_iff.mp h).2
  rw [List.drop_eq_getElem_cons l, e]
  rfl
theorem mxp_end {L : List (List α)} (h : L.length ≤ p) : mxp (L.drop p) = 1 := by
  rw [List.drop_eq_nil_of_le h]
  rfl
theorem mxp_pos : ∀ L : List (List α), (∀ O, O ∈ L → 1 ≤ O.length) → 1 ≤ mxp L := by
  intro L
  induction L with
  | nil => intro _; exact Nat.le_refl 1
  | cons O T ih =>
    intro h
    have a := h O List.mem_cons_self
    have b := ih (fun O' h' => h O' (List.mem_cons_of_mem _ h'))
    have c := Nat.mul_le_mul a b
    show 1 ≤ O.length * mxp T
    omega
end MX
