/-! the model explores: an OUTCOME -/
section MH
variable {D : dT} {cd gu up st cm ca lo hi fi tk nw nx ch va vb go : Int → Int} {cn vn md an tg : Int} {T : List Nat} {wy fN : Nat} {r : List Int} {Xq : qX} {pn j u : Int}
theorem mH_n (h : mH D cd gu up st cm ca lo hi fi cn vn md an tg) : cn = D.2.1.2.1.length ∧ vn = D.2.1.1.length ∧ D.2.1.1.length ≤ 8 ∧ md = D.2.2.1 ∧ an = D.2.1.2.2.length := by
  obtain ⟨_, ⟨cs, h1, h2, h3, h4⟩, h5⟩ := h
  have n := mQ_n h1
  exact ⟨n.1, n.2, h5.elim fun _ h5 => h5.1, h2, h3⟩
theorem mH_k (h : mH D cd gu up st cm ca lo hi fi cn vn md an tg) {k : Nat} (hk : k < D.2.1.2.1.length) : ∃ cs, cs ≤ 8000 ∧ mK cd cs gu up st cm ca (k : Int) (qcm D.2.1.2.1 k) ∧ kOK D.2.1.1 D.2.2.1 D.2.1.2.2.length (qcm D.2.1.2.1 k) := by
  obtain ⟨_, ⟨cs, h1, h2, h3, h4, h6⟩, h5⟩ := h
  exact ⟨cs, h6, mQ_at h1 hk, h5.elim fun _ h5 => h5.2.2.2.1 _ (qcm_at hk).2⟩
/-- which UPDATES are chosen -/
def chA (D : dT) (T : List Nat) (wy : Nat) (ch : Int → Int) : Prop := ∃ _ : Unit, ∀ p k : Nat, T[p]? = some k → ch p = ((qui D.2.1.2.1 T wy p k : Nat) : Int)
/-- the UPDATE of party j, as it lies -/
theorem mH_u (h : mH D cd gu up st cm ca lo hi fi cn vn md an tg) (hT : tkA tk pn T) (hO : tOw D.2.1.2.1 T) (hc : chA D T wy ch) (h0 : 0 ≤ j) (h1 : j < pn) : ∃ (U : dU) (cs : Int), cs ≤ 8000 ∧ upA D.2.1.2.1 T wy j U ∧ mUs cd cs st (tk j * 6 + ch j) U ∧ (∀ a, a ∈ U → (0 ≤ a.1 ∧ a.1 < vn) ∧ (∃ x, yTd D.2.1.1 x a.2) ∧ a ∈ qas D.2.1.2.1 T wy) ∧ adj (qas D.2.1.2.1 T wy) := by
  have hn := mH_n h
  have hp := h
  obtain ⟨_, t1, t2⟩ := hT
  obtain ⟨_, o1, o2, o3⟩ := hO
  have l : j.toNat < T.length := by omega
  have e := List.getElem?_eq_getElem l
  have hk := o1 _ (List.getElem_mem l)
  obtain ⟨cs, c0, c1, c2⟩ := mH_k h hk
  have hK : ∀ c, c ∈ D.2.1.2.1 → kOK D.2.1.1 D.2.2.1 D.2.1.2.2.length c := hp.elim fun _ h => h.2.elim fun _ h => h.2.2.2.1
  have hD : kDJ D.2.1.2.1 := hp.elim fun _ h => h.2.elim fun _ h => h.2.2.2.2.1
  have q := upd_get (T := T) (w := wy) (p := j.toNat) hK hk
  have et := t2 _ _ e
  have ec := hc.elim fun _ hc => hc _ _ e
  rw [show ((j.toNat : Nat) : Int) = j by omega] at et ec
  have g := c1.2.2.2.2.2 _ _ q.1
  rw [← et, ← ec] at g
  have mU := mxs_up (K := D.2.1.2.1) (w := wy) e
  refine ⟨_, cs, c0, ⟨(), mU⟩, g, fun a ha => ?_, qas_adj hK hD T o1 o2⟩
  have z := (c2.2.2.2.2 _ q.2).2 a ha
  exact ⟨⟨z.1.1, by omega⟩, z.2, List.mem_flatten.mpr ⟨_, List.mem_of_getElem? mU, ha⟩⟩
/-- assignments that were done: of the parties before j all, of party j the first u -/
def nyP (V : qVs) (r : List Int) (K : List dC) (T : List Nat) (wy : Nat) (j : Int) (nx : Int → Int) : Prop := ∃ _ : Unit, nxA V r ((mxs [] (qup K T) wy).take j.toNat).flatten nx
def nyU (V : qVs) (r : List Int) (K : List dC) (T : List Nat) (wy : Nat) (j u : Int) (nx : Int → Int) : Prop := ∃ U, upA K T wy j U ∧ nxA V r (((mxs [] (qup K T) wy).take j.toNat).flatten ++ U.take u.toNat) nx
end MH
theorem us_adj2 {us : List dU} {p i : Nat} {U : dU} {a : Int × yC} (hA : adj us.flatten) (h : us[p]? = some U) (hi : U[i]? = some a) : ∀ b, b ∈ (us.take p).flatten ++ U.take i → ¬ b.1 = a.1 := by
  have l := (List.getElem?_eq_some_iff.mp hi).1
  have e := (List.getElem?_eq_some_iff.mp hi).2
  have h1 : us.flatten = (us.take p).flatten ++ (us.drop p).flatten := by rw [← List.flatten_append, List.take_append_drop]
  have h3 : U = U.take i ++ a :: U.drop (i + 1) := by
    rw [← e, ← List.drop_eq_getElem_cons l, List.take_append_drop]
  unfold adj at hA
  rw [h1, us_drop h, h3, List.append_assoc, List.cons_append, ← List.append_assoc] at hA
  have h6 := (List.pairwise_append.mp hA).2.2
  have e2 : (U.take i ++ a :: U.drop (i + 1)).take i = U.take i := by
    rw [List.take_append_of_le_length (by rw [List.length_take]; omega), List.take_of_length_le (by rw [List.length_take]; omega)]
  intro b hb
  exact h6 b hb a List.mem_cons_self
theorem us_step2 {us : List dU} {p i : Nat} {U : dU} {a : Int × yC} (hi : U[i]? = some a) : ∀ b, b ∈ (us.take p).flatten ++ U.take (i + 1) ↔ b = a ∨ b ∈ (us.take p).flatten ++ U.take i := by
  have l := (List.getElem?_eq_some_iff.mp hi).1
  have e := (List.getElem?_eq_some_iff.mp hi).2
  have h : U.take (i + 1) = U.take i ++ [a] := by rw [List.take_succ_eq_append_getElem l, e]
  intro b
  rw [h]
  simp only [List.mem_append, List.mem_singleton]
  constructor
  · rintro (z | z | z)
    · exact Or.inr (Or.inl z)
    · exact Or.inr (Or.inr z)
    · exact Or.inl z
  · rintro (z | z | z)
    · exact Or.inr (Or.inr z)
    · exact Or.inl z
    · exact Or.inr (Or.inl z)
/-- different numbers below n -/
theorem pig : ∀ (n : Nat) (l : List Int), l.Pairwise (fun a b => ¬ a = b) → (∀ x, x ∈ l → 0 ≤ x ∧ x < (n : Int)) → l.length ≤ n := by
  intro n
  induction n with
  | zero =>
    intro l _ h
    cases l with
    | nil => exact Nat.le_refl 0
    | cons x l => have := h x List.mem_cons_self; omega
  | succ n ih =>
    have one : ∀ l : List Int, l.Pairwise (fun a b => ¬ a = b) → l.length ≤ (l.filter (fun x => decide (¬ x = (n : Int)))).length + 1 := by
      intro l
      induction l with
      | nil => intro _; exact Nat.zero_le _
      | cons x l il =>
        intro hp
        have hp := List.pairwise_cons.mp hp
        by_cases e : x = (n : Int)
        · rw [List.filter_cons_of_neg (by rw [decide_eq_true_iff]; exact fun z => z e)]
          have same : l.filter (fun x => decide (¬ x = (n : Int))) = l := by
            refine List.filter_eq_self.mpr (fun y hy => decide_eq_true (fun z => hp.1 y hy (by rw [e, z])))
          rw [same, List.length_cons]
          omega
        · rw [List.filter_cons_of_pos (p := fun x => decide (¬ x = (n : Int))) (decide_eq_true e), List.length_cons, List.length_cons]
          have := il hp.2
          omega
    intro l hp h
    have q := ih (l.filter (fun x => decide (¬ x = (n : Int)))) (List.Pairwise.filter _ hp) (fun x hx => by
      have z := List.mem_filter.mp hx
      have z1 := h x z.1
      have z2 : ¬ x = (n : Int) := of_decide_eq_true z.2
      omega)
    have := one l hp
    omega
theorem adj_l {U : dU} {vn : Int} (h : adj U) (hv : ∀ a, a ∈ U → 0 ≤ a.1 ∧ a.1 < vn) : (U.length : Int) ≤ vn ∨ U = [] := by
  by_cases c : U = []
  · exact Or.inr c
  · refine Or.inl ?_
    have p : (U.map Prod.fst).Pairwise (fun a b => ¬ a = b) := List.pairwise_map.mpr h
    obtain ⟨x, l, e⟩ := List.exists_cons_of_ne_nil c
    have v0 := hv x (by rw [e]; exact List.mem_cons_self)
    have q := pig vn.toNat _ p (fun x hx => by
      obtain ⟨a, ha, e⟩ := List.mem_map.mp hx
      have := hv a ha
      have e : a.1 = x := e
      omega)
    rw [List.length_map] at q
    omega
/-- an assignment of party j: its variable, what it becomes -/
def asQ (D : dT) (T : List Nat) (wy : Nat) (r : List Int) (j u v : Int) (Y : Option Int) : Prop := ∃ (U : dU) (a : Int × yC), upA D.2.1.2.1 T wy j U ∧ U[u.toNat]? = some a ∧ a.1 = v ∧ qval a.2 r = Y ∧ a ∈ qas D.2.1.2.1 T wy ∧ adj (qas D.2.1.2.1 T wy)
section MO
variable {D : dT} {cd gu up st cm ca lo hi fi tk nw nx ch va vb go : Int → Int} {cn vn md an tg : Int} {T : List Nat} {wy fN : Nat} {r : List Int} {Xq : qX} {pn j j' u u' v w : Int}
theorem ny_0 (hr : r = rowL nx 0 D.2.1.1.length) : nyP D.2.1.1 r D.2.1.2.1 T wy 0 nx := by
  refine ⟨(), ?_⟩
  show nxA D.2.1.1 r (([] : List dU)).flatten nx
  exact nxA_0 hr
theorem ny_a (hm : mH D cd gu up st cm ca lo hi fi cn vn md an tg) (hr : r = rowL nw 0 D.2.1.1.length) (h : ag_ok nx nw j) (hj : vn ≤ j) : nyP D.2.1.1 r D.2.1.2.1 T wy 0 nx := by
  have n := mH_n hm
  refine ny_0 (hr.trans (rowL_ext (fun i hi => ?_)))
  exact (h.elim fun _ h => h _ (by omega) (by omega)).symm
theorem ny_u (hm : mH D cd gu up st cm ca lo hi fi cn vn md an tg) (hT : tkA tk pn T) (hO : tOw D.2.1.2.1 T) (hc : chA D T wy ch) (h : nyP D.2.1.1 r D.2.1.2.1 T wy j nx) (h0 : 0 ≤ j) (h1 : j < pn) (hu : u = 0) : nyU D.2.1.1 r D.2.1.2.1 T wy j u nx := by
  subst hu
  obtain ⟨U, cs, _, q, _⟩ := mH_u hm hT hO hc h0 h1
  refine ⟨U, q, ?_⟩
  show nxA D.2.1.1 r (_ ++ []) nx
  rw [List.append_nil]
  exact h.elim fun _ h => h
theorem as_lh (hm : mH D cd gu up st cm ca lo hi fi cn vn md an tg) {Y : Option Int} (hT : tkA tk pn T) (hO : tOw D.2.1.2.1 T) (hc : chA D T wy ch) (h0 : 0 ≤ j) (h1 : j < pn) (hq : asQ D T wy r j u v Y) : (0 ≤ v ∧ v < vn) ∧ lo v = qlo D.2.1.1 v ∧ hi v = qhi D.2.1.1 v := by
  obtain ⟨U, cs, _, q1, _, q3, _⟩ := mH_u hm hT hO hc h0 h1
  obtain ⟨U', a, z1, z2, z3, _⟩ := hq
  obtain ⟨_, q1⟩ := q1
  obtain ⟨_, z1⟩ := z1
  rw [q1] at z1
  injection z1 with z1
  subst z1
  have q := (q3 a (List.mem_of_getElem? z2)).1
  rw [z3] at q
  have n := mH_n hm
  have cv : cVs lo hi fi 0 D.2.1.1 := hm.elim fun _ h => h.1.elim fun cs h => h.1.elim fun _ h => h.2.2.1
  exact ⟨q, cVs_q cv q.1 (by omega)⟩
theorem ny_s (hm : mH D cd gu up st cm ca lo hi fi cn vn md an tg) (hT : tkA tk pn T) (hO : tOw D.2.1.2.1 T) (hc : chA D T wy ch) (h : nyU D.2.1.1 r D.2.1.2.1 T wy j u nx) (hq : asQ D T wy r j u v (some w)) (h0 : 0 ≤ j) (h1 : j < pn) (hl : lo v ≤ w) (hh : w ≤ hi v) (hu : 0 ≤ u) (hu' : u' = u + 1) : nyU D.2.1.1 r D.2.1.2.1 T wy j u' (hw_up nx v w) := by
  have lh := as_lh hm hT hO hc h0 h1 hq
  obtain ⟨U, e1, e2⟩ := h
  obtain ⟨U', a, z1, z2, z3, z4, z5, z6⟩ := hq
  have e1' := e1
  obtain ⟨_, e1⟩ := e1
  obtain ⟨_, z1⟩ := z1
  rw [e1] at z1
  injection z1 with z1
  subst z1
  refine ⟨U, e1', ?_⟩
  rw [hu', show (u + 1).toNat = u.toNat + 1 by omega]
  obtain ⟨v', C⟩ := a
  have z3 : v' = v := z3
  subst z3
  exact nxA_s e2 z4 (by omega) (by omega) (us_adj2 z6 e1 z2) (us_step2 z2)
theorem ny_b (hq : asQ D T wy r j u v none) : qO D.2.1.1 r (qas D.2.1.2.1 T wy) fN Xq = .inl 2 := by
  obtain ⟨U', a, z1, z2, z3, z4, z5, z6⟩ := hq
  refine qO_bad ⟨a, z5, fun ⟨y, k, _⟩ => ?_⟩
  rw [z4] at k
  cases k
theorem ny_o (hm : mH D cd gu up st cm ca lo hi fi cn vn md an tg) (hT : tkA tk pn T) (hO : tOw D.2.1.2.1 T) (hc : chA D T wy ch) (hq : asQ D T wy r j u v (some w)) (h0 : 0 ≤ j) (h1 : j < pn) (hl : w < lo v ∨ hi v < w) : qO D.2.1.1 r (qas D.2.1.2.1 T wy) fN Xq = .inl 2 := by
  have lh := as_lh hm hT hO hc h0 h1 hq
  obtain ⟨U', a, z1, z2, z3, z4, z5, z6⟩ := hq
  refine qO_bad ⟨a, z5, fun ⟨y, k, k1, k2⟩ => ?_⟩
  rw [z4] at k
  injection k with k
  subst k
  rw [z3] at k1 k2
  omega
theorem ny_e (hm : mH D cd gu up st cm ca lo hi fi cn vn md an tg) (hT : tkA tk pn T) (hO : tOw D.2.1.2.1 T) (hc : chA D T wy ch) (h : nyU D.2.1.1 r D.2.1.2.1 T wy j u nx) (h0 : 0 ≤ j) (h1 : j < pn) (hu : vn ≤ u ∨ io_n st ((tk j * 6 + ch j) * 8) vn u) (hu0 : 0 ≤ u) (hj : j' = j + 1) : nyP D.2.1.1 r D.2.1.2.1 T wy j' nx := by
  obtain ⟨U, cs, _, q1, q2, q3, q4⟩ := mH_u hm hT hO hc h0 h1
  obtain ⟨U', e1, e2⟩ := h
  obtain ⟨_, q1⟩ := q1
  obtain ⟨_, e1⟩ := e1
  rw [q1] at e1
  injection e1 with e1
  subst e1
  have n := mH_n hm
  have hl : (U.length : Int) ≤ u := by
    rcases hu with hu | hu
    · have aU : adj U := by
        have mU := mH_u hm hT hO hc h0 h1
        unfold adj qas at q4
        have h1 : (mxs [] (qup D.2.1.2.1 T) wy).flatten = ((mxs [] (qup D.2.1.2.1 T) wy).take j.toNat).flatten ++ ((mxs [] (qup D.2.1.2.1 T) wy).drop j.toNat).flatten := by rw [← List.flatten_append, List.take_append_drop]
        rw [h1, us_drop q1] at q4
        exact (List.pairwise_append.mp (List.pairwise_append.mp q4).2.1).1
      rcases adj_l aU (fun a ha => (q3 a ha).1) with z | z
      · omega
      · rw [z]
        show ((0 : Nat) : Int) ≤ u
        omega
    · exact io_nx q2 rfl (fun a ha => (q3 a ha).1.2) (by omega) hu
  refine ⟨(), ?_⟩
  have l := (List.getElem?_eq_some_iff.mp q1).1
  have e := (List.getElem?_eq_some_iff.mp q1).2
  rw [hj, show (j + 1).toNat = j.toNat + 1 by omega, List.take_succ_eq_append_getElem l, e, List.flatten_append]
  have et : U.take u.toNat = U := List.take_of_length_le (by omega)
  rw [et] at e2
  show nxA D.2.1.1 r (_ ++ (U ++ [])) nx
  rw [List.append_nil]
  exact e2
theorem ny_f (hT : tkA tk pn T) (h : nyP D.2.1.1 r D.2.1.2.1 T wy j nx) (hj : pn ≤ j) (hl : r.length = D.2.1.1.length) : rowL nx 0 D.2.1.1.length = qnew (qas D.2.1.2.1 T wy) r ∧ ∀ a, a ∈ qas D.2.1.2.1 T wy → qok D.2.1.1 r a := by
  have n := tkA_n hT
  obtain ⟨_, h⟩ := h
  rw [List.take_of_length_le (by rw [mxs_len, qup_len]; omega)] at h
  exact ⟨nxA_new h hl, nxA_ok h⟩
end MO
/-! which STATE, in the model's rows -/
section MS
variable {va vb nx : Int → Int} {vn s ns t : Int} {nv : Nat} {R : List (List Int)}
theorem rs_x (h : rs_n va nx vn s) (hv : vn = (nv : Int)) : snx va nx nv s := by
  obtain ⟨_, h⟩ := h
  refine ⟨(), fun i hi z => ?_⟩
  obtain ⟨v, v0, v1, v2⟩ := h i (by omega) hi
  have q := rowL_inj z v.toNat (by omega)
  rw [Int.zero_add, show ((v.toNat : Nat) : Int) = v by omega] at q
  exact v2 q
theorem ro_x (h : ro_ok va nx (8 * s) vn) (hv : vn = (nv : Int)) : rowL va (8 * s) nv = rowL nx 0 nv := by
  obtain ⟨_, h⟩ := h
  exact rowL_ext (fun i hi => by rw [Int.zero_add]; exact h i (by omega) (by omega))
theorem mq_f (hR : rwA nv va ns R) (hs : rs_n va nx vn s) (ho : ro_ok va nx (8 * s) vn) (hv : vn = (nv : Int)) (h0 : 0 ≤ s) (h1 : s < ns) : s = ((qix (rowL nx 0 nv) R : Nat) : Int) := qix_f hR (rs_x hs hv) (ro_x ho hv) h0 h1
theorem mq_g (hR : rwA nv va ns R) (hs : rs_n va nx vn s) (hv : vn = (nv : Int)) (h1 : ns ≤ s) : ((qix (rowL nx 0 nv) R : Nat) : Int) = ns := qix_g hR (rs_x hs hv) h1
theorem mq_r (hR : rwA nv va ns R) (hs : rs_n va nx vn s) (hk : rp_k va vb nx s t) (hv : vn = (nv : Int)) (h8 : nv ≤ 8) (h1 : s = ns) (ht : vn ≤ t) {m : Int} (hm : m = ns + 1) : rwA nv vb m (qrw R (rowL nx 0 nv)) := by
  have n := rwA_n hR
  have q := mq_g hR hs hv (by omega)
  unfold qrw
  rw [if_neg (by omega)]
  obtain ⟨_, k1, k2⟩ := hk
  refine rwA_s (rwA_f hR h8 (fun i i0 i1 => k1 i (by omega))) ?_ hm
  rw [← h1]
  exact rowL_ext (fun i hi => by rw [Int.zero_add]; exact (k2 i (by omega) (by omega)).symm)
theorem gn_x {go : Int → Int} {f o : Int} (h : gn_ok go f o s) : rnA go f o s := h.elim fun _ h => ⟨(), h⟩
end MS
section OY
variable {D : dT} {T : List Nat} {wy fN : Nat} {r : List Int} {Xq : qX} {nx rch tk : Int → Int} {j q f o oc pn : Int}
theorem nyP_c {V : qVs} {K : List dC} {j' : Int} (h : nyP V r K T wy j nx) (hj : j' = j) : nyP V r K T wy j' nx := by
  subst hj
  exact h
theorem oy_3 (hT : tkA tk pn T) (h : nyP D.2.1.1 r D.2.1.2.1 T wy j nx) (hj : pn ≤ j) (hl : r.length = D.2.1.1.length) (hq : ¬ qix (rowL nx 0 D.2.1.1.length) Xq.1 < 24) : qO D.2.1.1 r (qas D.2.1.2.1 T wy) fN Xq = .inl 3 := by
  obtain ⟨e1, e2⟩ := ny_f hT h hj hl
  rw [e1] at hq
  exact qO_full e2 hq
theorem oy_f (hT : tkA tk pn T) (h : nyP D.2.1.1 r D.2.1.2.1 T wy j nx) (hj : pn ≤ j) (hl : r.length = D.2.1.1.length) (hq : q = ((qix (rowL nx 0 D.2.1.1.length) Xq.1 : Nat) : Int)) (h23 : q ≤ 23) (hL : lsA rch oc Xq.2.1) (hf : f = (fN : Int)) (h1 : f ≤ o) (h2 : o < oc) (he : rch o = q) : qO D.2.1.1 r (qas D.2.1.2.1 T wy) fN Xq = .inr (qrw Xq.1 (rowL nx 0 D.2.1.1.length), Xq.2.1, Xq.2.2) := by
  obtain ⟨e1, e2⟩ := ny_f hT h hj hl
  rw [e1] at hq ⊢
  rw [qO_ok e2 (by omega), qre_f hL hf hq h1 h2 he]
theorem oy_g (hT : tkA tk pn T) (h : nyP D.2.1.1 r D.2.1.2.1 T wy j nx) (hj : pn ≤ j) (hl : r.length = D.2.1.1.length) (hq : q = ((qix (rowL nx 0 D.2.1.1.length) Xq.1 : Nat) : Int)) (h23 : q ≤ 23) (hL : lsA rch oc Xq.2.1) (hf : f = (fN : Int)) (hr : gn_ok rch f o q) (h2 : oc ≤ o) : qO D.2.1.1 r (qas D.2.1.2.1 T wy) fN Xq = .inr (qrw Xq.1 (rowL nx 0 D.2.1.1.length), Xq.2.1 ++ [q], Xq.2.2) := by
  obtain ⟨e1, e2⟩ := ny_f hT h hj hl
  rw [e1] at hq ⊢
  rw [qO_ok e2 (by omega), qre_g hL hf hq (gn_x hr) h2, hq]
end OY
theorem lsA_e {A : Int → Int} {n m oc : Int} {L L' : List Int} {k : Nat} (h : lsA A n L) (hL : L' = L ++ [(k : Int)]) (ho : oc = (k : Int)) (hm : m = n + 1) : lsA (hw_up A n oc) m L' := by
  rw [hL, ← ho]
  exact lsA_s h hm
