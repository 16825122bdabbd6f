/-! the class explores: steps -/
/-- what stands fast while it explores -/
def cH (V : qVs) (Kc : List dC) (M nA : Int) (op wi sv sc fs fu ho ac gu lo hi bg : Int → Int) (us st up cm vn : Int) : Prop := ∃ _ : Unit, cKs op wi sv sc fs fu ho ac gu us st up 0 Kc ∧ cm = Kc.length ∧ cVs lo hi bg 0 V ∧ vn = V.length ∧ V.length ≤ 8 ∧ (∀ c, c ∈ Kc → kOK V M nA c) ∧ kDJ Kc ∧ Kc.length ≤ 40 ∧ up ≤ 240 ∧ st ≤ 250
/-- those that are taken, in an array -/
def tkA (A : Int → Int) (n : Int) (T : List Nat) : Prop := ∃ _ : Unit, n = T.length ∧ ∀ (p k : Nat), T[p]? = some k → A p = k
def tOw (Kc : List dC) (T : List Nat) : Prop := ∃ _ : Unit, tOK Kc T
theorem cH_n {V : qVs} {Kc : List dC} {M nA us st up cm vn : Int} {op wi sv sc fs fu ho ac gu lo hi bg : Int → Int} (h : cH V Kc M nA op wi sv sc fs fu ho ac gu lo hi bg us st up cm vn) : cm = Kc.length ∧ vn = V.length ∧ V.length ≤ 8 ∧ Kc.length ≤ 40 ∧ up ≤ 240 ∧ st ≤ 250 := h.elim fun _ h => ⟨h.2.1, h.2.2.2.1, h.2.2.2.2.1, h.2.2.2.2.2.2.2.1, h.2.2.2.2.2.2.2.2.1, h.2.2.2.2.2.2.2.2.2⟩
theorem tkA_n {A : Int → Int} {n : Int} {T : List Nat} (h : tkA A n T) : n = T.length := h.elim fun _ h => h.1
theorem tOw_n {Kc : List dC} {T : List Nat} (h : tOw Kc T) : T.length ≤ 3 := h.elim fun _ h => h.2.2
section XL
variable {V : qVs} {Kc : List dC} {M nA us st up cm vn : Int} {op wi sv sc fs fu ho ac gu lo hi bg tk : Int → Int} {T : List Nat} {pn p : Int} {wy : Nat}
/-- the COMMAND of a party -/
theorem tp_k (hH : cH V Kc M nA op wi sv sc fs fu ho ac gu lo hi bg us st up cm vn) (hT : tkA tk pn T) (hO : tOw Kc T) (h0 : 0 ≤ p) (h1 : p < pn) : ∃ k : Nat, T[p.toNat]? = some k ∧ tk p = k ∧ k < Kc.length ∧ cK op wi sv sc fs fu ho ac gu us st up (k : Int) (qcm Kc k) ∧ kOK V M nA (qcm Kc k) := by
  obtain ⟨_, t1, t2⟩ := hT
  obtain ⟨_, o1, o2⟩ := hO
  obtain ⟨_, a1, a2, a3, a4, a5, a6, a7⟩ := hH
  have l : p.toNat < T.length := by omega
  have e := List.getElem?_eq_getElem l
  have hk := o1 _ (List.getElem_mem l)
  have e2 := t2 _ _ e
  rw [show ((p.toNat : Nat) : Int) = p by omega] at e2
  have q := qcm_at hk
  have c := cKs_at Kc 0 _ _ a1 q.1
  rw [show (0 : Int) + ((T[p.toNat] : Nat) : Int) = ((T[p.toNat] : Nat) : Int) by omega] at c
  exact ⟨T[p.toNat], e, e2, hk, c, a6 _ q.2⟩
theorem tp_b (hH : cH V Kc M nA op wi sv sc fs fu ho ac gu lo hi bg us st up cm vn) (hT : tkA tk pn T) (hO : tOw Kc T) (h0 : 0 ≤ p) (h1 : p < pn) : (0 ≤ tk p ∧ tk p ≤ 39) ∧ (1 ≤ fu (tk p + 1) - fu (tk p) ∧ fu (tk p + 1) - fu (tk p) ≤ 6) ∧ 0 ≤ fu (tk p) ∧ fu (tk p + 1) ≤ 240 := by
  have hn := cH_n hH
  obtain ⟨k, k1, k2, k3, ⟨_, c1, c2, c3, c4, c5, c6, c7⟩, k5⟩ := tp_k hH hT hO h0 h1
  have b := k5.2.2.2.1
  rw [k2]
  omega
/-- the UPDATE of a party -/
def upA (Kc : List dC) (T : List Nat) (wy : Nat) (p : Int) (U : dU) : Prop := ∃ _ : Unit, (mxs [] (qup Kc T) wy)[p.toNat]? = some U
/-- what is left of a way before party p -/
def rsA (Kc : List dC) (T : List Nat) (wy : Nat) (p r : Int) : Prop := ∃ _ : Unit, r = ((wy / mxp ((qup Kc T).drop p.toNat) : Nat) : Int)
theorem rsA_b {r : Int} (h : rsA Kc T wy p r) : 0 ≤ r := h.elim fun _ h => by rw [h]; exact Int.natCast_nonneg _
theorem rsA_0 (hT : tkA tk pn T) (hp : p = pn) : rsA Kc T wy p (wy : Int) := by
  have e := tkA_n hT
  refine ⟨(), ?_⟩
  rw [mxp_end (by rw [qup_len]; omega), Nat.div_one]
theorem rsA_s {r r' m : Int} (hH : cH V Kc M nA op wi sv sc fs fu ho ac gu lo hi bg us st up cm vn) (hT : tkA tk pn T) (hO : tOw Kc T) (h : rsA Kc T wy (p + 1) r) (h0 : 0 ≤ p) (h1 : p < pn) (hm : m = fu (tk p + 1) - fu (tk p)) (hr : r' = r / m) : rsA Kc T wy p r' := by
  obtain ⟨k, k1, k2, k3, ⟨_, c1, c2, c3, c4, c5, c6, c7⟩, k5⟩ := tp_k hH hT hO h0 h1
  obtain ⟨_, h⟩ := h
  refine ⟨(), ?_⟩
  have e := mxp_drop (qup_get (K := Kc) k1)
  rw [show (p + 1).toNat = p.toNat + 1 by omega] at h
  have em : m = (((qcm Kc k).2.2.2.length : Nat) : Int) := by rw [hm, k2]; omega
  rw [hr, h, em, ← nat_dv, Nat.div_div_eq_div_mul, e, Nat.mul_comm]
theorem rsA_d {r r' m m0 : Int} (hH : cH V Kc M nA op wi sv sc fs fu ho ac gu lo hi bg us st up cm vn) (hT : tkA tk pn T) (hO : tOw Kc T) (h : rsA Kc T wy (p + 1) r) (hd : 0 ≤ r → 0 < m → r' = r / m ∧ 0 ≤ r' ∧ r' ≤ r) (hmx : m = 1 ∧ m0 ≤ 1 ∨ m = m0 ∧ 1 ≤ m0) (hm0 : m0 = fu (tk p + 1) - fu (tk p)) (hb : 1 ≤ fu (tk p + 1) - fu (tk p)) (hr0 : 0 ≤ r) (h0 : 0 ≤ p) (h1 : p < pn) : rsA Kc T wy p r' := by
  have e : m = m0 := by omega
  subst e
  exact rsA_s hH hT hO h h0 h1 hm0 (hd hr0 (by omega)).1
theorem upA_s {r m z u : Int} (hH : cH V Kc M nA op wi sv sc fs fu ho ac gu lo hi bg us st up cm vn) (hT : tkA tk pn T) (hO : tOw Kc T) (h : rsA Kc T wy (p + 1) r) (h0 : 0 ≤ p) (h1 : p < pn) (hm : m = fu (tk p + 1) - fu (tk p)) (hz : z = r % m) (hu : u = fu (tk p) + z) : ∃ U, upA Kc T wy p U ∧ cU op wi sv sc us (fs u) U ∧ 0 ≤ fs u ∧ fs (u + 1) = fs u + U.length ∧ fs (u + 1) ≤ 250 ∧ 0 ≤ u ∧ u < 240 := by
  have hn := cH_n hH
  have hk := hH.elim fun _ h => h.2.2.2.2.2.1
  obtain ⟨k, k1, k2, k3, ⟨_, c1, c2, c3, c4, c5, c6, c7⟩, k5⟩ := tp_k hH hT hO h0 h1
  obtain ⟨_, h⟩ := h
  rw [show (p + 1).toNat = p.toNat + 1 by omega] at h
  have em : m = (((qcm Kc k).2.2.2.length : Nat) : Int) := by rw [hm, k2]; omega
  have ez : z = ((qui Kc T wy p.toNat k : Nat) : Int) := by
    rw [hz, h, em, ← nat_em]
    rfl
  have q := upd_get (T := T) (w := wy) (p := p.toNat) hk k3
  have l := qui_lt (T := T) (w := wy) (p := p.toNat) hk k3
  have g := cG_at _ _ _ _ c7 q.1
  have eu : u = fu (k : Int) + ((qui Kc T wy p.toNat k : Nat) : Int) := by rw [hu, ez, k2]
  rw [← eu] at g
  exact ⟨_, ⟨(), mxs_up k1⟩, g.2.2.2, g.1, g.2.1, by omega, by omega, by omega⟩
end XL
/-- the assignments that were done: of party p the first ones, of those behind it all -/
def nxP (V : qVs) (r : List Int) (Kc : List dC) (T : List Nat) (wy : Nat) (p : Int) (nx : Int → Int) : Prop := ∃ _ : Unit, nxA V r ((mxs [] (qup Kc T) wy).drop p.toNat).flatten nx
def nxU (V : qVs) (r : List Int) (Kc : List dC) (T : List Nat) (wy : Nat) (p j : Int) (U : dU) (nx : Int → Int) : Prop := ∃ _ : Unit, nxA V r (U.take j.toNat ++ ((mxs [] (qup Kc T) wy).drop (p.toNat + 1)).flatten) nx
section XN
variable {V : qVs} {Kc : List dC} {M nA us st up cm vn : Int} {op wi sv sc fs fu ho ac gu lo hi bg tk nx rws st' : Int → Int} {T : List Nat} {pn p s : Int} {wy fN : Nat} {r : List Int} {U : dU} {Xq : qX} {f i j j' b x p' : Int}
theorem nxP_0 (hT : tkA tk pn T) (hp : p = pn) (hr : r = rowL nx 0 V.length) : nxP V r Kc T wy p nx := by
  have e := tkA_n hT
  refine ⟨(), ?_⟩
  rw [List.drop_eq_nil_of_le (by rw [mxs_len, qup_len]; omega)]
  exact nxA_0 hr
theorem nxU_0 (h : nxP V r Kc T wy (p + 1) nx) (h0 : 0 ≤ p) (hj : j = 0) : nxU V r Kc T wy p j U nx := by
  subst hj
  obtain ⟨_, h⟩ := h
  rw [show (p + 1).toNat = p.toNat + 1 by omega] at h
  exact ⟨(), h⟩
theorem nxU_e (h : nxU V r Kc T wy p j U nx) (hU : upA Kc T wy p U) (hp : p' = p) (hj : U.length ≤ j) : nxP V r Kc T wy p' nx := by
  subst hp
  obtain ⟨_, h⟩ := h
  obtain ⟨_, hU⟩ := hU
  refine ⟨(), ?_⟩
  rw [us_drop hU]
  rw [List.take_of_length_le (by omega)] at h
  exact h
/-- an assignment: its code, its variable -/
theorem as_k (hH : cH V Kc M nA op wi sv sc fs fu ho ac gu lo hi bg us st up cm vn) (hO : tOw Kc T) (hU : upA Kc T wy p U) (hc : cU op wi sv sc us f U) (hj : j = i - f) (h0 : 0 ≤ j) (h1 : j < U.length) : ∃ C, U[j.toNat]? = some (sv i, C) ∧ cdA op wi us (sc i) C ∧ (0 ≤ sv i ∧ sv i < V.length) ∧ (∃ x, yTd V x C) ∧ (sv i, C) ∈ qas Kc T wy ∧ adj (qas Kc T wy) := by
  obtain ⟨_, o1, o2, o3⟩ := hO
  obtain ⟨_, a1, a2, a3, a4, a5, a6, a7, a8⟩ := hH
  obtain ⟨_, hU⟩ := hU
  have l : j.toNat < U.length := by omega
  have e := List.getElem?_eq_getElem l
  have q := cU_at U f j.toNat (U[j.toNat]).1 (U[j.toNat]).2 hc e
  rw [show f + ((j.toNat : Nat) : Int) = i by omega] at q
  have mU := List.mem_of_getElem? hU
  obtain ⟨k, m1, m2⟩ := mxs_mem a6 T o1 U mU
  have z := (a6 _ (qcm_at (o1 k m1)).2).2.2.2.2 U m2
  have z2 := z.2 _ (List.getElem_mem l)
  refine ⟨(U[j.toNat]).2, by rw [e, q.1], q.2, by rw [q.1]; exact z2.1, z2.2, ?_, qas_adj a6 a7 T o1 o2⟩
  refine List.mem_flatten.mpr ⟨U, mU, ?_⟩
  rw [q.1]
  exact List.getElem_mem l
theorem as_v (hH : cH V Kc M nA op wi sv sc fs fu ho ac gu lo hi bg us st up cm vn) (hO : tOw Kc T) (hU : upA Kc T wy p U) (hc : cU op wi sv sc us f U) (hr : r = rowL rws (8 * s) V.length) (hj : j = i - f) (h0 : 0 ≤ j) (h1 : j < U.length) (hb : b = s * 8) (hs : 0 ≤ s ∧ s ≤ 23) : ∃ C, U[j.toNat]? = some (sv i, C) ∧ cRi op wi (nwL rws b 192) us 0 (sc i) 1 st' = qval C r ∧ (sv i, C) ∈ qas Kc T wy ∧ (lo (sv i) = qlo V (sv i) ∧ hi (sv i) = qhi V (sv i)) ∧ adj (qas Kc T wy) := by
  obtain ⟨C, c1, c2, c3, ⟨y, c4⟩, c5, c6⟩ := as_k hH hO hU hc hj h0 h1
  have hn := cH_n hH
  have hv := hH.elim fun _ h => h.2.2.1
  exact ⟨C, c1, qv_run c2 c4 (by rw [hr, hb, Int.mul_comm]) hn.2.2.1 (by omega), c5, cVs_q hv c3.1 c3.2, c6⟩
theorem as_s (hH : cH V Kc M nA op wi sv sc fs fu ho ac gu lo hi bg us st up cm vn) (hO : tOw Kc T) (hU : upA Kc T wy p U) (hc : cU op wi sv sc us f U) (hr : r = rowL rws (8 * s) V.length) (hN : nxU V r Kc T wy p j U nx) (hx : cRi op wi (nwL rws b 192) us 0 (sc i) 1 st' = some x) (hl : lo (sv i) ≤ hw_up nx (sv i) x (sv i)) (hh : hw_up nx (sv i) x (sv i) ≤ hi (sv i)) (hj : j = i - f) (h0 : 0 ≤ j) (h1 : j < U.length) (hj' : j' = j + 1) (hb : b = s * 8) (hs : 0 ≤ s ∧ s ≤ 23) : nxU V r Kc T wy p j' U (hw_up nx (sv i) x) := by
  obtain ⟨C, c1, c2, c3, c4, c5⟩ := as_v (st' := st') hH hO hU hc hr hj h0 h1 hb hs
  obtain ⟨_, hN⟩ := hN
  obtain ⟨_, hU⟩ := hU
  rw [hw_up_s] at hl hh
  refine ⟨(), ?_⟩
  rw [hj', show (j + 1).toNat = j.toNat + 1 by omega]
  exact nxA_s hN (c2.symm.trans hx) (by omega) (by omega) (us_adj c5 hU c1) (us_step c1)
theorem as_b (hH : cH V Kc M nA op wi sv sc fs fu ho ac gu lo hi bg us st up cm vn) (hO : tOw Kc T) (hU : upA Kc T wy p U) (hc : cU op wi sv sc us f U) (hr : r = rowL rws (8 * s) V.length) (hx : cRi op wi (nwL rws b 192) us 0 (sc i) 1 st' = none) (hj : j = i - f) (h0 : 0 ≤ j) (h1 : j < U.length) (hb : b = s * 8) (hs : 0 ≤ s ∧ s ≤ 23) : qO V r (qas Kc T wy) fN Xq = .inl 2 := by
  obtain ⟨C, c1, c2, c3, c4, c5⟩ := as_v (st' := st') hH hO hU hc hr hj h0 h1 hb hs
  refine qO_bad ⟨_, c3, fun ⟨y, z, _⟩ => ?_⟩
  rw [c2.symm.trans hx] at z
  cases z
theorem as_o (hH : cH V Kc M nA op wi sv sc fs fu ho ac gu lo hi bg us st up cm vn) (hO : tOw Kc T) (hU : upA Kc T wy p U) (hc : cU op wi sv sc us f U) (hr : r = rowL rws (8 * s) V.length) (hx : cRi op wi (nwL rws b 192) us 0 (sc i) 1 st' = some x) (hl : hw_up nx (sv i) x (sv i) < lo (sv i) ∨ hi (sv i) < hw_up nx (sv i) x (sv i)) (hj : j = i - f) (h0 : 0 ≤ j) (h1 : j < U.length) (hb : b = s * 8) (hs : 0 ≤ s ∧ s ≤ 23) : qO V r (qas Kc T wy) fN Xq = .inl 2 := by
  obtain ⟨C, c1, c2, c3, c4, c5⟩ := as_v (st' := st') hH hO hU hc hr hj h0 h1 hb hs
  rw [hw_up_s] at hl
  refine qO_bad ⟨_, c3, fun ⟨y, z, z1, z2⟩ => ?_⟩
  rw [c2.symm.trans hx] at z
  injection z with z
  subst z
  have z1 : qlo V (sv i) ≤ x := z1
  have z2 : x ≤ qhi V (sv i) := z2
  omega
theorem nxP_e (h : nxP V r Kc T wy p nx) (hp : p ≤ 0) (hl : r.length = V.length) : rowL nx 0 V.length = qnew (qas Kc T wy) r ∧ ∀ a, a ∈ qas Kc T wy → qok V r a := by
  obtain ⟨_, h⟩ := h
  rw [show p.toNat = 0 by omega] at h
  exact ⟨nxA_new h hl, nxA_ok h⟩
end XN
/-- an UPDATE of party p, done up to step i -/
def uxA (V : qVs) (r : List Int) (Kc : List dC) (T : List Nat) (wy : Nat) (op wi sv sc fs : Int → Int) (us p u i : Int) (nx : Int → Int) : Prop := ∃ U, upA Kc T wy p U ∧ cU op wi sv sc us (fs u) U ∧ fs (u + 1) = fs u + U.length ∧ nxU V r Kc T wy p (i - fs u) U nx
section UX
variable {V : qVs} {Kc : List dC} {M nA us st up cm vn : Int} {op wi sv sc fs fu ho ac gu lo hi bg tk nx rws st' : Int → Int} {T : List Nat} {pn p p' s : Int} {wy fN : Nat} {r : List Int} {Xq : qX} {u i i' b x z m rs : Int}
theorem ux_0 (hH : cH V Kc M nA op wi sv sc fs fu ho ac gu lo hi bg us st up cm vn) (hT : tkA tk pn T) (hO : tOw Kc T) (h : rsA Kc T wy (p + 1) rs) (hN : nxP V r Kc T wy (p + 1) nx) (h0 : 0 ≤ p) (h1 : p < pn) (hm : m = fu (tk p + 1) - fu (tk p)) (hz : z = rs % m) (hu : u = fu (tk p) + z) (hi : i = fs u) : uxA V r Kc T wy op wi sv sc fs us p u i nx := by
  obtain ⟨U, a1, a2, a3, a4, a5, a6, a7⟩ := upA_s hH hT hO h h0 h1 hm hz hu
  exact ⟨U, a1, a2, a4, nxU_0 hN h0 (by omega)⟩
theorem ux_d {m0 : Int} (hH : cH V Kc M nA op wi sv sc fs fu ho ac gu lo hi bg us st up cm vn) (hT : tkA tk pn T) (hO : tOw Kc T) (h : rsA Kc T wy (p + 1) rs) (hN : nxP V r Kc T wy (p + 1) nx) (hd : 0 ≤ rs → 0 < m → z = rs % m ∧ 0 ≤ z ∧ z < m) (hmx : m = 1 ∧ m0 ≤ 1 ∨ m = m0 ∧ 1 ≤ m0) (hm0 : m0 = fu (tk p + 1) - fu (tk p)) (hb : 1 ≤ fu (tk p + 1) - fu (tk p)) (hr0 : 0 ≤ rs) (h0 : 0 ≤ p) (h1 : p < pn) : uxA V r Kc T wy op wi sv sc fs us p (fu (tk p) + z) (fs (fu (tk p) + z)) nx := by
  have e : m = m0 := by omega
  subst e
  exact ux_0 hH hT hO h hN h0 h1 hm0 (hd hr0 (by omega)).1 rfl rfl
theorem ux_s (hH : cH V Kc M nA op wi sv sc fs fu ho ac gu lo hi bg us st up cm vn) (hO : tOw Kc T) (h : uxA V r Kc T wy op wi sv sc fs us p u i nx) (hr : r = rowL rws (8 * s) V.length) (hx : cRi op wi (nwL rws b 192) us 0 (sc i) 1 st' = some x) (hl : lo (sv i) ≤ hw_up nx (sv i) x (sv i)) (hh : hw_up nx (sv i) x (sv i) ≤ hi (sv i)) (h0 : fs u ≤ i) (h1 : i < fs (u + 1)) (hi' : i' = i + 1) (hb : b = s * 8) (hs : 0 ≤ s ∧ s ≤ 23) : uxA V r Kc T wy op wi sv sc fs us p u i' (hw_up nx (sv i) x) := by
  obtain ⟨U, a1, a2, a3, a4⟩ := h
  exact ⟨U, a1, a2, a3, as_s hH hO a1 a2 hr a4 hx hl hh rfl (by omega) (by omega) (by omega) hb hs⟩
theorem ux_b (hH : cH V Kc M nA op wi sv sc fs fu ho ac gu lo hi bg us st up cm vn) (hO : tOw Kc T) (h : uxA V r Kc T wy op wi sv sc fs us p u i nx) (hr : r = rowL rws (8 * s) V.length) (hx : cRi op wi (nwL rws b 192) us 0 (sc i) 1 st' = none) (h0 : fs u ≤ i) (h1 : i < fs (u + 1)) (hb : b = s * 8) (hs : 0 ≤ s ∧ s ≤ 23) : qO V r (qas Kc T wy) fN Xq = .inl 2 := by
  obtain ⟨U, a1, a2, a3, a4⟩ := h
  exact as_b hH hO a1 a2 hr hx rfl (by omega) (by omega) hb hs
theorem ux_o (hH : cH V Kc M nA op wi sv sc fs fu ho ac gu lo hi bg us st up cm vn) (hO : tOw Kc T) (h : uxA V r Kc T wy op wi sv sc fs us p u i nx) (hr : r = rowL rws (8 * s) V.length) (hx : cRi op wi (nwL rws b 192) us 0 (sc i) 1 st' = some x) (hl : hw_up nx (sv i) x (sv i) < lo (sv i) ∨ hi (sv i) < hw_up nx (sv i) x (sv i)) (h0 : fs u ≤ i) (h1 : i < fs (u + 1)) (hb : b = s * 8) (hs : 0 ≤ s ∧ s ≤ 23) : qO V r (qas Kc T wy) fN Xq = .inl 2 := by
  obtain ⟨U, a1, a2, a3, a4⟩ := h
  exact as_o hH hO a1 a2 hr hx hl rfl (by omega) (by omega) hb hs
theorem ux_e (h : uxA V r Kc T wy op wi sv sc fs us p u i nx) (h1 : fs (u + 1) ≤ i) (hp : p' = p) : nxP V r Kc T wy p' nx := by
  obtain ⟨U, a1, a2, a3, a4⟩ := h
  exact nxU_e a4 a1 hp (by omega)
theorem rsA_c {p' : Int} (h : rsA Kc T wy p rs) (hp : p' = p) : rsA Kc T wy p' rs := by
  subst hp
  exact h
theorem nxP_c {p' : Int} (h : nxP V r Kc T wy p nx) (hp : p' = p) : nxP V r Kc T wy p' nx := by
  subst hp
  exact h
end UX
/-! the STATE that stands in next -/
def snx (A B : Int → Int) (nv : Nat) (t : Int) : Prop := ∃ _ : Unit, ∀ i : Nat, (i : Int) < t → ¬ rowL A (8 * (i : Int)) nv = rowL B 0 nv
def sne (A B : Int → Int) (nv : Nat) (t g i : Int) : Prop := ∃ _ : Unit, (g = 1 ∧ ∀ j : Nat, (j : Int) < i → A (8 * t + (j : Int)) = B (j : Int)) ∨ (g = 0 ∧ ∃ j : Nat, j < nv ∧ ¬ A (8 * t + (j : Int)) = B (j : Int))
section SN
variable {A B : Int → Int} {nv : Nat} {t g i i' a : Int}
theorem snx_0 : snx A B nv 0 := ⟨(), fun i h => absurd h (by omega)⟩
theorem snx_s {t' : Int} (h : snx A B nv t) (hn : ¬ rowL A (8 * t) nv = rowL B 0 nv) (ht : t' = t + 1) : snx A B nv t' := by
  subst ht
  refine ⟨(), fun i hi => ?_⟩
  by_cases e : (i : Int) = t
  · rw [e]
    exact hn
  · exact h.elim fun _ h => h i (by omega)
theorem sne_0 : sne A B nv t 1 0 := ⟨(), Or.inl ⟨rfl, fun j h => absurd h (by omega)⟩⟩
theorem sne_1 (h : sne A B nv t g i) (hg : ¬ g = 0) (he : A a = B i) (ha : a = t * 8 + i) (h0 : 0 ≤ i) (hi : i' = i + 1) : sne A B nv t 1 i' := by
  subst hi ha
  obtain ⟨_, h | h⟩ := h
  · refine ⟨(), Or.inl ⟨rfl, fun j hj => ?_⟩⟩
    by_cases e : (j : Int) = i
    · rw [e, Int.mul_comm]
      exact he
    · exact h.2 j (by omega)
  · exact absurd h.1 hg
theorem sne_2 (hne : ¬ A a = B i) (ha : a = t * 8 + i) (h0 : 0 ≤ i) (h1 : i < nv) : sne A B nv t 0 i' := by
  subst ha
  refine ⟨(), Or.inr ⟨rfl, i.toNat, by omega, ?_⟩⟩
  rw [show ((i.toNat : Nat) : Int) = i by omega, Int.mul_comm]
  exact hne
theorem sne_y (h : sne A B nv t g i) (hg : ¬ g = 0) (hi : nv ≤ i) : rowL A (8 * t) nv = rowL B 0 nv := by
  obtain ⟨_, h | h⟩ := h
  · exact rowL_ext (fun j hj => by rw [Int.zero_add]; exact h.2 j (by omega))
  · exact absurd h.1 hg
theorem sne_n (h : sne A B nv t g i) (hg : g = 0) : ¬ rowL A (8 * t) nv = rowL B 0 nv := by
  obtain ⟨_, h | ⟨_, j, h1, h2⟩⟩ := h
  · omega
  · intro z
    have q := rowL_inj z j h1
    rw [Int.zero_add] at q
    exact h2 q
theorem qix_f {n : Int} {R : List (List Int)} (h : rwA nv A n R) (hs : snx A B nv t) (he : rowL A (8 * t) nv = rowL B 0 nv) (h0 : 0 ≤ t) (h1 : t < n) : t = ((qix (rowL B 0 nv) R : Nat) : Int) := by
  have hn := rwA_n h
  have l : t.toNat < R.length := by omega
  have q := rwA_at h (List.getElem?_eq_getElem l)
  have z : qix (rowL B 0 nv) R = t.toNat := by
    refine qix_s R t.toNat (fun i hi hc => ?_) ?_
    · have w := rwA_at h hc
      exact hs.elim fun _ hs => hs i (by omega) w.symm
    · rw [List.getElem?_eq_getElem l, q, show ((t.toNat : Nat) : Int) = t by omega, he]
  omega
theorem qix_g {n : Int} {R : List (List Int)} (h : rwA nv A n R) (hs : snx A B nv t) (h1 : n ≤ t) : ((qix (rowL B 0 nv) R : Nat) : Int) = n := by
  have hn := rwA_n h
  have z : qix (rowL B 0 nv) R = R.length := by
    refine qix_n R (fun i hi hc => ?_)
    have w := rwA_at h hc
    exact hs.elim fun _ hs => hs i (by omega) w.symm
  omega
theorem qrw_f {n : Int} {R : List (List Int)} {r : List Int} (h : rwA nv A n R) (hq : t = ((qix r R : Nat) : Int)) (h1 : t < n) : rwA nv A n (qrw R r) := by
  have hn := rwA_n h
  unfold qrw
  rw [if_pos (by omega)]
  exact h
theorem qrw_g {n d m : Int} {R : List (List Int)} (h : rwA nv A n R) (hv : nv ≤ 8) (hq : ((qix (rowL B 0 nv) R : Nat) : Int) = n) (hd : d = n * 8) (hm : m = n + 1) (h0 : 0 ≤ n) : rwA nv (hw_cpf B A 0 d 8) m (qrw R (rowL B 0 nv)) := by
  have hn := rwA_n h
  unfold qrw
  rw [if_neg (by omega)]
  exact rwA_cp h hv rfl hd hm h0
end SN
/-! an OUTCOME is put down -/
/-- none of those from f to o leads to t -/
def rnA (A : Int → Int) (f o t : Int) : Prop := ∃ _ : Unit, ∀ i, f ≤ i → i < o → ¬ A i = t
section RN
variable {A : Int → Int} {f o o' t n m : Int} {E : List Int} {fN tN : Nat}
theorem rnA_0 (h : o = f) : rnA A f o t := ⟨(), fun i h1 h2 => absurd h1 (by omega)⟩
theorem rnA_s (h : rnA A f o t) (hn : ¬ A o = t) (ho : o' = o + 1) : rnA A f o' t := by
  subst ho
  refine ⟨(), fun i h1 h2 => ?_⟩
  by_cases e : i = o
  · rw [e]; exact hn
  · exact h.elim fun _ h => h i h1 (by omega)
theorem qre_f (h : lsA A n E) (hf : f = (fN : Int)) (ht : t = (tN : Int)) (h1 : f ≤ o) (h2 : o < n) (he : A o = t) : qre E fN tN = E := by
  have hn := lsA_n h
  unfold qre
  refine if_pos (List.mem_of_getElem? (i := o.toNat - fN) ?_)
  have l : o.toNat < E.length := by omega
  rw [List.getElem?_drop, show fN + (o.toNat - fN) = o.toNat by omega]
  have q := lsA_at h (List.getElem?_eq_getElem l)
  rw [show ((o.toNat : Nat) : Int) = o by omega] at q
  rw [List.getElem?_eq_getElem l, ← q, he, ht]
theorem qre_g (h : lsA A n E) (hf : f = (fN : Int)) (ht : t = (tN : Int)) (hr : rnA A f o t) (ho : n ≤ o) : qre E fN tN = E ++ [(tN : Int)] := by
  have hn := lsA_n h
  unfold qre
  refine if_neg (fun hm => ?_)
  obtain ⟨i, hi⟩ := List.getElem?_of_mem hm
  rw [List.getElem?_drop] at hi
  have l := (List.getElem?_eq_some_iff.mp hi).1
  have q := lsA_at h hi
  exact hr.elim fun _ hr => hr _ (by omega) (by omega) (q.trans ht.symm)
theorem qre_l : fN ≤ E.length → E.length ≤ (qre E fN tN).length ∧ (qre E fN tN).length ≤ E.length + 1 ∧ fN < (qre E fN tN).length := by
  intro h
  unfold qre
  split
  · rename_i c
    have : (E.drop fN).length ≠ 0 := fun z => by rw [List.length_eq_zero_iff.mp z] at c; cases c
    rw [List.length_drop] at this
    omega
  · rw [List.length_append]
    show _ ≤ E.length + 1 ∧ E.length + 1 ≤ _ ∧ fN < E.length + 1
    omega
end RN
section OX
variable {V : qVs} {Kc : List dC} {T : List Nat} {wy fN : Nat} {r : List Int} {Xq : qX} {nx rch : Int → Int} {p q f o oc : Int}
theorem ox_3 (h : nxP V r Kc T wy p nx) (hp : p ≤ 0) (hl : r.length = V.length) (hq : ¬ qix (rowL nx 0 V.length) Xq.1 < 24) : qO V r (qas Kc T wy) fN Xq = .inl 3 := by
  obtain ⟨e1, e2⟩ := nxP_e h hp hl
  rw [e1] at hq
  exact qO_full e2 hq
theorem ox_f (h : nxP V r Kc T wy p nx) (hp : p ≤ 0) (hl : r.length = V.length) (hq : q = ((qix (rowL nx 0 V.length) Xq.1 : Nat) : Int)) (h23 : q ≤ 23) (hL : lsA rch oc Xq.2.1) (hf : f = (fN : Int)) (he : rch o = q) (h1 : f ≤ o) (h2 : o < oc) : qO V r (qas Kc T wy) fN Xq = .inr (qrw Xq.1 (rowL nx 0 V.length), Xq.2.1, Xq.2.2) := by
  obtain ⟨e1, e2⟩ := nxP_e h hp hl
  rw [e1] at hq ⊢
  rw [qO_ok e2 (by omega), qre_f hL hf hq h1 h2 he]
theorem ox_g (h : nxP V r Kc T wy p nx) (hp : p ≤ 0) (hl : r.length = V.length) (hq : q = ((qix (rowL nx 0 V.length) Xq.1 : Nat) : Int)) (h23 : q ≤ 23) (hL : lsA rch oc Xq.2.1) (hf : f = (fN : Int)) (hr : rnA rch f o q) (h2 : oc ≤ o) : qO V r (qas Kc T wy) fN Xq = .inr (qrw Xq.1 (rowL nx 0 V.length), Xq.2.1 ++ [q], Xq.2.2) := by
  obtain ⟨e1, e2⟩ := nxP_e h hp hl
  rw [e1] at hq ⊢
  rw [qO_ok e2 (by omega), qre_g hL hf hq hr h2, hq]
end OX
theorem qrw_k {R : List (List Int)} {r x : List Int} {i : Nat} (h : R[i]? = some x) : (qrw R r)[i]? = some x := by
  unfold qrw
  split
  · exact h
  · rw [List.getElem?_append_left (List.getElem?_eq_some_iff.mp h).1]
    exact h
section QK
variable {V : qVs} {K : List dC} {r x : List Int} {A : dU} {f i : Nat} {X X' : qX} {F : Nat → dU} {T : List Nat}
theorem qO_i (h : qO V r A f X = .inr X') : X' = (qrw X.1 (qnew A r), qre X.2.1 f (qix (qnew A r) X.1), X.2.2) := by
  unfold qO at h
  split at h
  · split at h
    · injection h with h
      exact h.symm
    · cases h
  · cases h
theorem qO_k (h : qO V r A f X = .inr X') (hi : X.1[i]? = some x) : X'.1[i]? = some x := by
  rw [qO_i h]
  exact qrw_k hi
theorem qW_k : ∀ (n w : Nat) (X : qX), qW V r F f n w X = .inr X' → X.1[i]? = some x → X'.1[i]? = some x := by
  intro n
  induction n with
  | zero => intro w X h hi; injection h with h; rw [← h]; exact hi
  | succ n ih =>
    intro w X h hi
    cases hq : qO V r (F w) f X with
    | inl e => rw [qW_n hq] at h; cases h
    | inr Y => rw [qW_s hq] at h; exact ih _ Y h (qO_k hq hi)
theorem qC_k (h : qC V K r T X = .inr X') (hi : X.1[i]? = some x) : X'.1[i]? = some x := by
  unfold qC at h
  split at h
  · cases h
  · exact qW_k _ _ _ h hi
theorem qL_k : ∀ (l : List (List Nat)) (X : qX), qL V K r l X = .inr X' → X.1[i]? = some x → X'.1[i]? = some x := by
  intro l
  induction l with
  | nil => intro X h hi; injection h with h; rw [← h]; exact hi
  | cons T l ih =>
    intro X h hi
    cases hq : qC V K r T X with
    | inl e => rw [qL_n hq] at h; cases h
    | inr Y => rw [qL_s hq] at h; exact ih Y h (qC_k hq hi)
end QK
