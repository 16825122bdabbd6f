/-! the class explores: CHOICES -/
/-- what was found, in the class's arrays -/
def cX (nv : Nat) (rws rch fout : Int → Int) (st oc ch : Int) (X : qX) : Prop := ∃ _ : Unit, rwA nv rws st X.1 ∧ lsA rch oc X.2.1 ∧ lsA fout ch X.2.2 ∧ (0 < ch → fout ch = oc)
theorem cX_n {nv : Nat} {rws rch fout : Int → Int} {st oc ch : Int} {X : qX} (h : cX nv rws rch fout st oc ch X) : st = X.1.length ∧ oc = X.2.1.length ∧ ch = X.2.2.length := h.elim fun _ h => ⟨rwA_n h.1, lsA_n h.2.1, lsA_n h.2.2.1⟩
theorem cX_r {nv : Nat} {rws rch fout : Int → Int} {st oc ch : Int} {X : qX} (h : cX nv rws rch fout st oc ch X) : rwA nv rws st X.1 := h.elim fun _ h => h.1
theorem cX_l {nv : Nat} {rws rch fout : Int → Int} {st oc ch : Int} {X : qX} (h : cX nv rws rch fout st oc ch X) : lsA rch oc X.2.1 := h.elim fun _ h => h.2.1
theorem cX_e {nv : Nat} {rws rch fout rws' rch' : Int → Int} {st oc ch st' o m : Int} {X Xc : qX} (hX : cX nv rws rch fout st oc ch X) (h1 : rwA nv rws' st' Xc.1) (h2 : lsA rch' o Xc.2.1) (h3 : Xc.2.2 = X.2.2 ++ [(X.2.1.length : Int)]) (hm : m = ch + 1) : cX nv rws' rch' (hw_up (hw_up fout ch oc) m o) st' o m Xc := by
  obtain ⟨_, a1, a2, a3, _⟩ := hX
  refine ⟨(), h1, h2, ?_, fun _ => hw_up_s⟩
  rw [h3, ← lsA_n a2]
  exact lsA_u (lsA_s a3 hm) (Int.le_refl _)
/-- the ways of those that are taken, up to a party -/
def wyA (Kc : List dC) (T : List Nat) (x p : Int) : Prop := ∃ _ : Unit, (∃ xn : Nat, x = xn ∧ xn * mxp ((qup Kc T).drop p.toNat) = mxp (qup Kc T)) ∧ 1 ≤ x ∧ (p ≤ 0 → x ≤ 1) ∧ (p ≤ 1 → x ≤ 6) ∧ (p ≤ 2 → x ≤ 36) ∧ x ≤ 216
section WY
variable {V : qVs} {Kc : List dC} {M nA us st up cm vn : Int} {op wi sv sc fs fu ho ac gu lo hi bg tk : Int → Int} {T : List Nat} {pn p x r : Int}
theorem wyA_0 : wyA Kc T 1 0 := ⟨(), ⟨1, rfl, Nat.one_mul _⟩, by omega, by omega, by omega, by omega, by omega⟩
theorem wyA_b (h : wyA Kc T x p) : 1 ≤ x ∧ x ≤ 216 := h.elim fun _ h => ⟨h.2.1, h.2.2.2.2.2⟩
theorem wyA_s (hH : cH V Kc M nA op wi sv sc fs fu ho ac gu lo hi bg us st up cm vn) (hT : tkA tk pn T) (hO : tOw Kc T) (h : wyA Kc T x p) (h0 : 0 ≤ p) (h1 : p < pn) (hr : r = fu (tk p + 1) - fu (tk p)) : wyA Kc T (x * r) (p + 1) := by
  obtain ⟨k, k1, k2, k3, ⟨_, c1, c2, c3, c4, c5, c6, c7⟩, k5⟩ := tp_k hH hT hO h0 h1
  have hto := tOw_n hO
  have htn := tkA_n hT
  have b := k5.2.2.2.1
  have e := mxp_drop (qup_get (K := Kc) k1)
  have er : r = (((qcm Kc k).2.2.2.length : Nat) : Int) := by rw [hr, k2]; omega
  obtain ⟨_, ⟨xn, h2, h3⟩, h4, h5, h6, h7, h8⟩ := h
  have q1 : 1 * 1 ≤ x * r := Int.mul_le_mul h4 (by omega) (by omega) (by omega)
  have q2 : x * r ≤ x * 6 := Int.mul_le_mul_of_nonneg_left (by omega) (by omega)
  refine ⟨(), ⟨xn * (qcm Kc k).2.2.2.length, ?_, ?_⟩, by omega, by omega, by omega, by omega, by omega⟩
  · rw [h2, er]
    exact (Int.natCast_mul _ _).symm
  · rw [show (p + 1).toNat = p.toNat + 1 by omega, Nat.mul_assoc, ← e]
    exact h3
theorem wyA_e (hT : tkA tk pn T) (h : wyA Kc T x p) (hp : pn ≤ p) : x = ((mxp (qup Kc T) : Nat) : Int) := by
  have htn := tkA_n hT
  obtain ⟨_, ⟨xn, h2, h3⟩, _⟩ := h
  rw [mxp_end (by rw [qup_len]; omega), Nat.mul_one] at h3
  rw [h2, h3]
end WY
section CQ2
variable {V : qVs} {Kc : List dC} {T : List Nat} {tk rws rch fout : Int → Int} {pn p x y y' st oc ch e : Int} {r : List Int} {X Xc Xn : qX} {nv fN : Nat} {F : Nat → dU} {Q : Int ⊕ qX}
theorem cq_full (hX : cX nv rws rch fout st oc ch X) (hT : tkA tk pn T) (hw : wyA Kc T x p) (hp : pn ≤ p) (h : 200 ≤ ch ∨ 16 < x) : qC V Kc r T X = .inl 3 := by
  have e := wyA_e hT hw hp
  have n := cX_n hX
  exact qC_full (by omega)
theorem cq_go (hX : cX nv rws rch fout st oc ch X) (hT : tkA tk pn T) (hw : wyA Kc T x p) (hp : pn ≤ p) (h : ch < 200) (h2 : x ≤ 16) : qC V Kc r T X = qW V r (qas Kc T) X.2.1.length (x - 0).toNat (0 : Int).toNat (X.1, X.2.1, X.2.2 ++ [(X.2.1.length : Int)]) := by
  have e := wyA_e hT hw hp
  have n := cX_n hX
  rw [qC_go (by omega) (by omega), show (x - 0).toNat = mxp (qup Kc T) by omega]
  rfl
theorem cw_s (h0 : Q = qW V r F fN (x - y).toNat y.toNat Xc) (h : qO V r (F y.toNat) fN Xc = .inr Xn) (h1 : y < x) (h2 : 0 ≤ y) (hy : y' = y + 1) : Q = qW V r F fN (x - y').toNat y'.toNat Xn := by
  subst hy
  rw [h0, show (x - y).toNat = (x - (y + 1)).toNat + 1 by omega, qW_s h, show (y + 1).toNat = y.toNat + 1 by omega]
theorem cw_n (h0 : Q = qW V r F fN (x - y).toNat y.toNat Xc) (h : qO V r (F y.toNat) fN Xc = .inl e) (h1 : y < x) (h2 : 0 ≤ y) : Q = .inl e := by
  rw [h0, show (x - y).toNat = (x - (y + 1)).toNat + 1 by omega, qW_n h]
theorem cw_e (h0 : Q = qW V r F fN (x - y).toNat y.toNat Xc) (h1 : x ≤ y) : Q = .inr Xc := by
  rw [h0, show (x - y).toNat = 0 by omega]
  rfl
theorem qO_x {A : dU} (h : qO V r A fN Xc = .inr Xn) {E : List Int} (hc : Xc.2.2 = E) : Xn.2.2 = E := by
  rw [qO_i h]
  exact hc
end CQ2
/-! one COMMAND alone -/
/-- which COMMANDS can be taken -/
def enA (Kc : List dC) (r : List Int) (en : Int → Int) (c : Int) : Prop := ∃ _ : Unit, ∀ k : Nat, (k : Int) < c → ¬ qval (qcm Kc k).2.2.1 r = none ∧ en k = (if qen Kc r k = true then 1 else 0)
def sgF (Kc : List dC) (e : Nat → Bool) (i : Nat) : List (List Nat) := ((List.range' i (Kc.length - i)).filter (fun k => e k && decide ((qcm Kc k).2.1 < 0))).map (fun k => [k])
section SG
variable {V : qVs} {Kc : List dC} {M nA us st up cm vn : Int} {op wi sv sc fs fu ho ac gu lo hi bg tk en : Int → Int} {i i' ec : Int} {r : List Int} {X Xc Xn : qX} {Q : Int ⊕ qX} {e : Nat → Bool}
theorem rg_s {a b : Nat} (h : a < b) : List.range' a (b - a) = a :: List.range' (a + 1) (b - (a + 1)) := by
  rw [show b - a = (b - (a + 1)) + 1 by omega]
  exact List.range'_succ ..
theorem rg_e {a b : Nat} (h : b ≤ a) : List.range' a (b - a) = [] := by
  rw [show b - a = 0 by omega]
  rfl
theorem xg_0 : qL V Kc r ((qsg Kc e).map (fun k => [k])) X = qL V Kc r (sgF Kc e (0 : Int).toNat) X := by
  unfold qsg sgF
  rw [List.range_eq_range']
  rfl
theorem sgF_y {k : Nat} (h : k < Kc.length) (h1 : e k = true) (h2 : (qcm Kc k).2.1 < 0) : sgF Kc e k = [k] :: sgF Kc e (k + 1) := by
  unfold sgF
  rw [rg_s h, List.filter_cons_of_pos (by rw [h1, decide_eq_true h2]; rfl)]
  rfl
theorem sgF_n {k : Nat} (h : k < Kc.length) (h1 : e k = false ∨ ¬ (qcm Kc k).2.1 < 0) : sgF Kc e k = sgF Kc e (k + 1) := by
  unfold sgF
  rw [rg_s h, List.filter_cons_of_neg]
  rcases h1 with h1 | h1
  · rw [h1]
    exact Bool.false_ne_true
  · rw [decide_eq_false h1, Bool.and_false]
    exact Bool.false_ne_true
theorem cH_ac (hH : cH V Kc M nA op wi sv sc fs fu ho ac gu lo hi bg us st up cm vn) (h0 : 0 ≤ i) (h1 : i < cm) : i.toNat < Kc.length ∧ ac i = (qcm Kc i.toNat).2.1 ∧ ho i = (qcm Kc i.toNat).1 ∧ cdA op wi us (gu i) (qcm Kc i.toNat).2.2.1 ∧ yTd V 2 (qcm Kc i.toNat).2.2.1 := by
  have hn := cH_n hH
  obtain ⟨_, a1, a2, a3, a4, a5, a6, a7⟩ := hH
  have l : i.toNat < Kc.length := by omega
  have q := qcm_at l
  obtain ⟨_, c1, c2, c3, c4⟩ := cKs_at Kc 0 _ _ a1 q.1
  rw [show (0 : Int) + ((i.toNat : Nat) : Int) = i by omega] at c1 c2 c3
  exact ⟨l, c2, c1, c3, (a6 _ q.2).2.2.1⟩
theorem enA_at (h : enA Kc r en cm) (h0 : 0 ≤ i) (h1 : i < cm) : (en i = 0 → qen Kc r i.toNat = false) ∧ (¬ en i = 0 → qen Kc r i.toNat = true) := by
  have q := h.elim fun _ h => (h i.toNat (by omega)).2
  rw [show ((i.toNat : Nat) : Int) = i by omega] at q
  cases c : qen Kc r i.toNat with
  | false =>
    rw [c] at q
    have q : en i = 0 := q
    exact ⟨fun _ => rfl, fun z => absurd q z⟩
  | true =>
    rw [c] at q
    have q : en i = 1 := q
    exact ⟨fun z => by omega, fun _ => rfl⟩
theorem sg_y (hH : cH V Kc M nA op wi sv sc fs fu ho ac gu lo hi bg us st up cm vn) (hE : enA Kc r en cm) (h : Q = qL V Kc r (sgF Kc (qen Kc r) i.toNat) Xc) (hC : qC V Kc r [i.toNat] Xc = .inr Xn) (h0 : 0 ≤ i) (h1 : i < cm) (h2 : ¬ en i = 0) (h3 : ac i < 0) (hi : i' = i + 1) : Q = qL V Kc r (sgF Kc (qen Kc r) i'.toNat) Xn := by
  have a := cH_ac hH h0 h1
  subst hi
  rw [h, sgF_y a.1 ((enA_at hE h0 h1).2 h2) (by rw [← a.2.1]; exact h3), qL_s hC, show (i + 1).toNat = i.toNat + 1 by omega]
theorem sg_n (hH : cH V Kc M nA op wi sv sc fs fu ho ac gu lo hi bg us st up cm vn) (hE : enA Kc r en cm) (h : Q = qL V Kc r (sgF Kc (qen Kc r) i.toNat) Xc) (h0 : 0 ≤ i) (h1 : i < cm) (h2 : en i = 0 ∨ ¬ ac i < 0) (hi : i' = i + 1) : Q = qL V Kc r (sgF Kc (qen Kc r) i'.toNat) Xc := by
  have a := cH_ac hH h0 h1
  subst hi
  rw [h, sgF_n a.1 (h2.elim (fun z => Or.inl ((enA_at hE h0 h1).1 z)) (fun z => Or.inr (by rw [← a.2.1]; exact z))), show (i + 1).toNat = i.toNat + 1 by omega]
theorem sg_x (hH : cH V Kc M nA op wi sv sc fs fu ho ac gu lo hi bg us st up cm vn) (hE : enA Kc r en cm) (h : Q = qL V Kc r (sgF Kc (qen Kc r) i.toNat) Xc) (hC : qC V Kc r [i.toNat] Xc = .inl ec) (h0 : 0 ≤ i) (h1 : i < cm) (h2 : ¬ en i = 0) (h3 : ac i < 0) : Q = .inl ec := by
  have a := cH_ac hH h0 h1
  rw [h, sgF_y a.1 ((enA_at hE h0 h1).2 h2) (by rw [← a.2.1]; exact h3), qL_n hC]
theorem xg_e (hH : cH V Kc M nA op wi sv sc fs fu ho ac gu lo hi bg us st up cm vn) (h : Q = qL V Kc r (sgF Kc (qen Kc r) i.toNat) Xc) (h1 : cm ≤ i) : Q = .inr Xc := by
  have hn := cH_n hH
  rw [h]
  unfold sgF
  rw [rg_e (by omega)]
  rfl
theorem tk_1 (h0 : 0 ≤ i) : tkA (hw_up tk 0 i) 1 [i.toNat] := by
  refine ⟨(), rfl, fun p k h => ?_⟩
  cases p with
  | zero =>
    have h : some i.toNat = some k := h
    injection h with h
    rw [← h]
    show hw_up tk 0 i 0 = _
    rw [hw_up_s]
    omega
  | succ p => cases h
theorem to_1 (hH : cH V Kc M nA op wi sv sc fs fu ho ac gu lo hi bg us st up cm vn) (h0 : 0 ≤ i) (h1 : i < cm) : tOw Kc [i.toNat] := by
  have a := cH_ac hH h0 h1
  refine ⟨(), fun k hk => ?_, List.pairwise_singleton _ _, by show 1 ≤ 3; omega⟩
  rw [List.mem_singleton.mp hk]
  exact a.1
theorem tk_0 : tkA tk 0 [] := ⟨(), rfl, fun p k h => by cases h⟩
theorem to_0 : tOw Kc [] := ⟨(), fun k hk => (by cases hk), List.Pairwise.nil, by show 0 ≤ 3; omega⟩
end SG
