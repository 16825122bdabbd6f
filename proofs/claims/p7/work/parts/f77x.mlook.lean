/-! the model explores: STATES -/
/-- rows hold values of their variables -/
def rbA (V : qVs) (R : List (List Int)) : Prop := ∃ _ : Unit, ∀ r, r ∈ R → ∀ v : Nat, v < V.length → qlo V (v : Int) ≤ r.getD v 0 ∧ r.getD v 0 ≤ qhi V (v : Int)
section RB
variable {V : qVs} {K : List dC} {r : List Int} {A : dU} {f i : Nat} {X X' X1 X2 : qX} {F : Nat → dU} {T : List Nat} {nw : Int → Int} {R : List (List Int)} {M n s : Nat}
theorem rb_nb (h : rbA V R) (hr : R[i]? = some r) (he : r = rowL nw 0 V.length) : qnb V nw := by
  refine ⟨(), fun v hv => ?_⟩
  obtain ⟨h0, h1, h2⟩ := hv
  have q := h.elim fun _ h => h r (List.mem_of_getElem? hr) v.toNat (by omega)
  have e := h2 rfl
  rw [he, rowL_getD (by omega), show ((v.toNat : Nat) : Int) = v by omega, Int.zero_add] at q
  omega
theorem qO_a (h : qO V r A f X = .inr X') : ∀ a, a ∈ A → qok V r a := by
  unfold qO at h
  split at h
  · assumption
  · cases h
theorem rb_new (hA : ∀ a, a ∈ A → qok V r a) (hb : ∀ v : Nat, v < V.length → qlo V (v : Int) ≤ r.getD v 0 ∧ r.getD v 0 ≤ qhi V (v : Int)) (hl : r.length = V.length) : ∀ v : Nat, v < V.length → qlo V (v : Int) ≤ (qnew A r).getD v 0 ∧ (qnew A r).getD v 0 ≤ qhi V (v : Int) := by
  intro v hv
  have e : (qnew A r).getD v 0 = qnv A r v := by
    unfold qnew
    rw [List.getD_eq_getElem?_getD, List.getElem?_map, List.getElem?_range (by omega)]
    rfl
  rw [e]
  unfold qnv qfd
  cases hf : A.find? (fun a => decide (a.1 = (v : Int))) with
  | none => exact hb v hv
  | some a =>
    have hm := List.mem_of_find?_eq_some hf
    have he0 := List.find?_some hf
    have he : a.1 = (v : Int) := of_decide_eq_true he0
    obtain ⟨x, q1, q2, q3⟩ := hA a hm
    rw [he] at q2 q3
    show qlo V (v : Int) ≤ (qval a.2 r).getD 0 ∧ (qval a.2 r).getD 0 ≤ qhi V (v : Int)
    rw [q1]
    exact ⟨q2, q3⟩
theorem rb_O (h : qO V r A f X = .inr X') (hb : rbA V X.1) (hr : X.1[i]? = some r) (hl : r.length = V.length) : rbA V X'.1 := by
  rw [qO_i h]
  refine ⟨(), fun r' hr' v hv => ?_⟩
  have hr' : r' ∈ qrw X.1 (qnew A r) := hr'
  have hb0 := hb.elim fun _ h => h
  unfold qrw at hr'
  split at hr'
  · exact hb0 r' hr' v hv
  · rcases List.mem_append.mp hr' with z | z
    · exact hb0 r' z v hv
    · rw [List.mem_singleton.mp z]
      exact rb_new (qO_a h) (hb0 r (List.mem_of_getElem? hr)) hl v hv
theorem rb_W : ∀ (n w : Nat) (X : qX), qW V r F f n w X = .inr X' → rbA V X.1 → X.1[i]? = some r → r.length = V.length → rbA V X'.1 := by
  intro n
  induction n with
  | zero => intro w X h hb _ _; injection h with h; rw [← h]; exact hb
  | succ n ih =>
    intro w X h hb hr hl
    cases hq : qO V r (F w) f X with
    | inl e => rw [qW_n hq] at h; cases h
    | inr Y => rw [qW_s hq] at h; exact ih _ Y h (rb_O hq hb hr hl) (qO_k hq hr) hl
theorem rb_C (h : qC V K r T X = .inr X') (hb : rbA V X.1) (hr : X.1[i]? = some r) (hl : r.length = V.length) : rbA V X'.1 := by
  unfold qC at h
  split at h
  · cases h
  · exact rb_W _ _ _ h hb hr hl
theorem rb_L : ∀ (l : List (List Nat)) (X : qX), qL V K r l X = .inr X' → rbA V X.1 → X.1[i]? = some r → r.length = V.length → rbA V X'.1 := by
  intro l
  induction l with
  | nil => intro X h hb _ _; injection h with h; rw [← h]; exact hb
  | cons T l ih =>
    intro X h hb hr hl
    cases hq : qC V K r T X with
    | inl e => rw [qL_n hq] at h; cases h
    | inr Y => rw [qL_s hq] at h; exact ih Y h (rb_C hq hb hr hl) (qC_k hq hr) hl
theorem rb_A (h : qA V K M n r X = .inr X') (hb : rbA V X.1) (hr : X.1[i]? = some r) (hl : r.length = V.length) : rbA V X'.1 := by
  cases h1 : qL V K r ((qsg K (qen K r)).map (fun k => [k])) X with
  | inl e => rw [qA_1 h1] at h; cases h
  | inr X1 =>
    have b1 := rb_L _ _ h1 hb hr hl
    have r1 := qL_k _ _ h1 hr
    cases h2 : qL V K r (qjt K (qen K r) M n) X1 with
    | inl e => rw [qA_2 h1 h2] at h; cases h
    | inr X2 =>
      have b2 := rb_L _ _ h2 b1 r1 hl
      have r2 := qL_k _ _ h2 r1
      rw [qA_3 h1 h2] at h
      unfold qst at h
      split at h
      · exact rb_C h b2 r2 hl
      · injection h with h
        rw [← h]
        exact b2
theorem qnew_0 : qnew [] r = r := by
  unfold qnew
  apply List.ext_getElem?
  intro i
  rw [List.getElem?_map]
  by_cases l : i < r.length
  · rw [List.getElem?_range l, List.getElem?_eq_getElem l]
    show some (r.getD i 0) = _
    rw [List.getD_eq_getElem?_getD, List.getElem?_eq_getElem l]
    rfl
  · rw [List.getElem?_eq_none (by rw [List.length_range]; omega), List.getElem?_eq_none (by omega)]
    rfl
/-- the CHOICE that stays -/
theorem qC_stay (h : X.2.2.length < 200) (hs : X.1[s]? = some r) (hx : qix r X.1 = s) (h24 : s < 24) : qC V K r [] X = .inr (X.1, X.2.1 ++ [(s : Int)], X.2.2 ++ [(X.2.1.length : Int)]) := by
  have l := (List.getElem?_eq_some_iff.mp hs).1
  have e0 : mxp (qup K []) = 1 := rfl
  have hO : qO V r (qas K [] 0) X.2.1.length (X.1, X.2.1, X.2.2 ++ [(X.2.1.length : Int)]) = .inr (X.1, X.2.1 ++ [(s : Int)], X.2.2 ++ [(X.2.1.length : Int)]) := by
    have ea : qas K [] 0 = [] := rfl
    rw [ea, qO_ok (fun a ha => by cases ha) (by rw [qnew_0]; show qix r X.1 < 24; omega), qnew_0]
    show (Sum.inr (qrw X.1 r, qre X.2.1 X.2.1.length (qix r X.1), X.2.2 ++ [(X.2.1.length : Int)]) : Int ⊕ qX) = _
    unfold qrw qre
    rw [hx, if_pos l, List.drop_length, if_neg (fun z => by cases z)]
  rw [qC_go (by omega) (by rw [e0]; omega), e0, qW_s hO]
  rfl
end RB
theorem dr_ix {vl : Int → Int} {vn ns s : Int} {nv : Nat} {R : List (List Int)} {r : List Int} (hd : dr_ok vl vn ns) (hr : rwA nv vl ns R) (hv : vn = nv) (hs : R[s.toNat]? = some r) (h0 : 0 ≤ s) : qix r R = s.toNat := by
  refine qix_s R s.toNat (fun i hi e => ?_) hs
  have e1 := rwA_at hr e
  have e2 := rwA_at hr hs
  have l := (List.getElem?_eq_some_iff.mp hs).1
  have n := rwA_n hr
  obtain ⟨_, hd⟩ := hd
  obtain ⟨v, v0, v1, v2⟩ := hd i s.toNat (by omega) (by omega) (by omega)
  have q := rowL_inj (e1.symm.trans e2) v.toNat (by omega)
  rw [show ((v.toNat : Nat) : Int) = v by omega] at q
  exact v2 q
/-- a row is copied -/
def cpj (nw vl : Int → Int) (b v : Int) : Prop := ∃ _ : Unit, ∀ q : Int, 0 ≤ q → q < v → nw q = vl (b + q)
theorem cpj_0 {nw vl : Int → Int} {b : Int} : cpj nw vl b 0 := ⟨(), fun q h1 h2 => absurd h1 (by omega)⟩
theorem cpj_s {nw vl : Int → Int} {b v p x : Int} (h : cpj nw vl b v) (hx : x = vl (b + v)) (hp : p = v + 1) : cpj (hw_up nw v x) vl b p := h.elim fun _ h => ⟨(), fun q h1 h2 => by
  by_cases e : q = v
  · rw [e, hw_up_s, hx]
  · rw [hw_up_n e]
    exact h q h1 (by omega)⟩
/-- all that was found, in the model's arrays -/
def mY (nv : Nat) (vl go fo fc tg : Int → Int) (ns oc nc s : Int) (Y : qY) : Prop := ∃ _ : Unit, (rwA nv vl ns Y.1.1 ∧ lsA go oc Y.1.2.1 ∧ lsA fo nc Y.1.2.2) ∧ lsA fc s Y.2.1 ∧ lsA tg s Y.2.2
/-- the row of a STATE is the one that is looked at -/
def rrA (V : qVs) (R : List (List Int)) (s : Int) (nw : Int → Int) : Prop := ∃ _ : Unit, R[s.toNat]? = some (rowL nw 0 V.length) ∧ qnb V nw
def enP (Kc : List dC) (C : yC) (r : List Int) (ho : Int → Int) (k pb : Int) : Prop := ∃ _ : Unit, (pb = 0 → enA Kc r ho k) ∧ (pb = 2 → ¬ qgd Kc C r)
/-- a STATE is looked at: no guard is BROKEN, whether it is in the target -/
def smA (D : dT) (s : Int) (r : List Int) (y : Int) (Y : qY) : Prop := ∃ _ : Unit, Y.1.1[s.toNat]? = some r ∧ qgd D.2.1.2.1 D.2.2.2 r ∧ ∃ x, qval D.2.2.2 r = some x ∧ ((x = 0 ∧ y = 0) ∨ (¬ x = 0 ∧ y = 1))
section LK
variable {D : dT} {V : qVs} {Kc : List dC} {C : yC} {cd gu up st cm ca lo hi fi vl go fo fc tg nw ho vl' go' fo' : Int → Int} {cn vn md an ta ns oc nc s s' ns' oc' nc' k k' x y e b c0 i i' a a' : Int} {Y Yn : qY} {X X' X1 Xc Xn : qX} {r : List Int} {nv M n : Nat} {R : List (List Int)} {Q : Int ⊕ qX}
theorem mY_n (h : mY nv vl go fo fc tg ns oc nc s Y) : ns = Y.1.1.length ∧ oc = Y.1.2.1.length ∧ nc = Y.1.2.2.length ∧ s = Y.2.1.length := h.elim fun _ h => ⟨rwA_n h.1.1, lsA_n h.1.2.1, lsA_n h.1.2.2, lsA_n h.2.1⟩
theorem mY_r (h : mY nv vl go fo fc tg ns oc nc s Y) : rwA nv vl ns Y.1.1 := h.elim fun _ h => h.1.1
theorem mY_g (h : mY nv vl go fo fc tg ns oc nc s Y) : lsA go oc Y.1.2.1 := h.elim fun _ h => h.1.2.1
theorem mY_f (h : mY nv vl go fo fc tg ns oc nc s Y) : lsA fo nc Y.1.2.2 := h.elim fun _ h => h.1.2.2
theorem rr_i (hY : mY V.length vl go fo fc tg ns oc nc s Y) (hb : rbA V Y.1.1) (hc : cpj nw vl b k) (hk : (V.length : Int) ≤ k) (hs : 0 ≤ s) (hn : s < ns) (he : b = 8 * s) : rrA V Y.1.1 s nw := by
  have n := mY_n hY
  have l : s.toNat < Y.1.1.length := by omega
  have q := rwA_at (mY_r hY) (List.getElem?_eq_getElem l)
  have e1 : rowL vl (8 * ((s.toNat : Nat) : Int)) V.length = rowL nw 0 V.length := rowL_ext (fun i hi => by
    have z := hc.elim fun _ hc => hc (i : Int) (by omega) (by omega)
    rw [Int.zero_add, z]
    exact congrArg vl (by omega))
  have g := List.getElem?_eq_getElem l
  rw [q, e1] at g
  exact ⟨(), g, rb_nb hb g rfl⟩
theorem rr_b (h : rrA V R s nw) : qnb V nw := h.elim fun _ h => h.2
theorem rr_s (h : rrA V R s nw) : R[s.toNat]? = some (rowL nw 0 V.length) := h.elim fun _ h => h.1
theorem en_0 (hp : x = 0) : enP Kc C r ho 0 x := ⟨(), fun _ => enA_0, fun z => absurd z (by omega)⟩
theorem en_s (h : enP Kc C r ho k e) (he : e = 0) (hq : qval (qcm Kc k.toNat).2.2.1 r = some x) (hb : x = 0 ∨ x = 1) (h0 : 0 ≤ k) (hk : k' = k + 1) (hy : (x = 1 ∧ y = 1) ∨ (¬ x = 1 ∧ y = 0)) : enP Kc C r (hw_up ho k y) k' e := h.elim fun _ h => ⟨(), fun _ => enA_s (h.1 he) hq h0 hk (by omega), fun z => absurd z (by omega)⟩
theorem en_b (hq : qval (qcm Kc k.toNat).2.2.1 r = none) (h0 : 0 ≤ k) (h1 : k < Kc.length) : enP Kc C r ho k' 2 := ⟨(), fun z => absurd z (by decide), fun _ => qgd_n hq h0 h1⟩
theorem en_n (h : enP Kc C r ho k e) (he : e = 2) : ¬ qgd Kc C r := h.elim fun _ h => h.2 he
theorem en_y (h : enP Kc C r ho k e) (he : e = 0) : enA Kc r ho k := h.elim fun _ h => h.1 he
theorem en_x (h : enP Kc C r ho k e) (he : e = 0) (hk : k' = k) : enA Kc r ho k' := hk ▸ en_y h he
theorem sm_i (h : rrA D.2.1.1 Y.1.1 s nw) (hE : enA D.2.1.2.1 (rowL nw 0 D.2.1.1.length) ho k) (hk : D.2.1.2.1.length ≤ k) (hq : qval D.2.2.2 (rowL nw 0 D.2.1.1.length) = some x) (hb : x = 0 ∨ x = 1) (hy : (x = 1 ∧ y = 1) ∨ (¬ x = 1 ∧ y = 0)) : smA D s (rowL nw 0 D.2.1.1.length) y Y := ⟨(), rr_s h, qgd_s hE hk hq, x, hq, by omega⟩
/-- the state's code and TYPE -/
theorem mH_g (h : mH D cd gu up st cm ca lo hi fi cn vn md an ta) (h0 : 0 ≤ k) (h1 : k < cn) : ∃ cs, cs ≤ 8000 ∧ mcd cd cs (gu k) (qcm D.2.1.2.1 k.toNat).2.2.1 ∧ yTd D.2.1.1 2 (qcm D.2.1.2.1 k.toNat).2.2.1 := by
  have n := mH_n h
  obtain ⟨cs, c0, q, c2⟩ := mH_k h (k := k.toNat) (by omega)
  have q3 := q.2.2.1
  rw [show ((k.toNat : Nat) : Int) = k by omega] at q3
  exact ⟨cs, c0, q3, c2.2.2.1⟩
theorem mH_t (h : mH D cd gu up st cm ca lo hi fi cn vn md an ta) : ∃ cs, cs ≤ 8000 ∧ mcd cd cs ta D.2.2.2 ∧ yTd D.2.1.1 2 D.2.2.2 := by
  obtain ⟨_, ⟨cs, h1, h2, h3, h4, h6⟩, h5⟩ := h
  exact ⟨cs, h6, h4, h5.elim fun _ h5 => h5.2.2.2.2.2.1⟩
/-! one COMMAND alone -/
theorem msg_y (hm : mcA Kc cm ca cn) (hE : enA Kc r ho cn) (h : Q = qL V Kc r (sgF Kc (qen Kc r) i.toNat) Xc) (hC : qC V Kc r [i.toNat] Xc = .inr Xn) (h0 : 0 ≤ i) (h1 : i < cn) (h2 : ¬ ho i = 0) (h3 : ca i < 0) (hi : i' = i + 1) : Q = qL V Kc r (sgF Kc (qen Kc r) i'.toNat) Xn := by
  have q := mc_at hm h0 h1
  have n := mc_n hm
  rw [h, sgF_y (by omega) ((enA_at hE h0 h1).2 h2) (by omega), qL_s hC, hi, show (i + 1).toNat = i.toNat + 1 by omega]
theorem msg_n (hm : mcA Kc cm ca cn) (hE : enA Kc r ho cn) (h : Q = qL V Kc r (sgF Kc (qen Kc r) i.toNat) Xc) (h0 : 0 ≤ i) (h1 : i < cn) (h2 : ho i = 0 ∨ 0 ≤ ca i) (hi : i' = i + 1) : Q = qL V Kc r (sgF Kc (qen Kc r) i'.toNat) Xc := by
  have q := mc_at hm h0 h1
  have n := mc_n hm
  rw [h, sgF_n (k := i.toNat) (by omega), hi, show (i + 1).toNat = i.toNat + 1 by omega]
  rcases h2 with h2 | h2
  · exact Or.inl ((enA_at hE h0 h1).1 h2)
  · exact Or.inr (by omega)
theorem msg_x (hm : mcA Kc cm ca cn) (hE : enA Kc r ho cn) (h : Q = qL V Kc r (sgF Kc (qen Kc r) i.toNat) Xc) (hC : qC V Kc r [i.toNat] Xc = .inl e) (h0 : 0 ≤ i) (h1 : i < cn) (h2 : ¬ ho i = 0) (h3 : ca i < 0) : Q = .inl e := by
  have q := mc_at hm h0 h1
  have n := mc_n hm
  rw [h, sgF_y (by omega) ((enA_at hE h0 h1).2 h2) (by omega), qL_n hC]
theorem msg_e (hm : mcA Kc cm ca cn) (h : Q = qL V Kc r (sgF Kc (qen Kc r) i.toNat) Xc) (h1 : cn ≤ i) : Q = .inr Xc := by
  have n := mc_n hm
  have e0 : sgF Kc (qen Kc r) i.toNat = [] := by
    unfold sgF
    rw [rg_e (by omega)]
    rfl
  rw [h, e0]
  rfl
theorem mto_1 (hm : mcA Kc cm ca cn) (h0 : 0 ≤ i) (h1 : i < cn) : tOw Kc [i.toNat] := by
  have n := mc_n hm
  refine ⟨(), fun k hk => ?_, List.pairwise_singleton _ _, by show 1 ≤ 3; omega⟩
  rw [List.mem_singleton.mp hk]
  omega
/-! the actions -/
theorem mjt_s (h : Q = qL V Kc r (jtF Kc (qen Kc r) M n a.toNat) Xc) (hT : qL V Kc r (qtg Kc (qen Kc r) M a) Xc = .inr Xn) (h0 : 0 ≤ a) (h1 : a < n) (ha : a' = a + 1) : Q = qL V Kc r (jtF Kc (qen Kc r) M n a'.toNat) Xn := by
  rw [h, jt_s (by omega), show ((a.toNat : Nat) : Int) = a by omega, qL_app, hT, ha, show (a + 1).toNat = a.toNat + 1 by omega]
  rfl
theorem mjt_n (h : Q = qL V Kc r (jtF Kc (qen Kc r) M n a.toNat) Xc) (hT : qL V Kc r (qtg Kc (qen Kc r) M a) Xc = .inl e) (h0 : 0 ≤ a) (h1 : a < n) : Q = .inl e := by
  rw [h, jt_s (by omega), show ((a.toNat : Nat) : Int) = a by omega, qL_app, hT]
  rfl
/-! what a STATE gives -/
theorem sm_b (h : rrA D.2.1.1 Y.1.1 s nw) (hg : ¬ qgd D.2.1.2.1 D.2.2.2 (rowL nw 0 D.2.1.1.length)) : qSt D s.toNat Y = .inl 2 := qS_b (rr_s h) hg
theorem sm_b2 (h : rrA D.2.1.1 Y.1.1 s nw) (hE : enP D.2.1.2.1 D.2.2.2 (rowL nw 0 D.2.1.1.length) ho k e) (he : e = 2) : qSt D s.toNat Y = .inl e := by
  rw [sm_b h (en_n hE he), he]
theorem sm_e (h : smA D s r y Y) (hM : md = D.2.2.1) (hA : qA D.2.1.1 D.2.1.2.1 md.toNat D.2.1.2.2.length r Y.1 = .inl e) : qSt D s.toNat Y = .inl e := by
  rw [hM] at hA
  exact h.elim fun _ h => qS_n h.1 h.2.1 hA
theorem smA_s (h : smA D s r y Y) (hM : md = D.2.2.1) (hA : qA D.2.1.1 D.2.1.2.1 md.toNat D.2.1.2.2.length r Y.1 = .inr X) : qSt D s.toNat Y = .inr (X, Y.2.1 ++ [(Y.1.2.2.length : Int)], Y.2.2 ++ [y]) := by
  rw [hM] at hA
  exact h.elim fun _ h => h.2.2.elim fun _ h3 => qS_s h.1 h.2.1 hA h3.1 h3.2
theorem mjt_0 : qL V Kc r (qjt Kc (qen Kc r) M n) Xc = qL V Kc r (jtF Kc (qen Kc r) M n (0 : Int).toNat) Xc := by
  rw [jt_0]
theorem lsA_se {L W : List Int} {l m : Int} (h : lsA fo nc L) (hl : lsA go oc W) (ho : l = (W.length : Int)) (hm : m = nc + 1) : lsA (hw_up fo nc oc) m (L ++ [l]) := by
  have q := lsA_n hl
  rw [show l = oc by omega]
  exact lsA_s h hm
theorem mY_s (hY : mY nv vl go fo fc tg ns oc nc s Y) (h1 : rwA nv vl' ns' X.1) (h2 : lsA go' oc' X.2.1) (h3 : lsA fo' nc' X.2.2) (hc : c0 = nc) (hs : s' = s + 1) : mY nv vl' go' fo' (hw_up fc s c0) (hw_up tg s y) ns' oc' nc' s' (X, Y.2.1 ++ [(Y.1.2.2.length : Int)], Y.2.2 ++ [y]) := by
  have n := mY_n hY
  obtain ⟨_, _, h5, h6⟩ := hY
  refine ⟨(), ⟨h1, h2, h3⟩, ?_, lsA_s h6 hs⟩
  rw [← n.2.2.1, ← hc]
  exact lsA_s h5 hs
theorem sm_r (h : smA D s r y Y) : Y.1.1[s.toNat]? = some r := h.elim fun _ h => h.1
/-- it stays -/
theorem stay_y (hA : qA V Kc M n r X = qst V Kc r X.2.2.length X1) (hl : lsA fo nc X1.2.2) (hl0 : (X.2.2.length : Int) = c0) (hc : nc ≤ c0) (hc2 : c0 ≤ nc) (h199 : nc ≤ 199) (hd : dr_ok vl vn ns) (hr : rwA nv vl ns X1.1) (hv : vn = nv) (hs : X1.1[s.toNat]? = some r) (h0 : 0 ≤ s) (h24 : s < 24) : qA V Kc M n r X = .inr (X1.1, X1.2.1 ++ [s], X1.2.2 ++ [(X1.2.1.length : Int)]) := by
  have l := lsA_n hl
  have ix := dr_ix hd hr hv hs h0
  rw [hA, qst_y (by omega), qC_stay (by omega) hs ix (by omega), show ((s.toNat : Nat) : Int) = s by omega]
theorem stay_f (hA : qA V Kc M n r X = qst V Kc r X.2.2.length X1) (hl : lsA fo nc X1.2.2) (hl0 : (X.2.2.length : Int) = c0) (hc : nc ≤ c0) (hc2 : c0 ≤ nc) (h200 : 200 ≤ nc) : qA V Kc M n r X = .inl 3 := by
  have l := lsA_n hl
  rw [hA, qst_y (by omega), qC_full (by omega)]
theorem stay_n (hA : qA V Kc M n r X = qst V Kc r X.2.2.length X1) (hl : lsA fo nc X1.2.2) (hl0 : (X.2.2.length : Int) = c0) (hc : c0 < nc) : qA V Kc M n r X = .inr X1 := by
  have l := lsA_n hl
  rw [hA, qst_n (by omega)]
end LK
