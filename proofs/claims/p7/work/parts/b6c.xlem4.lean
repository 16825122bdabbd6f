/-! the class explores: STATES -/
theorem enA_0 {Kc : List dC} {r : List Int} {en : Int → Int} : enA Kc r en 0 := ⟨(), fun k h => absurd h (by omega)⟩
section EN
variable {Kc : List dC} {r : List Int} {en : Int → Int} {c c' x y : Int} {C : yC}
theorem qen_y (h : qval (qcm Kc c.toNat).2.2.1 r = some x) : qen Kc r c.toNat = if x = 0 then false else true := by
  unfold qen
  rw [h]
  by_cases e : x = 0
  · subst e
    rw [if_pos rfl, decide_eq_true rfl]
    rfl
  · rw [if_neg e, decide_eq_false (fun z => e (by injection z))]
    rfl
theorem enA_s (h : enA Kc r en c) (hq : qval (qcm Kc c.toNat).2.2.1 r = some x) (h0 : 0 ≤ c) (hc : c' = c + 1) (hy : (x = 0 ∧ y = 0) ∨ (¬ x = 0 ∧ y = 1)) : enA Kc r (hw_up en c y) c' := by
  subst hc
  refine ⟨(), fun k hk => ?_⟩
  by_cases e : (k : Int) = c
  · have e2 : k = c.toNat := by omega
    rw [e2, hq, qen_y hq, show ((c.toNat : Nat) : Int) = c by omega, hw_up_s]
    refine ⟨fun z => (by cases z), ?_⟩
    rcases hy with ⟨h1, h2⟩ | ⟨h1, h2⟩
    · rw [if_pos h1, h2]
      rfl
    · rw [if_neg h1, h2]
      rfl
  · rw [hw_up_n e]
    exact h.elim fun _ h => h k (by omega)
theorem qgd_n (h : qval (qcm Kc c.toNat).2.2.1 r = none) (h0 : 0 ≤ c) (h1 : c < Kc.length) : ¬ qgd Kc C r := fun z => z.1 c.toNat (by omega) h
theorem qgd_t (h : qval C r = none) : ¬ qgd Kc C r := fun z => z.2 h
theorem qgd_s (h : enA Kc r en c) (hc : Kc.length ≤ c) (hq : qval C r = some x) : qgd Kc C r := ⟨fun k hk => h.elim fun _ h => (h k (by omega)).1, fun z => by rw [hq] at z; cases z⟩
end EN
/-- all that was found, in the class's arrays -/
def cY (nv : Nat) (rws rch fout fc tg : Int → Int) (st oc ch s : Int) (Y : qY) : Prop := ∃ _ : Unit, cX nv rws rch fout st oc ch Y.1 ∧ lsA fc s Y.2.1 ∧ lsA tg s Y.2.2 ∧ (0 < s → fc s = ch)
section CY
variable {nv : Nat} {rws rch fout fc tg rws' rch' fout' : Int → Int} {st oc ch st' oc' ch' s s' x y : Int} {Y : qY} {X : qX} {D : dT} {Q : Int ⊕ qY} {f : Nat}
theorem cY_x (h : cY nv rws rch fout fc tg st oc ch s Y) : cX nv rws rch fout st oc ch Y.1 := h.elim fun _ h => h.1
theorem cY_s (h : cY nv rws rch fout fc tg st oc ch s Y) (hX : cX nv rws' rch' fout' st' oc' ch' X) (hs : s' = s + 1) : cY nv rws' rch' fout' (hw_up (hw_up fc s ch) s' ch') (hw_up tg s y) st' oc' ch' s' (X, Y.2.1 ++ [(Y.1.2.2.length : Int)], Y.2.2 ++ [y]) := by
  obtain ⟨_, h1, h2, h3, h4⟩ := h
  have n := cX_n h1
  refine ⟨(), hX, ?_, lsA_s h3 hs, fun _ => hw_up_s⟩
  rw [← n.2.2]
  exact lsA_u (lsA_s h2 hs) (Int.le_refl _)
/-- from a STATE on -/
theorem ce_s (h0 : Q = qE D (25 - s).toNat s.toNat Y) (h1 : s < 25) (h2 : 0 ≤ s) {Y' : qY} (hl : s < Y.1.1.length) (h : qSt D s.toNat Y = .inr Y') : Q = qE D (25 - (s + 1)).toNat (s + 1).toNat Y' := by
  rw [h0, show (25 - s).toNat = (25 - (s + 1)).toNat + 1 by omega]
  show (if s.toNat < Y.1.1.length then (match qSt D s.toNat Y with | .inl e => (Sum.inl e : Int ⊕ qY) | .inr Y => qE D (25 - (s + 1)).toNat (s.toNat + 1) Y) else .inr Y) = _
  rw [if_pos (by omega), h, show (s + 1).toNat = s.toNat + 1 by omega]
theorem ce_n {e : Int} (h0 : Q = qE D (25 - s).toNat s.toNat Y) (h1 : s < 25) (h2 : 0 ≤ s) (hl : s < Y.1.1.length) (h : qSt D s.toNat Y = .inl e) : Q = .inl e := by
  rw [h0, show (25 - s).toNat = (25 - (s + 1)).toNat + 1 by omega]
  show (if s.toNat < Y.1.1.length then (match qSt D s.toNat Y with | .inl e => (Sum.inl e : Int ⊕ qY) | .inr Y => qE D (25 - (s + 1)).toNat (s.toNat + 1) Y) else .inr Y) = _
  rw [if_pos (by omega), h]
theorem ce_e (h0 : Q = qE D (25 - s).toNat s.toNat Y) (h2 : 0 ≤ s) (hl : Y.1.1.length ≤ s) : Q = .inr Y := by
  rw [h0]
  cases k : (25 - s).toNat with
  | zero => rfl
  | succ k =>
    show (if s.toNat < Y.1.1.length then _ else (Sum.inr Y : Int ⊕ qY)) = _
    rw [if_neg (by omega)]
end CY
section QSL
variable {D : dT} {s : Nat} {Y : qY} {r : List Int} {X X1 X2 : qX} {e x y : Int}
theorem qS_b (hr : Y.1.1[s]? = some r) (h : ¬ qgd D.2.1.2.1 D.2.2.2 r) : qSt D s Y = .inl 2 := by
  have er : Y.1.1.getD s [] = r := by rw [List.getD_eq_getElem?_getD, hr]; rfl
  unfold qSt
  rw [er]
  exact if_neg h
theorem qS_n (hr : Y.1.1[s]? = some r) (h : qgd D.2.1.2.1 D.2.2.2 r) (hA : qA D.2.1.1 D.2.1.2.1 D.2.2.1.toNat D.2.1.2.2.length r Y.1 = .inl e) : qSt D s Y = .inl e := by
  have er : Y.1.1.getD s [] = r := by rw [List.getD_eq_getElem?_getD, hr]; rfl
  unfold qSt
  rw [er, if_pos h, hA]
theorem qS_s (hr : Y.1.1[s]? = some r) (h : qgd D.2.1.2.1 D.2.2.2 r) (hA : qA D.2.1.1 D.2.1.2.1 D.2.2.1.toNat D.2.1.2.2.length r Y.1 = .inr X) (hq : qval D.2.2.2 r = some x) (hy : (x = 0 ∧ y = 0) ∨ (¬ x = 0 ∧ y = 1)) : qSt D s Y = .inr (X, Y.2.1 ++ [(Y.1.2.2.length : Int)], Y.2.2 ++ [y]) := by
  have er : Y.1.1.getD s [] = r := by rw [List.getD_eq_getElem?_getD, hr]; rfl
  have ey : (if qval D.2.2.2 r = some 0 then (0 : Int) else 1) = y := by
    rw [hq]
    rcases hy with ⟨h1, h2⟩ | ⟨h1, h2⟩
    · rw [h1, h2, if_pos rfl]
    · rw [if_neg (fun z => h1 (by injection z)), h2]
  unfold qSt
  rw [er, if_pos h, hA, ey]
variable {V : qVs} {Kc : List dC} {M n : Nat} {ch ch1 : Int}
theorem qA_1 (h : qL V Kc r ((qsg Kc (qen Kc r)).map (fun k => [k])) X = .inl e) : qA V Kc M n r X = .inl e := by
  unfold qA
  rw [h]
  rfl
theorem qA_2 (h : qL V Kc r ((qsg Kc (qen Kc r)).map (fun k => [k])) X = .inr X1) (h2 : qL V Kc r (qjt Kc (qen Kc r) M n) X1 = .inl e) : qA V Kc M n r X = .inl e := by
  unfold qA
  rw [h]
  show qbd (qL V Kc r (qjt Kc (qen Kc r) M n) X1) _ = _
  rw [h2]
  rfl
theorem qA_3 (h : qL V Kc r ((qsg Kc (qen Kc r)).map (fun k => [k])) X = .inr X1) (h2 : qL V Kc r (qjt Kc (qen Kc r) M n) X1 = .inr X2) : qA V Kc M n r X = qst V Kc r X.2.2.length X2 := by
  unfold qA
  rw [h]
  show qbd (qL V Kc r (qjt Kc (qen Kc r) M n) X1) _ = _
  rw [h2]
  rfl
theorem qst_y (h : X2.2.2.length = n) : qst V Kc r n X2 = qC V Kc r [] X2 := if_pos h
theorem qst_n (h : ¬ X2.2.2.length = n) : qst V Kc r n X2 = .inr X2 := if_neg h
end QSL
def qgW (Kc : List dC) (C : yC) (r : List Int) : Prop := ∃ _ : Unit, qgd Kc C r
def qgN (Kc : List dC) (C : yC) (r : List Int) : Prop := ∃ _ : Unit, ¬ qgd Kc C r
def xyA (x y : Int) : Prop := ∃ _ : Unit, (x = 0 ∧ y = 0) ∨ (¬ x = 0 ∧ y = 1)
/-- a STATE is looked at: all before is done, no guard is BROKEN, whether it is in the target -/
def stA (D : dT) (s : Int) (r : List Int) (y : Int) (Y : qY) : Prop := ∃ _ : Unit, qEx D = qE D (25 - s).toNat s.toNat Y ∧ Y.1.1[s.toNat]? = some r ∧ qgd D.2.1.2.1 D.2.2.2 r ∧ (∃ x, qval D.2.2.2 r = some x ∧ ((x = 0 ∧ y = 0) ∨ (¬ x = 0 ∧ y = 1))) ∧ 0 ≤ s ∧ s < 24
section STA
variable {D : dT} {s s' x y e : Int} {r : List Int} {Y : qY} {X X1 X2 : qX}
theorem st_l (h : Y.1.1[s.toNat]? = some r) (h0 : 0 ≤ s) : s < Y.1.1.length := by
  have l := (List.getElem?_eq_some_iff.mp h).1
  omega
theorem st_i (h0 : qEx D = qE D (25 - s).toNat s.toNat Y) (hr : Y.1.1[s.toNat]? = some r) (hg : qgW D.2.1.2.1 D.2.2.2 r) (hq : qval D.2.2.2 r = some x) (hy : xyA x y) (h1 : 0 ≤ s) (h2 : s < 24) : stA D s r y Y := ⟨(), h0, hr, hg.elim fun _ h => h, ⟨x, hq, hy.elim fun _ h => h⟩, h1, h2⟩
theorem st_b (h0 : qEx D = qE D (25 - s).toNat s.toNat Y) (hr : Y.1.1[s.toNat]? = some r) (hg : qgN D.2.1.2.1 D.2.2.2 r) (h1 : 0 ≤ s) (h2 : s < 24) : qEx D = .inl 2 := ce_n h0 (by omega) h1 (st_l hr h1) (qS_b hr (hg.elim fun _ h => h))
theorem xst_e (h : stA D s r y Y) (hA : qA D.2.1.1 D.2.1.2.1 D.2.2.1.toNat D.2.1.2.2.length r Y.1 = .inl e) : qEx D = .inl e := by
  obtain ⟨_, h0, hr, hg, _, h1, h2⟩ := h
  exact ce_n h0 (by omega) h1 (st_l hr h1) (qS_n hr hg hA)
theorem st_n (h : stA D s r y Y) (hA : qA D.2.1.1 D.2.1.2.1 D.2.2.1.toNat D.2.1.2.2.length r Y.1 = .inr X) (hs : s' = s + 1) : qEx D = qE D (25 - s').toNat s'.toNat (X, Y.2.1 ++ [(Y.1.2.2.length : Int)], Y.2.2 ++ [y]) := by
  subst hs
  obtain ⟨_, h0, hr, hg, ⟨x, hq, hy⟩, h1, h2⟩ := h
  exact ce_s h0 (by omega) h1 (st_l hr h1) (qS_s hr hg hA hq hy)
theorem st_r (h : stA D s r y Y) : Y.1.1[s.toNat]? = some r := h.elim fun _ h => h.2.1
end STA
theorem cY_n {nv : Nat} {rws rch fout fc tg : Int → Int} {st oc ch s : Int} {Y : qY} (h : cY nv rws rch fout fc tg st oc ch s Y) : st = Y.1.1.length ∧ oc = Y.1.2.1.length ∧ ch = Y.1.2.2.length ∧ s = Y.2.1.length := h.elim fun _ h => ⟨(cX_n h.1).1, (cX_n h.1).2.1, (cX_n h.1).2.2, lsA_n h.2.1⟩
theorem cY_r {nv : Nat} {rws rch fout fc tg : Int → Int} {st oc ch s i : Int} {Y : qY} (h : cY nv rws rch fout fc tg st oc ch s Y) (h0 : 0 ≤ i) (h1 : i < st) : Y.1.1[i.toNat]? = some (rowL rws (8 * i) nv) := by
  have n := cY_n h
  have l : i.toNat < Y.1.1.length := by omega
  have e := rwA_at (cX_r (cY_x h)) (List.getElem?_eq_getElem l)
  rw [show ((i.toNat : Nat) : Int) = i by omega] at e
  rw [List.getElem?_eq_getElem l, e]
theorem cX_at {nv : Nat} {rws rch fout : Int → Int} {st oc ch i : Int} {X : qX} {r : List Int} (h : cX nv rws rch fout st oc ch X) (hr : X.1[i.toNat]? = some r) (h0 : 0 ≤ i) : r = rowL rws (8 * i) nv := by
  have e := rwA_at (cX_r h) hr
  rw [show ((i.toNat : Nat) : Int) = i by omega] at e
  exact e
theorem cY_0 {nv : Nat} {rws rch fout fc tg bg : Int → Int} {D : dT} (hb : qin D = rowL bg 0 nv) (hv : nv ≤ 8) : cY nv (hw_cpf bg rws 0 0 8) rch fout fc tg 1 0 0 0 (([qin D], [], []), [], []) := by
  refine ⟨(), ⟨(), ⟨(), rfl, fun t r ht => ?_⟩, lsA_0, lsA_0, fun h => absurd h (by omega)⟩, lsA_0, lsA_0, fun h => absurd h (by omega)⟩
  cases t with
  | zero =>
    have ht : some (qin D) = some r := ht
    injection ht with ht
    rw [← ht, hb]
    exact (rowL_cp hv (by omega)).symm
  | succ t => cases ht
theorem qA_y {V : qVs} {Kc : List dC} {M n : Nat} {r : List Int} {X X2 X3 : qX} {ch : Int} (h : qA V Kc M n r X = qst V Kc r X.2.2.length X2) (hc : ch = X2.2.2.length) (h0 : ch = X.2.2.length) (hC : qC V Kc r [] X2 = .inr X3) : qA V Kc M n r X = .inr X3 := by
  rw [h, qst_y (by omega), hC]
theorem qA_yn {V : qVs} {Kc : List dC} {M n : Nat} {r : List Int} {X X2 : qX} {ch e : Int} (h : qA V Kc M n r X = qst V Kc r X.2.2.length X2) (hc : ch = X2.2.2.length) (h0 : ch = X.2.2.length) (hC : qC V Kc r [] X2 = .inl e) : qA V Kc M n r X = .inl e := by
  rw [h, qst_y (by omega), hC]
theorem qA_n {V : qVs} {Kc : List dC} {M n : Nat} {r : List Int} {X X2 : qX} {ch : Int} (h : qA V Kc M n r X = qst V Kc r X.2.2.length X2) (hc : ch = X2.2.2.length) (h0 : ¬ ch = X.2.2.length) : qA V Kc M n r X = .inr X2 := by
  rw [h, qst_n (by omega)]
theorem cY_s2 {nv : Nat} {rws rch fout fc tg : Int → Int} {st oc ch s s' c0 y : Int} {Y : qY} {X : qX} (hX : cX nv rws rch fout st oc ch X) (h2 : lsA fc s Y.2.1) (h3 : lsA tg s Y.2.2) (hc : c0 = (Y.1.2.2.length : Int)) (hs : s' = s + 1) : cY nv rws rch fout (hw_up (hw_up fc s c0) s' ch) (hw_up tg s y) st oc ch s' (X, Y.2.1 ++ [(Y.1.2.2.length : Int)], Y.2.2 ++ [y]) := by
  refine ⟨(), hX, ?_, lsA_s h3 hs, fun _ => hw_up_s⟩
  rw [← hc]
  exact lsA_u (lsA_s h2 hs) (Int.le_refl _)
theorem xy_0 {x : Int} (h : x = 0) : xyA x 0 := ⟨(), Or.inl ⟨h, rfl⟩⟩
theorem xy_1 {x : Int} (h : ¬ x = 0) : xyA x 1 := ⟨(), Or.inr ⟨h, rfl⟩⟩
theorem enA_c {Kc : List dC} {r : List Int} {en : Int → Int} {c c' : Int} (h : enA Kc r en c) (hc : c' = c) : enA Kc r en c' := by
  subst hc
  exact h
theorem qgN_n {Kc : List dC} {C : yC} {r : List Int} {c : Int} (h : qval (qcm Kc c.toNat).2.2.1 r = none) (h0 : 0 ≤ c) (h1 : c < Kc.length) : qgN Kc C r := ⟨(), qgd_n h h0 h1⟩
theorem qgN_t {Kc : List dC} {C : yC} {r : List Int} (h : qval C r = none) : qgN Kc C r := ⟨(), qgd_t h⟩
theorem qgW_s {Kc : List dC} {C : yC} {r : List Int} {en : Int → Int} {c x : Int} (h : enA Kc r en c) (hc : Kc.length ≤ c) (hq : qval C r = some x) : qgW Kc C r := ⟨(), qgd_s h hc hq⟩
theorem cY_c {nv : Nat} {rws rch fout fc tg : Int → Int} {st oc ch s s' : Int} {Y : qY} (h : cY nv rws rch fout fc tg st oc ch s Y) (e : s' = s) : cY nv rws rch fout fc tg st oc ch s' Y := by
  subst e
  exact h
theorem cY_f {nv : Nat} {rws rch fout fc tg : Int → Int} {st oc ch s : Int} {Y : qY} (h : cY nv rws rch fout fc tg st oc ch s Y) : lsA fc s Y.2.1 := h.elim fun _ h => h.2.1
theorem cY_t {nv : Nat} {rws rch fout fc tg : Int → Int} {st oc ch s : Int} {Y : qY} (h : cY nv rws rch fout fc tg st oc ch s Y) : lsA tg s Y.2.2 := h.elim fun _ h => h.2.2.1
theorem qA_2c {V : qVs} {Kc : List dC} {M n : Nat} {r : List Int} {X X1 : qX} {e : Int} (h : qL V Kc r ((qsg Kc (qen Kc r)).map (fun k => [k])) X = .inr X1) (h2 : qL V Kc r (qjt Kc (qen Kc r) M (n : Int).toNat) X1 = .inl e) : qA V Kc M n r X = .inl e := qA_2 h (by rw [Int.toNat_natCast] at h2; exact h2)
theorem qA_3c {V : qVs} {Kc : List dC} {M n : Nat} {r : List Int} {X X1 X2 : qX} (h : qL V Kc r ((qsg Kc (qen Kc r)).map (fun k => [k])) X = .inr X1) (h2 : qL V Kc r (qjt Kc (qen Kc r) M (n : Int).toNat) X1 = .inr X2) : qA V Kc M n r X = qst V Kc r X.2.2.length X2 := qA_3 h (by rw [Int.toNat_natCast] at h2; exact h2)
theorem cY_l {nv : Nat} {rws rch fout fc tg : Int → Int} {st oc ch s : Int} {Y : qY} (h : cY nv rws rch fout fc tg st oc ch s Y) (h0 : 0 < s) : fc s = ch := h.elim fun _ h => h.2.2.2 h0
theorem cY_o {nv : Nat} {rws rch fout fc tg : Int → Int} {st oc ch s : Int} {Y : qY} (h : cY nv rws rch fout fc tg st oc ch s Y) : lsA fout ch Y.1.2.2 ∧ lsA rch oc Y.1.2.1 ∧ (0 < ch → fout ch = oc) := h.elim fun _ h => h.1.elim fun _ h => ⟨h.2.2.1, h.2.1, h.2.2.2⟩
