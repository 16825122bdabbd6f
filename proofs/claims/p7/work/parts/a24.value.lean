/-! what code says: a run over a list; the class's run is that -/
section YB
variable {B : Int → Int → Prop}
def yev (C : yC) (now : Int → Int) : Nat → Nat → List Int → Option Int
  | 0, _, _ => none
  | f + 1, k, st => match C[k]? with
    | none => st.head?
    | some (o, v) => if o = 3 then yev C now f (k + 1) (v :: st) else if o = 2 then yev C now f (k + 1) (now v :: st) else if o = 35 then yev C now f v.toNat st
      else match st with
        | [] => none
        | x :: r => if o = 31 then yev C now f (k + 1) (w3y (1 - x) :: r) else if o = 43 then (match yjoin 28 0 x with
            | none => none
            | some z => yev C now f (k + 1) (z :: r))
          else if o = 34 then (if x = 0 then yev C now f v.toNat r else yev C now f (k + 1) r)
          else if o = 32 then (if x = 0 then yev C now f v.toNat (x :: r) else yev C now f (k + 1) r)
          else if o = 33 then (if x = 0 then yev C now f (k + 1) r else yev C now f v.toNat (x :: r))
          else if o = 20 then (if x = 0 then yev C now f v.toNat (1 :: r) else yev C now f (k + 1) r)
          else match r with
            | [] => none
            | y :: r => (match yjoin o y x with
              | none => none
              | some z => yev C now f (k + 1) (z :: r))
def stk (S : Int → Int) : Int → List Int → Prop
  | _, [] => True
  | tp, x :: r => S tp = x ∧ stk S (tp - 1) r
theorem stk_up {S : Int → Int} {p v : Int} : ∀ (st : List Int) (tp : Int), tp < p → stk S tp st → stk (hw_up S p v) tp st := by
  intro st
  induction st with
  | nil => intro tp _ _; trivial
  | cons x r ih =>
    intro tp h hs
    exact ⟨by rw [hw_up_n (by omega)]; exact hs.1, ih (tp - 1) (by omega) hs.2⟩
theorem stk_push {S : Int → Int} {tp v : Int} {st : List Int} (h : stk S tp st) : stk (hw_up S (tp + 1) v) (tp + 1) (v :: st) := by
  refine ⟨hw_up_s, ?_⟩
  rw [show tp + 1 - 1 = tp by omega]
  exact stk_up st tp (by omega) h
theorem stk_set {S : Int → Int} {tp v x : Int} {r : List Int} (h : stk S tp (x :: r)) : stk (hw_up S tp v) tp (v :: r) := ⟨hw_up_s, stk_up r (tp - 1) (by omega) h.2⟩
theorem yod_D {D : Nat → List Int} {i : Nat} {st : List Int} {a : Int} {s : List Int} (hl : st.length = (D i).length) (h : D i = a :: s) : ∃ x r, st = x :: r ∧ r.length = s.length := by
  rw [h, List.length_cons] at hl
  cases st with
  | nil => cases hl
  | cons x r => exact ⟨x, r, rfl, by rw [List.length_cons] at hl; omega⟩
/-- code in arrays from fr on -/
def cod (op wi : Int → Int) (fr : Int) (C : yC) : Prop := ∀ (i : Nat) (o v : Int), C[i]? = some (o, v) → op (fr + i) = o ∧ (yjp o → ¬ v = -1 → wi (fr + i) = v + fr) ∧ (¬ yjp o → wi (fr + i) = v)
theorem ye_o {C : yC} {now : Int → Int} {f k : Nat} {st : List Int} {o v : Int} (hg : C[k]? = some (o, v)) : yev C now (f + 1) k st = (if o = 3 then yev C now f (k + 1) (v :: st) else if o = 2 then yev C now f (k + 1) (now v :: st) else if o = 35 then yev C now f v.toNat st
      else match st with
        | [] => none
        | x :: r => if o = 31 then yev C now f (k + 1) (w3y (1 - x) :: r) else if o = 43 then (match yjoin 28 0 x with
            | none => none
            | some z => yev C now f (k + 1) (z :: r))
          else if o = 34 then (if x = 0 then yev C now f v.toNat r else yev C now f (k + 1) r)
          else if o = 32 then (if x = 0 then yev C now f v.toNat (x :: r) else yev C now f (k + 1) r)
          else if o = 33 then (if x = 0 then yev C now f (k + 1) r else yev C now f v.toNat (x :: r))
          else if o = 20 then (if x = 0 then yev C now f v.toNat (1 :: r) else yev C now f (k + 1) r)
          else match r with
            | [] => none
            | y :: r => (match yjoin o y x with
              | none => none
              | some z => yev C now f (k + 1) (z :: r))) := by
  show (match C[k]? with | none => _ | some (o, v) => _) = _
  rw [hg]
theorem ye_1 {C : yC} {now : Int → Int} {f k : Nat} {r : List Int} {o v x : Int} (hg : C[k]? = some (o, v)) (h : ¬ o = 3 ∧ ¬ o = 2 ∧ ¬ o = 35) : yev C now (f + 1) k (x :: r) = (if o = 31 then yev C now f (k + 1) (w3y (1 - x) :: r) else if o = 43 then (match yjoin 28 0 x with
            | none => none
            | some z => yev C now f (k + 1) (z :: r))
          else if o = 34 then (if x = 0 then yev C now f v.toNat r else yev C now f (k + 1) r)
          else if o = 32 then (if x = 0 then yev C now f v.toNat (x :: r) else yev C now f (k + 1) r)
          else if o = 33 then (if x = 0 then yev C now f (k + 1) r else yev C now f v.toNat (x :: r))
          else if o = 20 then (if x = 0 then yev C now f v.toNat (1 :: r) else yev C now f (k + 1) r)
          else match r with
            | [] => none
            | y :: r => (match yjoin o y x with
              | none => none
              | some z => yev C now f (k + 1) (z :: r))) := by
  rw [ye_o hg, if_neg h.1, if_neg h.2.1, if_neg h.2.2]
theorem cR_yev {op wi lo : Int → Int} {used fr x : Int} {C : yC} {D : Nat → List Int} (hT : yTI B D [x] C []) (hc : cod op wi fr C) (hst : op (fr + C.length) = 44) (hu : fr + C.length < used) (hf : 0 ≤ fr) : ∀ (f : Nat) (i : Int) (k : Nat) (st : List Int) (S : Int → Int) (tp : Int), (1501 - i).toNat = f → k ≤ C.length → st.length = (D k).length → tp = 1 + st.length → stk S tp st → cRi op wi lo used i (fr + k) tp S = yev C lo f k st := by
  intro f
  induction f with
  | zero =>
    intro i k st S tp hi _ _ _ _
    unfold cRi
    rw [hi]
    rfl
  | succ f ih =>
    intro i k st S tp hi hk hl htp hs
    have hD := hT.2.2.2.1 k hk
    have hi1 : i < 1501 := by omega
    have hb : ¬ (fr + k < 0 ∨ used ≤ fr + k ∨ tp < 1 ∨ 248 ≤ tp + 1) := by omega
    have hi2 : (1501 - (i + 1)).toNat = f := by omega
    cases hg : C[k]? with
    | none =>
      have hkl : k = C.length := by
        have := List.getElem?_eq_none_iff.mp hg
        omega
      subst hkl
      rw [cr_stop rfl hi1 hb hst]
      obtain ⟨y, r, e, hr⟩ := yod_D hl hT.2.1
      subst e
      show _ = (match C[C.length]? with | none => (y :: r).head? | some (o, v) => _)
      rw [hg, hs.1]
      rfl
    | some ov =>
      obtain ⟨o, v⟩ := ov
      have hkl : k < C.length := (List.getElem?_eq_some_iff.mp hg).1
      obtain ⟨c1, c2, c3⟩ := hc k o v hg
      have hv := hT.2.2.1 k o v hg
      have hun : yjp o → ¬ v = -1 := by
        intro hp e
        subst e
        have := hT.2.2.2.2.2 k o hg hp
        cases this
      have nx1 : fr + (k : Int) + 1 = fr + ((k + 1 : Nat) : Int) := by omega
      rcases hv with ⟨ho, z⟩ | ⟨ho, a, z1, z0, z2⟩ | ⟨ho, s, z1, z2⟩ | ⟨ho, s, z1, z2⟩ | ⟨ho, z⟩ | ⟨ho, a, s, z1, z2, z3⟩ | ⟨ho, a, s, z1, z2, z3⟩ | ⟨ho, s, z1, z2⟩ | ⟨ho, a, s, z1, z2⟩
      · rw [cr_int rfl hi1 hb (by omega) rfl rfl rfl, ye_o hg, if_pos ho, c3 (by unfold yjp; omega), nx1]
        refine ih _ (k + 1) (v :: st) _ _ hi2 (by omega) ?_ (by rw [List.length_cons]; omega) (stk_push hs)
        rcases z with z | z
        · rw [z, List.length_cons, List.length_cons, hl]
        · rw [z.1, List.length_cons, List.length_cons, hl]
      · have e3 := c3 (by unfold yjp; omega)
        have r1 : yev C lo (f + 1) k st = yev C lo f (k + 1) (lo v :: st) := by
          rw [ye_o hg, if_neg (show ¬ o = 3 by omega), if_pos ho]
        rw [r1, cr_nam (x := lo v) rfl hi1 hb (by omega) rfl rfl rfl (by rw [e3]), nx1]
        refine ih _ (k + 1) (_ :: st) _ _ hi2 (by omega) ?_ (by rw [List.length_cons]; omega) (stk_push hs)
        rw [z2, List.length_cons, List.length_cons, hl]
      · obtain ⟨y, r, e, hr⟩ := yod_D hl z1
        subst e
        rw [cr_not rfl hi1 hb (by omega) rfl rfl rfl, ye_1 hg (by omega), if_pos ho, hs.1, nx1]
        refine ih _ (k + 1) (_ :: r) _ _ hi2 (by omega) ?_ (by rw [List.length_cons] at htp ⊢; omega) (stk_set hs)
        rw [z2, List.length_cons, List.length_cons, hr]
      · obtain ⟨y, r, e, hr⟩ := yod_D hl z1
        subst e
        rw [ye_1 hg (by omega), if_neg (by omega), if_pos ho]
        have hy := hs.1
        cases hj : yjoin 28 0 y with
        | none => exact cr_negn rfl hi1 hb (by rw [hy]; exact hj) (by omega)
        | some w =>
          rw [cr_neg rfl hi1 hb (by rw [hy]; exact hj) (by omega) rfl rfl, nx1]
          refine ih _ (k + 1) (_ :: r) _ _ hi2 (by omega) ?_ (by rw [List.length_cons] at htp ⊢; omega) (stk_set hs)
          rw [z2, List.length_cons, List.length_cons, hr]
      · rcases z with z | ⟨m, m1, m2, m3, m4⟩
        · exact absurd z (hun (by unfold yjp; omega))
        · have e := c2 (by unfold yjp; omega) (hun (by unfold yjp; omega))
          rw [cr_col rfl hi1 hb (by omega) rfl rfl, ye_o hg, if_neg (by omega), if_neg (by omega), if_pos ho, e, m1, Int.toNat_natCast, show ((m : Int) + fr) = fr + m by omega]
          exact ih _ m st _ _ hi2 m3 (by rw [m4]; exact hl) htp hs
      · obtain ⟨y, r, e, hr⟩ := yod_D hl z1
        subst e
        have hy := hs.1
        have ye := ye_1 (now := lo) (f := f) (r := r) (x := y) hg (by clear z3; omega)
        rcases z3 with z | ⟨m, m1, m2, m3, m4⟩
        · exact absurd z (hun (by unfold yjp; omega))
        · rw [ye, if_neg (by omega), if_neg (by omega), if_pos ho]
          have e := c2 (by unfold yjp; omega) (hun (by unfold yjp; omega))
          by_cases y0 : y = 0
          · rw [cx_j34 (o := o) rfl c1.symm rfl hi1 hb (by omega) rfl rfl rfl, if_pos y0, e, m1, Int.toNat_natCast, show ((m : Int) + fr) = fr + m by omega]
            exact ih _ m r _ _ hi2 m3 (by rw [m4]; exact hr) (by rw [List.length_cons] at htp; omega) hs.2
          · rw [cx_jn (o := o) rfl c1.symm hi1 hb (by omega) rfl rfl rfl, if_neg y0, nx1]
            exact ih _ (k + 1) r _ _ hi2 (by omega) (by rw [z2]; exact hr) (by rw [List.length_cons] at htp; omega) hs.2
      · obtain ⟨y, r, e, hr⟩ := yod_D hl z1
        subst e
        have hy := hs.1
        have ye := ye_1 (now := lo) (f := f) (r := r) (x := y) hg (by clear z3; omega)
        rcases z3 with z | ⟨m0, m, m1, m2, m3, m4⟩
        · exact absurd z (hun (by unfold yjp; omega))
        · rw [ye, if_neg (by omega), if_neg (by omega), if_neg (by omega)]
          have e := c2 (by unfold yjp; omega) (hun (by unfold yjp; omega))
          have e' : wi (fr + k) = fr + m := by omega
          have go : cRi op wi lo used (i + 1) (fr + m) tp (hw_up S tp 1) = yev C lo f v.toNat (1 :: r) := by
            rw [m1, Int.toNat_natCast]
            exact ih _ m (1 :: r) _ _ hi2 m3 (by rw [m4, List.length_cons, List.length_cons, hr]) (by rw [List.length_cons] at htp ⊢; omega) (stk_set hs)
          have go2 : cRi op wi lo used (i + 1) (fr + m) tp S = yev C lo f v.toNat (y :: r) := by
            rw [m1, Int.toNat_natCast]
            exact ih _ m (y :: r) _ _ hi2 m3 (by rw [m4, List.length_cons, List.length_cons, hr]) htp hs
          have nxt : cRi op wi lo used (i + 1) (fr + (k : Int) + 1) (tp - 1) S = yev C lo f (k + 1) r := by
            rw [nx1]
            exact ih _ (k + 1) r _ _ hi2 (by omega) (by rw [z2]; exact hr) (by rw [List.length_cons] at htp; omega) hs.2
          rcases ho with ho | ho | ho
          · rw [if_pos ho]
            by_cases y0 : y = 0
            · rw [cxj1 (o := o) rfl c1.symm e'.symm hi1 hb (by omega) rfl rfl, if_pos y0]
              exact go2
            · rw [cx_jn (o := o) rfl c1.symm hi1 hb (by omega) rfl rfl rfl, if_neg y0]
              exact nxt
          · rw [if_neg (by omega), if_pos ho]
            by_cases y0 : y = 0
            · rw [cx_jn (o := o) rfl c1.symm hi1 hb (by omega) rfl rfl rfl, if_pos y0]
              exact nxt
            · rw [cxj1 (o := o) rfl c1.symm e'.symm hi1 hb (by omega) rfl rfl, if_neg y0]
              exact go2
          · rw [if_neg (by omega), if_neg (by omega), if_pos ho]
            by_cases y0 : y = 0
            · rw [cx_j20 (o := o) rfl c1.symm e'.symm hi1 hb (by omega) rfl rfl, if_pos y0]
              exact go
            · rw [cx_jn (o := o) rfl c1.symm hi1 hb (by omega) rfl rfl rfl, if_neg y0]
              exact nxt
      · obtain ⟨y, r, e, hr⟩ := yod_D hl z1
        subst e
        cases r with
        | nil => rw [List.length_cons] at hr; cases hr
        | cons y2 r2 =>
          have hy := hs.1
          have hy2 := hs.2.1
          rw [ye_1 hg (by omega), if_neg (by omega), if_neg (by omega), if_neg (by omega), if_neg (by omega), if_neg (by omega), if_neg (by omega)]
          dsimp only
          have hj1 : yjoin (op (fr + k)) (S (tp - 1)) (S (tp - 1 + 1)) = yjoin o y2 y := by rw [show tp - 1 + 1 = tp by omega, hy, hy2, c1]
          cases hj : yjoin o y2 y with
          | none => exact cr_binn rfl hi1 hb (hj1.trans hj) rfl (by omega)
          | some w =>
            rw [cr_bin rfl hi1 hb (hj1.trans hj) rfl rfl rfl (by omega), nx1]
            refine ih _ (k + 1) (_ :: r2) _ _ hi2 (by omega) ?_ (by rw [List.length_cons, List.length_cons] at htp; rw [List.length_cons]; omega) (stk_set hs.2)
            rw [z2, List.length_cons, List.length_cons]
            rw [List.length_cons, List.length_cons] at hr
            omega
      · obtain ⟨y, r, e, hr⟩ := yod_D hl z1
        subst e
        cases r with
        | nil => rw [List.length_cons] at hr; cases hr
        | cons y2 r2 =>
          have hy := hs.1
          have hy2 := hs.2.1
          rw [ye_1 hg (by omega), if_neg (by omega), if_neg (by omega), if_neg (by omega), if_neg (by omega), if_neg (by omega), if_neg (by omega)]
          dsimp only
          have hj1 : yjoin (op (fr + k)) (S (tp - 1)) (S (tp - 1 + 1)) = yjoin o y2 y := by rw [show tp - 1 + 1 = tp by omega, hy, hy2, c1]
          cases hj : yjoin o y2 y with
          | none => exact cr_binn rfl hi1 hb (hj1.trans hj) rfl (by omega)
          | some w =>
            rw [cr_bin rfl hi1 hb (hj1.trans hj) rfl rfl rfl (by omega), nx1]
            refine ih _ (k + 1) (_ :: r2) _ _ hi2 (by omega) ?_ (by rw [List.length_cons, List.length_cons] at htp; rw [List.length_cons]; omega) (stk_set hs.2)
            rw [z2, List.length_cons, List.length_cons]
            rw [List.length_cons, List.length_cons] at hr
            omega
/-- what a constant expression's code says -/
def yval (C : yC) : Option Int := yev C (fun _ => 0) 1501 0 []
end YB
