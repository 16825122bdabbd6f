/-! what code says, out of the model's array -/
/-- what stands fast while the model explores -/
def mH (D : dT) (cd gu up st cm ca lo hi fi : Int → Int) (cn vn md an tg : Int) : Prop := ∃ _ : Unit, mD D cd gu up st cm ca lo hi fi cn vn md an tg ∧ dOK D
/-- what code says, out of the model's array -/
def TL2 (cd nw : Int → Int) (a x : Int) : Prop := ∃ (C : yC) (V : qVs) (cs ty : Int), mcd cd cs a C ∧ yTd V ty C ∧ yev C nw 1501 0 [] = some x
theorem mcd_u {cd : Int → Int} {a cs cs' ty ty' : Int} {C C' : yC} {V V' : qVs} (h : mcd cd cs a C) (h' : mcd cd cs' a C') (ht : yTd V ty C) (ht' : yTd V' ty' C') : C = C' := by
  obtain ⟨b, ⟨b1, b2, b3, b4, b5⟩, b6, b7, b8⟩ := h
  obtain ⟨b', ⟨c1, c2, c3, c4, c5⟩, c6, c7, c8⟩ := h'
  have key : ∀ (x y : Int) (W : qVs) (s : Int), a ≤ x → x % 2 = 0 → y % 2 = 0 → cd x = 21 → yTd W s (uC cd a y) → ¬ x < y := by
    intro x y W s x1 x2 y2 xs hT hlt
    obtain ⟨D, hT⟩ := hT
    have hg := utr_g (f := cd) (a := a) (b := y) (k := x) (i := ((x - a) / 2).toNat) ⟨b1, b2⟩ (by omega) hlt y2
    have hy := hT.2.2.1 _ _ _ hg
    have e : opm (cd x) = 44 := by rw [xs]; decide
    rw [e] at hy
    unfold yok at hy
    rcases hy with ⟨z, -⟩ | ⟨z, -⟩ | ⟨z, -⟩ | ⟨z, -⟩ | ⟨z, -⟩ | ⟨z, -⟩ | ⟨z, -⟩ | ⟨z, -⟩ | ⟨z, -⟩ <;> omega
  have n1 := key b b' V' ty' b3 b4 c4 b7 (by rw [c8]; exact ht')
  have n2 := key b' b V ty c3 c4 b4 c7 (by rw [b8]; exact ht)
  have e : b = b' := by omega
  rw [← b8, ← c8, e]
theorem TL2_u {cd nw : Int → Int} {a r s : Int} (h : TL2 cd nw a r) (h' : TL2 cd nw a s) : r = s := by
  obtain ⟨C, V, cs, ty, h1, h2, h3⟩ := h
  obtain ⟨C', V', cs', ty', k1, k2, k3⟩ := h'
  have e := mcd_u h1 k1 h2 k2
  subst e
  rw [h3] at k3
  injection k3
