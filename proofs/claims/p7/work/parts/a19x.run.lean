/-! a run, step by step -/
/-- what stands in a row from b on, of m cells -/
def nwL (A : Int → Int) (b m v : Int) : Int := if 0 ≤ b + v ∧ b + v < m then A (b + v) else 0
section CX
variable {op wi lo S : Int → Int} {used i i' nx n0 tp o v : Int} {V : Option Int}
theorem cxj1 {nx' : Int} (h0 : V = cRi op wi lo used i n0 tp S) (ho : o = op n0) (hv : v = wi n0) (hi : i < 1501) (hb : ¬ (n0 < 0 ∨ used ≤ n0 ∨ tp < 1 ∨ 248 ≤ tp + 1)) (hc : (¬ S tp = 0 ∧ o = 33) ∨ (S tp = 0 ∧ o = 32)) (hi' : i' = i + 1) (hn : nx' = v) : V = cRi op wi lo used i' nx' tp S := by
  subst ho hv
  exact cr_jmp h0 hi hb (by omega) hi' (Or.inl ⟨by omega, hn, Or.inr (Or.inr ⟨by omega, by omega, rfl, rfl⟩)⟩)
theorem cx_j20 {nx' : Int} (h0 : V = cRi op wi lo used i n0 tp S) (ho : o = op n0) (hv : v = wi n0) (hi : i < 1501) (hb : ¬ (n0 < 0 ∨ used ≤ n0 ∨ tp < 1 ∨ 248 ≤ tp + 1)) (hc : S tp = 0 ∧ o = 20) (hi' : i' = i + 1) (hn : nx' = v) : V = cRi op wi lo used i' nx' tp (hw_up S tp 1) := by
  subst ho hv
  exact cr_jmp h0 hi hb (by omega) hi' (Or.inl ⟨by omega, hn, Or.inl ⟨by omega, rfl, rfl⟩⟩)
theorem cx_j34 {nx' tp' : Int} (h0 : V = cRi op wi lo used i n0 tp S) (ho : o = op n0) (hv : v = wi n0) (hi : i < 1501) (hb : ¬ (n0 < 0 ∨ used ≤ n0 ∨ tp < 1 ∨ 248 ≤ tp + 1)) (hc : S tp = 0 ∧ o = 34) (hi' : i' = i + 1) (hn : nx' = v) (ht : tp' = tp - 1) : V = cRi op wi lo used i' nx' tp' S := by
  subst ho hv
  exact cr_jmp h0 hi hb (by omega) hi' (Or.inl ⟨by omega, hn, Or.inr (Or.inl ⟨by omega, ht, rfl⟩)⟩)
theorem cx_jn {nx' tp' : Int} (h0 : V = cRi op wi lo used i n0 tp S) (ho : o = op n0) (hi : i < 1501) (hb : ¬ (n0 < 0 ∨ used ≤ n0 ∨ tp < 1 ∨ 248 ≤ tp + 1)) (hc : (S tp = 0 ∧ o = 33) ∨ (¬ S tp = 0 ∧ (o = 32 ∨ o = 20 ∨ o = 34))) (hi' : i' = i + 1) (hn : nx' = n0 + 1) (ht : tp' = tp - 1) : V = cRi op wi lo used i' nx' tp' S := by
  subst ho
  exact cr_jmp h0 hi hb (by omega) hi' (Or.inr ⟨by omega, hn, ht, rfl⟩)
theorem cx_nam {A : Int → Int} {b m nx' tp' x : Int} (h0 : V = cRi op wi (nwL A b m) used i n0 tp S) (hi : i < 1501) (hb : ¬ (n0 < 0 ∨ used ≤ n0 ∨ tp < 1 ∨ 248 ≤ tp + 1)) (ho : op n0 = 2) (hn : nx' = n0 + 1) (ht : tp' = tp + 1) (hi' : i' = i + 1) (hx : ¬ (0 ≤ b + wi n0 ∧ b + wi n0 < m)) (h0x : x = 0) : V = cRi op wi (nwL A b m) used i' nx' tp' (hw_up S tp' x) := cr_nam h0 hi hb ho hn ht hi' (by subst h0x; exact (if_neg hx).symm)
theorem cx_namv {A : Int → Int} {b m nx' tp' a : Int} (h0 : V = cRi op wi (nwL A b m) used i n0 tp S) (hi : i < 1501) (hb : ¬ (n0 < 0 ∨ used ≤ n0 ∨ tp < 1 ∨ 248 ≤ tp + 1)) (ho : op n0 = 2) (hn : nx' = n0 + 1) (ht : tp' = tp + 1) (hi' : i' = i + 1) (ha : a = b + wi n0) (hx : 0 ≤ a ∧ a < m) : V = cRi op wi (nwL A b m) used i' nx' tp' (hw_up S tp' (A a)) := cr_nam h0 hi hb ho hn ht hi' (by subst ha; exact (if_pos hx).symm)
end CX
