/-! code that stands below -/
theorem yb_op {fr i : Int} {op op' wi wi' : Int → Int} (h : yb_ok fr op op' wi wi') (hi : i < fr) : op' i = op i := h.elim fun _ h => (h i hi).1
theorem yCo_b {x u fr : Int} {op op' wi wi' : Int → Int} (h : yb_ok fr op op' wi wi') (hu : u ≤ fr) : yCo x u op' wi' = yCo x u op wi := by
  unfold yCo
  refine yCf_eq _ (fun i hi => ?_)
  obtain ⟨_, h⟩ := h
  exact h _ (by omega)
theorem yb_44 {fr u u' : Int} {op op' wi wi' : Int → Int} (h : yb_ok fr op op' wi wi') (h1 : op (u - 1) = 44) (e : u' = u) (hu : u ≤ fr) : op' (u' - 1) = 44 := by
  subst e
  rw [yb_op h (by omega)]
  exact h1
theorem ycn_b {x u u' fr : Int} {op op' wi wi' : Int → Int} (h : yb_ok fr op op' wi wi') (h1 : ycn (yCo x (u - 1) op wi)) (e : u' = u) (hu : u ≤ fr) : ycn (yCo x (u' - 1) op' wi') := by
  subst e
  rw [yCo_b h (by omega)]
  exact h1
theorem yval_b {x u u' fr : Int} {op op' wi wi' : Int → Int} {Y : Option Int} (h : yb_ok fr op op' wi wi') (h1 : yval (yCo x (u' - 1) op' wi') = Y) (e : u' = u) (hu : u ≤ fr) : yval (yCo x (u - 1) op wi) = Y := by
  subst e
  rw [yCo_b h (by omega)] at h1
  exact h1
