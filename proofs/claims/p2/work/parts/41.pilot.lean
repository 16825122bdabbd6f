/-! pilot -/
section PIL
variable {scr : Nat × (Nat → Int32)} {kof : Nat → Nat} {own : Nat → Prop} {d : Nat} {K : Option hw_V → hw_Z → Prop} {E : Nat → hw_Z → Prop} {Z : hw_Z}
theorem c_isDigit (hU : hw_U (hv_T kof own)) {x : Int} (hK : ∀ r, (r = 0 ∨ r = 1) → K (some (hw_I r)) Z) : hw_C pg_G pg_TT scr (hv_T kof own) (d + 1) 40 [hw_I x] Z K E := by
  refine hw_meth hU hv_DG ⟨rfl, rfl⟩ (fun w X hs hX => ?_)
  repeat' (first | apply hK | refine And.intro ?_ ?_ | intro _ | apply hs)
  all_goals omega
end PIL
