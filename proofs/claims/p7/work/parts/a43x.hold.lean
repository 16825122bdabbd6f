/-! what the class's arrays hold of a text, as it is read -/
def cQ (D : dM) (op wi sv sc fs fu ho ac gu lo hi bg : Int → Int) (us st up cm vn : Int) : Prop := ∃ _ : Unit, cKs op wi sv sc fs fu ho ac gu us st up 0 D.2.1 ∧ cm = D.2.1.length ∧ cVs lo hi bg 0 D.1 ∧ vn = D.1.length ∧ (cm = 0 ∨ fu cm = up ∧ fs up = st)
section CQ
variable {D D' : dM} {op wi sv sc fs fu ho ac gu lo hi bg op' wi' sv' sc' fs' ac' : Int → Int} {us us' st st' up up' cm cm' vn vn' : Int}
theorem cQ_0 (hc : cm = 0) (hv : vn = 0) : cQ ([], [], []) op wi sv sc fs fu ho ac gu lo hi bg us st up cm vn := ⟨(), trivial, hc, trivial, hv, Or.inl hc⟩
theorem cQ_D (h : cQ D op wi sv sc fs fu ho ac gu lo hi bg us st up cm vn) : cm = D.2.1.length ∧ vn = D.1.length := h.elim fun _ h => ⟨h.2.1, h.2.2.2.1⟩
/-- code behind is changed -/
theorem cQ_c (h : cQ D op wi sv sc fs fu ho ac gu lo hi bg us st up cm vn) (hy : yb_ok us op op' wi wi') (hu : us ≤ us') : cQ D op' wi' sv sc fs fu ho ac gu lo hi bg us' st up cm vn := by
  obtain ⟨_, h1, h2, h3, h4, h5⟩ := h
  exact ⟨(), cKs_f _ 0 h1 (fun _ _ _ => ⟨rfl, rfl, rfl⟩) (fun _ _ _ => rfl) agb_r agb_r agb_r hy hu (Int.le_refl _) (Int.le_refl _), h2, h3, h4, h5⟩
theorem cQ_cc (h : cQ D op wi sv sc fs fu ho ac gu lo hi bg us st up cm vn) (hy : yb_ok us op op' wi wi') (hu : us' = us) : cQ D op' wi' sv sc fs fu ho ac gu lo hi bg us' st up cm vn := cQ_c h hy (by omega)
theorem cQ_v {a b c : Int} (h : cQ D op wi sv sc fs fu ho ac gu lo hi bg us st up cm vn) (hy : yb_ok us op op' wi wi') (hu : us' = us) (hv : vn' = vn + 1) : cQ (D.1 ++ [(a, b, c)], D.2) op' wi' sv sc fs fu ho ac gu (hw_up lo vn a) (hw_up hi vn b) (hw_up bg vn c) us' st up cm vn' := by
  obtain ⟨_, h1, h2, h3, h4, h5⟩ := cQ_cc h hy hu
  exact ⟨(), h1, h2, cVs_add h3 h4, by rw [len_s]; omega, h5⟩
theorem cQ_k {h1 g : Int} {x : dC} {A : List Int} (h : cQ D op wi sv sc fs fu ho ac gu lo hi bg us st up cm vn) (hc : cK op' wi' sv' sc' fs' (hw_up (hw_up fu cm up) (cm + 1) up') (hw_up ho cm h1) ac' (hw_up gu cm g) us' st' up' cm x) (hcm : cm' = cm + 1) (ha : agb ac ac' cm) (hfs : agb fs fs' up) (hfu : fs' up = st) (hfe : fs' up' = st') (hsv : agb sv sv' st) (hsc : agb sc sc' st) (hy : yb_ok us op op' wi wi') (hu : us ≤ us') (hs : st ≤ st') (hup : up < up') : cQ (D.1, D.2.1 ++ [x], A) op' wi' sv' sc' fs' (hw_up (hw_up fu cm up) (cm + 1) up') (hw_up ho cm h1) ac' (hw_up gu cm g) lo hi bg us' st' up' cm' vn := by
  obtain ⟨_, k1, k2, k3, k4, k5⟩ := h
  subst hcm
  refine ⟨(), ?_, by rw [len_s]; omega, k3, k4, Or.inr ⟨hw_up_s, hfe⟩⟩
  refine cKs_s _ 0 x ?_ (by rw [show (0 : Int) + (D.2.1.length : Int) = cm by omega]; exact hc)
  rcases k5 with k5 | ⟨k5, k6⟩
  · have e : D.2.1 = [] := List.length_eq_zero_iff.mp (by omega)
    rw [e]
    trivial
  · refine cKs_f _ 0 k1 (fun i i1 i2 => ⟨hw_up_n (by omega), agb_at ha (by omega), hw_up_n (by omega)⟩) (fun i i1 i2 => ?_) ⟨(), fun i hi => ?_⟩ hsv hsc hy hu hs (by omega)
    · rw [hw_up_n (by omega)]
      by_cases e : i = cm
      · rw [e, hw_up_s]
        exact k5.symm
      · rw [hw_up_n e]
    · by_cases e : i = up
      · rw [e, hfu]
        exact k6.symm
      · exact agb_at hfs (by omega)
end CQ
/-- what the class holds of a text that was read -/
def cD (D : dT) (op wi sv sc fs fu ho ac gu lo hi bg : Int → Int) (us st up cm vn md an tg : Int) : Prop := ∃ _ : Unit, cQ D.2.1 op wi sv sc fs fu ho ac gu lo hi bg us st up cm vn ∧ md = D.2.2.1 ∧ an = D.2.1.2.2.length ∧ cdA op wi us tg D.2.2.2
theorem cD_i {D : dM} {op wi sv sc fs fu ho ac gu lo hi bg op' wi' t at_ : Int → Int} {us us' st up cm vn md an tg n made b : Int} {C : yC} (h : cQ D op wi sv sc fs fu ho ac gu lo hi bg us st up cm vn) (hy : yb_ok us op op' wi wi') (hu : us ≤ us') (ha : acs t n made at_ an D.2.2) (hc : cdA op' wi' us' tg C) : cD (b, D, md, C) op' wi' sv sc fs fu ho ac gu lo hi bg us' st up cm vn md an tg := ⟨(), cQ_c h hy hu, rfl, acs_l ha, hc⟩
theorem pTg_s {D : dM} {M b : Int} {C : yC} {Y : Option (Int × yC)} (h : Y = some (b, C)) : pTg D M Y = some (b, D, M, C) := by
  subst h
  rfl
theorem pTg_n {D : dM} {M : Int} {Y : Option (Int × yC)} (h : Y = none) : pTg D M Y = none := by
  subst h
  rfl
theorem pT_e2 {A : Option dT} {D : dM} {M b : Int} {C : yC} {Y : Option (Int × yC)} (h : A = pTg D M Y) (h2 : Y = some (b, C)) : A = some (b, D, M, C) := h.trans (pTg_s h2)
theorem pT_e3 {D : dM} {M b made : Int} {C : yC} (h : made = b + 1) : ((b, D, M, C) : dT).1 = made - 1 := by
  show b = made - 1
  omega
