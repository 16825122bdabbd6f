/-! what a text says: a variable -/
noncomputable def pType (t : Int → Int) (n : Int) (L : yN) (j : Int) : Option (Int × Int × Int × Int) := if kd t n j = 8 then (match ad (kd t n) j with
    | none => none
    | some a => some (a, 2, 0, 1)) else (match pBounds t n L j with
    | none => none
    | some (a, lo, hi) => some (a, 1, lo, hi))
theorem pType_b {t : Int → Int} {n j a : Int} {L : yN} (h : kd t n j = 8) (h1 : ad (kd t n) j = some a) : pType t n L j = some (a, 2, 0, 1) := by
  unfold pType
  simp only [if_pos h, h1]
theorem pType_bn {t : Int → Int} {n j : Int} {L : yN} (h : kd t n j = 8) (h1 : ad (kd t n) j = none) : pType t n L j = none := by
  unfold pType
  simp only [if_pos h, h1]
theorem pType_i {t : Int → Int} {n j a lo hi : Int} {L : yN} (h1 : pBounds t n L j = some (a, lo, hi)) (h : ¬ kd t n j = 8) : pType t n L j = some (a, 1, lo, hi) := by
  unfold pType
  simp only [if_neg h, h1]
theorem pType_in {t : Int → Int} {n j : Int} {L : yN} (h1 : pBounds t n L j = none) (h : ¬ kd t n j = 8) : pType t n L j = none := by
  unfold pType
  simp only [if_neg h, h1]
noncomputable def pvA (t : Int → Int) (n : Int) (L : yN) (V : Int) (j : Int) : Option (Int × Int × Int × Int) := (match cnd (V < 8) with
    | none => none
    | some _ => (match nwn t n L j with
    | none => none
    | some a => (match tke (kd t n) 35 a with
    | none => none
    | some b => (match pType t n L b with
    | none => none
    | some (c, ty, lo, hi) => some (c, ty, lo, hi)))))
theorem pvA_n0 {t : Int → Int} {n : Int} {L : yN} {V : Int} {j : Int}  (h0 : cnd (V < 8) = none) : pvA t n L V j = none := by
  unfold pvA
  simp only [h0]
theorem pvA_n1 {t : Int → Int} {n : Int} {L : yN} {V : Int} {j : Int} (h0 : cnd (V < 8) = some ()) (h1 : nwn t n L j = none) : pvA t n L V j = none := by
  unfold pvA
  simp only [h0, h1]
theorem pvA_n2 {t : Int → Int} {n : Int} {L : yN} {V : Int} {j : Int} {a : Int} (h0 : cnd (V < 8) = some ()) (h1 : nwn t n L j = some a) (h2 : tke (kd t n) 35 a = none) : pvA t n L V j = none := by
  unfold pvA
  simp only [h0, h1, h2]
theorem pvA_n3 {t : Int → Int} {n : Int} {L : yN} {V : Int} {j : Int} {a : Int} {b : Int} (h0 : cnd (V < 8) = some ()) (h1 : nwn t n L j = some a) (h2 : tke (kd t n) 35 a = some b) (h3 : pType t n L b = none) : pvA t n L V j = none := by
  unfold pvA
  simp only [h0, h1, h2, h3]
theorem pvA_s {t : Int → Int} {n : Int} {L : yN} {V : Int} {j : Int} {a : Int} {b : Int} {c ty lo hi : Int} (h0 : cnd (V < 8) = some ()) (h1 : nwn t n L j = some a) (h2 : tke (kd t n) 35 a = some b) (h3 : pType t n L b = some (c, ty, lo, hi)) : pvA t n L V j = some (c, ty, lo, hi) := by
  unfold pvA
  simp only [h0, h1, h2, h3]
noncomputable def pvI (t : Int → Int) (n : Int) (L : yN) (ty : Int) (lo : Int) (hi : Int) (j : Int) : Option (Int × Int) := (match ad (kd t n) j with
    | none => none
    | some a => (match yex t n L 0 ty a with
    | none => none
    | some (b, C) => (match tke (kd t n) 36 b with
    | none => none
    | some c => (match yval C with
    | none => none
    | some v => (match cnd (lo ≤ v ∧ v ≤ hi) with
    | none => none
    | some _ => some (c, v))))))
theorem pvI_n0 {t : Int → Int} {n : Int} {L : yN} {ty : Int} {lo : Int} {hi : Int} {j : Int}  (h0 : ad (kd t n) j = none) : pvI t n L ty lo hi j = none := by
  unfold pvI
  simp only [h0]
theorem pvI_n1 {t : Int → Int} {n : Int} {L : yN} {ty : Int} {lo : Int} {hi : Int} {j : Int} {a : Int} (h0 : ad (kd t n) j = some a) (h1 : yex t n L 0 ty a = none) : pvI t n L ty lo hi j = none := by
  unfold pvI
  simp only [h0, h1]
theorem pvI_n2 {t : Int → Int} {n : Int} {L : yN} {ty : Int} {lo : Int} {hi : Int} {j : Int} {a : Int} {b : Int} {C : yC} (h0 : ad (kd t n) j = some a) (h1 : yex t n L 0 ty a = some (b, C)) (h2 : tke (kd t n) 36 b = none) : pvI t n L ty lo hi j = none := by
  unfold pvI
  simp only [h0, h1, h2]
theorem pvI_n3 {t : Int → Int} {n : Int} {L : yN} {ty : Int} {lo : Int} {hi : Int} {j : Int} {a : Int} {b : Int} {C : yC} {c : Int} (h0 : ad (kd t n) j = some a) (h1 : yex t n L 0 ty a = some (b, C)) (h2 : tke (kd t n) 36 b = some c) (h3 : yval C = none) : pvI t n L ty lo hi j = none := by
  unfold pvI
  simp only [h0, h1, h2, h3]
theorem pvI_n4 {t : Int → Int} {n : Int} {L : yN} {ty : Int} {lo : Int} {hi : Int} {j : Int} {a : Int} {b : Int} {C : yC} {c : Int} {v : Int} (h0 : ad (kd t n) j = some a) (h1 : yex t n L 0 ty a = some (b, C)) (h2 : tke (kd t n) 36 b = some c) (h3 : yval C = some v) (h4 : cnd (lo ≤ v ∧ v ≤ hi) = none) : pvI t n L ty lo hi j = none := by
  unfold pvI
  simp only [h0, h1, h2, h3, h4]
theorem pvI_s {t : Int → Int} {n : Int} {L : yN} {ty : Int} {lo : Int} {hi : Int} {j : Int} {a : Int} {b : Int} {C : yC} {c : Int} {v : Int} (h0 : ad (kd t n) j = some a) (h1 : yex t n L 0 ty a = some (b, C)) (h2 : tke (kd t n) 36 b = some c) (h3 : yval C = some v) (h4 : cnd (lo ≤ v ∧ v ≤ hi) = some ()) : pvI t n L ty lo hi j = some (c, v) := by
  unfold pvI
  simp only [h0, h1, h2, h3, h4]
def tkl (o : Option Int) (lo : Int) : Option (Int × Int) := match o with
  | none => none
  | some d => some (d, lo)
noncomputable def pInit (t : Int → Int) (n : Int) (L : yN) (ty lo hi j : Int) : Option (Int × Int) := if kd t n j = 11 then pvI t n L ty lo hi j else tkl (tke (kd t n) 36 j) lo
theorem pInit_g {t : Int → Int} {n ty x lo hi j : Int} {L L' : yN} {Y : Option (Int × Int)} (h : pvI t n L' x lo hi j = Y) (hk : kd t n j = 11) (hL : L' = L) (hx : x = ty) : pInit t n L ty lo hi j = Y := by
  subst hL hx
  unfold pInit
  rw [if_pos hk]
  exact h
theorem pInit_e {t : Int → Int} {n ty lo hi j : Int} {L : yN} {Y : Option Int} (h : tke (kd t n) 36 j = Y) (hk : ¬ kd t n j = 11) : pInit t n L ty lo hi j = tkl Y lo := by
  unfold pInit
  rw [if_neg hk, h]
theorem pInit_en {t : Int → Int} {n ty lo hi j : Int} {L : yN} (h : tke (kd t n) 36 j = none) (hk : ¬ kd t n j = 11) : pInit t n L ty lo hi j = none := pInit_e h hk
theorem pInit_es {t : Int → Int} {n ty lo hi j d v : Int} {L : yN} (h : tke (kd t n) 36 j = some d) (hk : ¬ kd t n j = 11) (hv : v = lo) : pInit t n L ty lo hi j = some (d, v) := by subst hv; exact pInit_e h hk
noncomputable def pVar (t : Int → Int) (n : Int) (L : yN) (V : Int) (j : Int) : Option (Int × yN × Int × Int × Int) := (match pvA t n L V j with
    | none => none
    | some (c, ty, lo, hi) => (match pInit t n L ty lo hi c with
    | none => none
    | some (d, v) => some (d, L ++ [(j, 1, V, ty)], lo, hi, v)))
theorem pVar_n0 {t : Int → Int} {n : Int} {L : yN} {V : Int} {j : Int}  (h0 : pvA t n L V j = none) : pVar t n L V j = none := by
  unfold pVar
  simp only [h0]
theorem pVar_n1 {t : Int → Int} {n : Int} {L : yN} {V : Int} {j : Int} {c ty lo hi : Int} (h0 : pvA t n L V j = some (c, ty, lo, hi)) (h1 : pInit t n L ty lo hi c = none) : pVar t n L V j = none := by
  unfold pVar
  simp only [h0, h1]
theorem pVar_s {t : Int → Int} {n : Int} {L : yN} {V : Int} {j : Int} {c ty lo hi : Int} {d v : Int} (h0 : pvA t n L V j = some (c, ty, lo, hi)) (h1 : pInit t n L ty lo hi c = some (d, v)) : pVar t n L V j = some (d, L ++ [(j, 1, V, ty)], lo, hi, v) := by
  unfold pVar
  simp only [h0, h1]
theorem nm_var {t : Int → Int} {n made N N' V tok x : Int} {nt role holds ty : Int → Int} (h : nv_ok t n made N V nt role holds) (hN : N' = N + 1) : nmL N' (hw_up nt N tok) (hw_up role N 1) (hw_up holds N V) (hw_up ty V x) = nmL N nt role holds ty ++ [(tok, 1, V, x)] := by
  rw [nm_p1 h hN, nm_ty h (Int.le_refl V), hw_up_s]
