/-! the model's way down through an expression, against the spec's run -/
def uH (lev : Int) (R0 : Option (Int × Int × yC)) (k : Int → Int) (od : Int → Option (Int × Int × Int)) (W : List yE) (d : Int) (C : yC) (ty j : Int) : Prop := ∃ e : Int, R0 = yR k od (0, W, d, C, ty) e j ∧ (e = k j ∨ (lev ≤ 6 ∧ e = 1 ∧ 21 ≤ k j ∧ k j ≤ 26)) ∧ yrank e < lev
theorem yrk_b {q : Int} : 0 ≤ yrank q ∧ yrank q ≤ 8 ∧ ¬ yrank q = 5 := by
  unfold yrank
  repeat' split
  all_goals omega
theorem yrank_k {q : Int} : (yrank q = 8 → q = 29) ∧ (yrank q = 7 → q = 27 ∨ q = 28) ∧ (yrank q = 6 → 21 ≤ q ∧ q ≤ 26) ∧ (yrank q = 4 → q = 32) ∧ (yrank q = 3 → q = 33) ∧ (yrank q = 2 → q = 20) ∧ (yrank q = 1 → q = 34) := by
  unfold yrank
  repeat' split
  all_goals omega
theorem yth_b {q : Int} : yrank q ≤ ythr q ∧ ythr q ≤ yrank q + 1 ∧ (yrank q ≤ 2 → ythr q = yrank q + 1) ∧ (yrank q = 6 → ythr q = 7) ∧ (2 < yrank q → ¬ yrank q = 6 → ythr q = yrank q) := by
  unfold ythr
  split <;> omega
theorem yrank_1 : yrank 1 = 0 := by decide
theorem ythr_1 : ythr 1 = 1 := by decide
theorem yset_top {thr d ty : Int} {W : List yE} {C : yC} (h : ytop W < thr) : yset thr W d C ty = some (W, d, C, ty) := by
  cases W with
  | nil => rfl
  | cons x W =>
    obtain ⟨k, r, a, j⟩ := x
    unfold yset
    exact if_neg (by have : ytop ((k, r, a, j) :: W) = r := rfl; omega)
section YD
variable {k : Int → Int} {od : Int → Option (Int × Int × Int)} {R0 : Option (Int × Int × yC)} {W : List yE} {d j j' ty lev : Int} {C : yC}
theorem uH_dn {lev' : Int} (h : uH lev R0 k od W d C ty j) (hl : lev' = lev - 1) (h0 : 2 ≤ lev) (hk : ¬ yrank (k j) = lev - 1) : uH lev' R0 k od W d C ty j := by
  obtain ⟨e, h1, h2, h3⟩ := h
  have q := yrank_1
  refine ⟨e, h1, ?_, ?_⟩
  · rcases h2 with h2 | h2
    · exact Or.inl h2
    · exact Or.inr ⟨by omega, h2.2⟩
  · rcases h2 with h2 | h2
    · rw [← h2] at hk; omega
    · rw [h2.2.1, q]; omega
theorem uH_8 (h : uH 9 R0 k od W d C ty j) (hk : ¬ k j = 29) : uH 8 R0 k od W d C ty j := uH_dn h rfl (by decide) (fun z => hk (yrank_k.1 z))
theorem uH_7 (h : uH 8 R0 k od W d C ty j) (hk : ¬ k j = 27) (hm : ¬ k j = 28) : uH 7 R0 k od W d C ty j := uH_dn h rfl (by decide) (fun z => by have := yrank_k.2.1 z; omega)
theorem uH_6 (h : uH 7 R0 k od W d C ty j) (hk : k j < 21 ∨ 26 < k j) : uH 6 R0 k od W d C ty j := uH_dn h rfl (by decide) (fun z => by have := yrank_k.2.2.1 z; omega)
theorem uH_5 (h : uH 6 R0 k od W d C ty j) : uH 5 R0 k od W d C ty j := uH_dn h rfl (by decide) yrk_b.2.2
theorem uH_4 (h : uH 5 R0 k od W d C ty j) (hk : ¬ k j = 32) : uH 4 R0 k od W d C ty j := uH_dn h rfl (by decide) (fun z => hk (yrank_k.2.2.2.1 z))
theorem uH_3 (h : uH 4 R0 k od W d C ty j) (hk : ¬ k j = 33) : uH 3 R0 k od W d C ty j := uH_dn h rfl (by decide) (fun z => hk (yrank_k.2.2.2.2.1 z))
theorem uH_2 (h : uH 3 R0 k od W d C ty j) (hk : ¬ k j = 20) : uH 2 R0 k od W d C ty j := uH_dn h rfl (by decide) (fun z => hk (yrank_k.2.2.2.2.2.1 z))
theorem uH_1 (h : uH 2 R0 k od W d C ty j) (hk : ¬ k j = 34) : uH 1 R0 k od W d C ty j := uH_dn h rfl (by decide) (fun z => hk (yrank_k.2.2.2.2.2.2 z))
theorem uH_9 (h : R0 = yR k od (0, W, d, C, ty) (k j) j) : uH 9 R0 k od W d C ty j := ⟨k j, h, Or.inl rfl, by have := (yrk_b (q := k j)).2.1; omega⟩
/-- what waits is settled -/
theorem yhave_s {e q r a jm : Int} (ht : ythr e ≤ r) (hf : yfit q r a ty) (h6 : ¬ yrank e = 6 ∨ 6 < r) : yhave e ((q, r, a, jm) :: W) d C ty = yhave e W (yd1 r d) (yc1 q jm C) (yt1 r ty) := by
  unfold yhave
  rw [show yset (ythr e) ((q, r, a, jm) :: W) d C ty = yset (ythr e) W (yd1 r d) (yc1 q jm C) (yt1 r ty) by
    conv => lhs; unfold yset
    rw [if_pos ht, if_pos hf]]
theorem yhave_n {e q r a jm : Int} (ht : ythr e ≤ r) (hf : ¬ yfit q r a ty) : yhave e ((q, r, a, jm) :: W) d C ty = none := by
  unfold yhave
  rw [show yset (ythr e) ((q, r, a, jm) :: W) d C ty = none by
    unfold yset
    rw [if_pos ht, if_neg hf]]
theorem uH_set {q r a jm : Int} (h : uH lev R0 k od ((q, r, a, jm) :: W) d C ty j) (hr : lev ≤ r + 1) (hl : lev ≤ 3 → lev ≤ r) (h6 : ¬ lev = 7) (hf : yfit q r a ty) (hj : j < 1501) : uH lev R0 k od W (yd1 r d) (yc1 q jm C) (yt1 r ty) j := by
  obtain ⟨e, h1, h2, h3⟩ := h
  have z := yth_b (q := e)
  have b := yrk_b (q := e)
  refine ⟨e, ?_, h2, h3⟩
  rw [h1]
  refine yR_c hj ?_
  show yhave e _ d C ty = yhave e W _ _ _
  exact yhave_s (by omega) hf (by omega)
theorem uH_no {q r a jm : Int} (h : uH lev R0 k od ((q, r, a, jm) :: W) d C ty j) (hr : lev ≤ r + 1) (hl : lev ≤ 3 → lev ≤ r) (h6 : ¬ lev = 7) (hf : ¬ yfit q r a ty) (hj : j < 1501) : R0 = none := by
  obtain ⟨e, h1, h2, h3⟩ := h
  have z := yth_b (q := e)
  have b := yrk_b (q := e)
  rw [h1]
  refine yR_n hj ?_
  show yhave e _ d C ty = none
  exact yhave_n (by omega) hf
/-- a relation is settled; a second one ends the expression -/
theorem ybr_c {q x r a jm : Int} : ybr q ((x, r, a, jm) :: W) d C ty = if x = 34 ∧ q = 35 then some (.inl (1, (34, 1, (if a = 2 then ty else 0), (C.length : Int)) :: W, d, yaim (C ++ [(35, -1)]) jm, 0))
    else if x = 39 ∧ q = 40 then some (.inl (0, W, d - 1, C, ty))
    else if (15 ≤ x ∧ x ≤ 17) ∧ a = 0 ∧ q = 37 then some (.inl (1, (x, r, ty, jm) :: W, d, C, 0))
    else if (15 ≤ x ∧ x ≤ 17) ∧ ¬ a = 0 ∧ q = 40 then some (.inl (0, (x, 9, a, jm) :: W, d, C, ty))
    else none := rfl
theorem ybr_n {q q' : Int} (h : ¬ q = 35 ∧ ¬ q = 40 ∧ ¬ q = 37) (h' : ¬ q' = 35 ∧ ¬ q' = 40 ∧ ¬ q' = 37) : ybr q W d C ty = ybr q' W d C ty := by
  cases W with
  | nil => rfl
  | cons x W =>
    obtain ⟨a, r, b, jm⟩ := x
    rw [ybr_c, ybr_c, if_neg (by omega), if_neg (by omega), if_neg (by omega), if_neg (by omega), if_neg (by omega), if_neg (by omega), if_neg (by omega), if_neg (by omega)]
theorem uH_cmp {q a : Int} (h : uH 7 R0 k od ((q, 6, a, -1) :: W) d C ty j) (hW : ytop W ≤ 5) (hf : yfit q 6 a ty) (hj : j < 1501) : uH 6 R0 k od W d (C ++ [(q, 0)]) 2 j := by
  obtain ⟨e, h1, h2, h3⟩ := h
  have z := yth_b (q := e)
  have b := yrk_b (q := e)
  have e1 : e = k j := by
    rcases h2 with h2 | h2
    · exact h2
    · omega
  by_cases r6 : yrank e = 6
  · have rk := yrank_k.2.2.1 r6
    refine ⟨1, ?_, Or.inr ⟨by decide, rfl, by omega⟩, by decide⟩
    rw [h1]
    refine yR_c hj ?_
    show yhave e _ d C ty = yhave 1 W d (C ++ [(q, 0)]) 2
    unfold yhave
    rw [yset_top (by show (6 : Int) < ythr e; omega)]
    show (if yrank e = 6 ∧ (6 : Int) = 6 then _ else _) = _
    rw [if_pos ⟨r6, rfl⟩, show yset 1 ((q, 6, a, -1) :: W) d C ty = yset 1 W d (C ++ [(q, 0)]) 2 by
      conv => lhs; unfold yset
      rw [if_pos (by decide), if_pos hf]
      rfl, ythr_1]
    cases yset 1 W d (C ++ [(q, 0)]) 2 with
    | none => rfl
    | some x =>
      obtain ⟨W2, d2, C2, t2⟩ := x
      show ybr e W2 d2 C2 t2 = (if yrank 1 = 6 ∧ ytop W2 = 6 then _ else _)
      rw [if_neg (fun z => absurd z.1 (by decide))]
      show _ = yop 1 W2 d2 C2 t2
      unfold yop
      rw [if_pos yrank_1]
      exact ybr_n (by omega) (by omega)
  · refine ⟨e, ?_, Or.inl e1, by omega⟩
    rw [h1]
    refine yR_c hj ?_
    show yhave e _ d C ty = yhave e W d (C ++ [(q, 0)]) 2
    exact yhave_s (by omega) hf (Or.inl r6)
theorem uH_cn {q a : Int} (h : uH 7 R0 k od ((q, 6, a, -1) :: W) d C ty j) (hf : ¬ yfit q 6 a ty) (hj : j < 1501) : R0 = none := by
  obtain ⟨e, h1, h2, h3⟩ := h
  have z := yth_b (q := e)
  have b := yrk_b (q := e)
  rw [h1]
  refine yR_n hj ?_
  show yhave e _ d C ty = none
  by_cases r6 : yrank e = 6
  · unfold yhave
    rw [yset_top (by show (6 : Int) < ythr e; omega)]
    show (if yrank e = 6 ∧ (6 : Int) = 6 then _ else _) = _
    rw [if_pos ⟨r6, rfl⟩, show yset 1 ((q, 6, a, -1) :: W) d C ty = none by
      unfold yset
      rw [if_pos (by decide), if_neg hf]]
  · exact yhave_n (by omega) hf
/-- an operator is met -/
theorem uH_e {q : Int} (h : uH lev R0 k od W d C ty j) (hq : k j = q) (hx : q < 21 ∨ 26 < q ∨ 7 ≤ lev) : R0 = yR k od (0, W, d, C, ty) q j := by
  obtain ⟨e, h1, h2, h3⟩ := h
  rcases h2 with h2 | h2
  · rw [h1, h2, hq]
  · omega
theorem yop_b {q : Int} (hq : (21 ≤ q ∧ q ≤ 26) ∨ q = 27 ∨ q = 28 ∨ q = 29) (hW : ytop W < yrank q) : yhave q W d C ty = some (.inl (1, (q, yrank q, ty, -1) :: W, d, C, 0)) := by
  have r : yrank q = (if q ≤ 26 then 6 else if q = 29 then 8 else 7) := by
    unfold yrank
    repeat' split
    all_goals omega
  have z := yth_b (q := q)
  unfold yhave
  rw [yset_top (by omega)]
  show (if yrank q = 6 ∧ ytop W = 6 then _ else _) = _
  rw [if_neg (by omega)]
  unfold yop
  rw [if_neg (by split at r <;> omega), if_neg (by split at r <;> omega), if_neg (by omega)]
theorem uH_bin {q r : Int} (h : uH lev R0 k od W d C ty j) (hq : k j = q) (h1 : (21 ≤ q ∧ q ≤ 26) ∨ q = 27 ∨ q = 28 ∨ q = 29) (hr : yrank q = r) (hW : ytop W < r) (hx : q < 21 ∨ 26 < q ∨ 7 ≤ lev) (ha : ad k j = some j') (hj : j < 1501) : R0 = yR k od (1, (q, r, ty, -1) :: W, d, C, 0) (k j') j' := by
  subst hr
  have z := uH_e h hq hx
  rw [← hq] at z
  refine rx_h1 z ?_ ha hj
  rw [hq]
  exact yop_b h1 hW
theorem uH_binn {q r : Int} (h : uH lev R0 k od W d C ty j) (hq : k j = q) (h1 : (21 ≤ q ∧ q ≤ 26) ∨ q = 27 ∨ q = 28 ∨ q = 29) (hr : yrank q = r) (hW : ytop W < r) (hx : q < 21 ∨ 26 < q ∨ 7 ≤ lev) (ha : ad k j = none) (hj : j < 1501) : R0 = none := by
  subst hr
  have z := uH_e h hq hx
  have hh := yop_b (d := d) (C := C) (ty := ty) h1 hW
  rw [← hq] at z hh
  exact rx_h1n z hh ha hj
theorem yop_j {q : Int} (hq : q = 32 ∨ q = 33 ∨ q = 20 ∨ q = 34) (hW : ytop W < ythr q) (h6 : ¬ (yrank q ≤ 2 ∧ 40 ≤ d)) : yhave q W d C ty = some (.inl (1, (q, (if q = 34 then 0 else yrank q), ty, (C.length : Int)) :: W, (if yrank q ≤ 2 then d + 1 else d), C ++ [(q, -1)], 0)) := by
  have r : yrank q ≤ 4 ∧ 1 ≤ yrank q := by rcases hq with e | e | e | e <;> (subst e; decide)
  unfold yhave
  rw [yset_top hW]
  show (if yrank q = 6 ∧ ytop W = 6 then _ else _) = _
  rw [if_neg (by omega)]
  unfold yop
  rw [if_neg (by omega), if_neg h6, if_pos hq]
theorem uH_jmp {q r : Int} (h : uH lev R0 k od W d C ty j) (hq : k j = q) (h1 : q = 32 ∧ r = 4 ∨ q = 33 ∧ r = 3) (hW : ytop W < r) (ha : ad k j = some j') (hj : j < 1501) : R0 = yR k od (1, (q, r, ty, (C.length : Int)) :: W, d, C ++ [(q, -1)], 0) (k j') j' := by
  have z := uH_e h hq (by omega)
  rw [← hq] at z
  refine rx_h1 z ?_ ha hj
  rw [hq, yop_j (by omega) (by rcases h1 with ⟨e, e2⟩ | ⟨e, e2⟩ <;> (subst e e2; exact hW)) (by rcases h1 with ⟨e, e2⟩ | ⟨e, e2⟩ <;> (subst e e2; exact fun z => absurd z.1 (by decide)))]
  rcases h1 with ⟨e, e2⟩ | ⟨e, e2⟩ <;> (subst e e2; rfl)
theorem uH_jmpn {q r : Int} (h : uH lev R0 k od W d C ty j) (hq : k j = q) (h1 : q = 32 ∧ r = 4 ∨ q = 33 ∧ r = 3) (hW : ytop W < r) (ha : ad k j = none) (hj : j < 1501) : R0 = none := by
  have z := uH_e h hq (by omega)
  have hh := yop_j (d := d) (C := C) (ty := ty) (W := W) (q := q) (by omega) (by rcases h1 with ⟨e, e2⟩ | ⟨e, e2⟩ <;> (subst e e2; exact hW)) (by rcases h1 with ⟨e, e2⟩ | ⟨e, e2⟩ <;> (subst e e2; exact fun z => absurd z.1 (by decide)))
  rw [← hq] at z hh
  exact rx_h1n z hh ha hj
theorem uH_imp (h : uH lev R0 k od W d C ty j) (hq : k j = 20) (hW : ytop W ≤ 2) (hd : d < 40) (ha : ad k j = some j') (hj : j < 1501) : R0 = yR k od (1, (20, 2, ty, (C.length : Int)) :: W, d + 1, C ++ [(20, -1)], 0) (k j') j' := by
  have z := uH_e h hq (by omega)
  rw [← hq] at z
  refine rx_h1 z ?_ ha hj
  rw [hq, yop_j (by omega) (by show ytop W < 3; omega) (by omega)]
  rfl
theorem uH_ask (h : uH lev R0 k od W d C ty j) (hq : k j = 34) (hW : ytop W ≤ 1) (hd : d < 40) (ha : ad k j = some j') (hj : j < 1501) : R0 = yR k od (1, (34, 0, ty, (C.length : Int)) :: W, d + 1, C ++ [(34, -1)], 0) (k j') j' := by
  have z := uH_e h hq (by omega)
  rw [← hq] at z
  refine rx_h1 z ?_ ha hj
  rw [hq, yop_j (by omega) (by show ytop W < 2; omega) (by omega)]
  rfl
theorem uH_askn {q : Int} (h : uH lev R0 k od W d C ty j) (hq : k j = q) (h1 : q = 20 ∧ ytop W ≤ 2 ∨ q = 34 ∧ ytop W ≤ 1) (ha : ad k j = none) (hj : j < 1501) : R0 = none := by
  have z := uH_e h hq (by omega)
  rw [← hq] at z
  by_cases hd : d < 40
  · have hh := yop_j (d := d) (C := C) (ty := ty) (W := W) (q := q) (by omega) (by rcases h1 with ⟨e, e2⟩ | ⟨e, e2⟩ <;> (subst e; first | (show ytop W < 3; omega) | (show ytop W < 2; omega))) (by omega)
    rw [← hq] at hh
    exact rx_h1n z hh ha hj
  · refine rx_h0 z ?_ hj
    rw [hq]
    unfold yhave
    rw [yset_top (by rcases h1 with ⟨e, e2⟩ | ⟨e, e2⟩ <;> (subst e; first | (show ytop W < 3; omega) | (show ytop W < 2; omega)))]
    have r : yrank q ≤ 2 ∧ 1 ≤ yrank q := by rcases h1 with ⟨e, _⟩ | ⟨e, _⟩ <;> (subst e; decide)
    show (if yrank q = 6 ∧ ytop W = 6 then _ else _) = _
    rw [if_neg (by omega)]
    unfold yop
    rw [if_neg (by omega), if_pos (by omega)]
theorem uH_deep {q : Int} (h : uH lev R0 k od W d C ty j) (hq : k j = q) (h1 : q = 20 ∧ ytop W ≤ 2 ∨ q = 34 ∧ ytop W ≤ 1) (hd : 40 ≤ d) (hj : j < 1501) : R0 = none := by
  have z := uH_e h hq (by omega)
  rw [← hq] at z
  refine rx_h0 z ?_ hj
  rw [hq]
  unfold yhave
  rw [yset_top (by rcases h1 with ⟨e, e2⟩ | ⟨e, e2⟩ <;> (subst e; first | (show ytop W < 3; omega) | (show ytop W < 2; omega)))]
  have r : yrank q ≤ 2 ∧ 1 ≤ yrank q := by rcases h1 with ⟨e, _⟩ | ⟨e, _⟩ <;> (subst e; decide)
  show (if yrank q = 6 ∧ ytop W = 6 then _ else _) = _
  rw [if_neg (by omega)]
  unfold yop
  rw [if_neg (by omega), if_pos (by omega)]
/-- behind an expression within brackets -/
theorem yhave_br {e q a jm : Int} (hr : yrank e < 1) : yhave e ((q, 0, a, jm) :: W) d C ty = ybr e ((q, 0, a, jm) :: W) d C ty := by
  have b := yrk_b (q := e)
  have z := yth_b (q := e)
  unfold yhave
  rw [yset_top (by show (0 : Int) < ythr e; omega)]
  show (if yrank e = 6 ∧ (0 : Int) = 6 then _ else _) = _
  rw [if_neg (by omega)]
  unfold yop
  rw [if_pos (by omega)]
theorem uH_br {q a jm x : Int} {c : yG} (h : uH 1 R0 k od ((q, 0, a, jm) :: W) d C ty j) (hx : k j = x) (h2 : x < 21 ∨ 26 < x) (hb : ybr x ((q, 0, a, jm) :: W) d C ty = some (.inl c)) (ha : ad k j = some j') (hj : j < 1501) : R0 = yR k od c (k j') j' := by
  have r : yrank (k j) < 1 := by
    obtain ⟨e, h1, h3, h4⟩ := h
    rcases h3 with h3 | h3
    · rw [← h3]; exact h4
    · omega
  have z := uH_e h hx (by omega)
  rw [← hx] at z
  refine rx_h1 z ?_ ha hj
  rw [yhave_br r, hx]
  exact hb
theorem uH_brn {q a jm x : Int} {c : yG} (h : uH 1 R0 k od ((q, 0, a, jm) :: W) d C ty j) (hx : k j = x) (h2 : x < 21 ∨ 26 < x) (hb : ybr x ((q, 0, a, jm) :: W) d C ty = some (.inl c)) (ha : ad k j = none) (hj : j < 1501) : R0 = none := by
  have r : yrank (k j) < 1 := by
    obtain ⟨e, h1, h3, h4⟩ := h
    rcases h3 with h3 | h3
    · rw [← h3]; exact h4
    · omega
  have z := uH_e h hx (by omega)
  rw [← hx] at z
  have hh : yhave (k j) ((q, 0, a, jm) :: W) d C ty = some (.inl c) := by
    rw [yhave_br r, hx]
    exact hb
  exact rx_h1n z hh ha hj
theorem uH_b0 {q a jm : Int} (h : uH 1 R0 k od ((q, 0, a, jm) :: W) d C ty j) (hb : ∀ e : Int, e = k j ∨ e = 1 → ybr e ((q, 0, a, jm) :: W) d C ty = none) (hj : j < 1501) : R0 = none := by
  obtain ⟨e, h1, h3, h4⟩ := h
  rw [h1]
  refine yR_n hj ?_
  show yhave e _ d C ty = none
  rw [yhave_br h4]
  exact hb e (by omega)
/-- a colon -/
theorem uH_col {a jm : Int} (h : uH 1 R0 k od ((34, 0, a, jm) :: W) d C ty j) (hx : tke k 35 j = some j') (hj : j < 1501) : R0 = yR k od (1, (34, 1, (if a = 2 then ty else 0), (C.length : Int)) :: W, d, yaim (C ++ [(35, -1)]) jm, 0) (k j') j' := by
  unfold tke at hx
  by_cases z : k j = 35
  · rw [if_pos z] at hx
    exact uH_br h z (by omega) (by rw [ybr_c, if_pos ⟨rfl, rfl⟩]) hx hj
  · rw [if_neg z] at hx; cases hx
theorem uH_coln {a jm : Int} (h : uH 1 R0 k od ((34, 0, a, jm) :: W) d C ty j) (hx : tke k 35 j = none) (hj : j < 1501) : R0 = none := by
  unfold tke at hx
  by_cases z : k j = 35
  · rw [if_pos z] at hx
    exact uH_brn h z (by omega) (by rw [ybr_c, if_pos ⟨rfl, rfl⟩]) hx hj
  · refine uH_b0 h (fun e he => ?_) hj
    rw [ybr_c, if_neg (by omega), if_neg (by omega), if_neg (by omega), if_neg (by omega)]
theorem uH_par {a jm : Int} (h : uH 1 R0 k od ((39, 0, a, jm) :: W) d C ty j) (hx : tke k 40 j = some j') (hj : j < 1501) : uH 9 R0 k od W (d - 1) C ty j' := by
  unfold tke at hx
  by_cases z : k j = 40
  · rw [if_pos z] at hx
    exact uH_9 (uH_br h z (by omega) (by rw [ybr_c, if_neg (by omega), if_pos (by omega)]) hx hj)
  · rw [if_neg z] at hx; cases hx
theorem uH_parn {a jm : Int} (h : uH 1 R0 k od ((39, 0, a, jm) :: W) d C ty j) (hx : tke k 40 j = none) (hj : j < 1501) : R0 = none := by
  unfold tke at hx
  by_cases z : k j = 40
  · rw [if_pos z] at hx
    exact uH_brn h z (by omega) (by rw [ybr_c, if_neg (by omega), if_pos (by omega)]) hx hj
  · refine uH_b0 h (fun e he => ?_) hj
    rw [ybr_c, if_neg (by omega), if_neg (by omega), if_neg (by omega), if_neg (by omega)]
theorem uH_com {q jm : Int} (h : uH 1 R0 k od ((q, 0, 0, jm) :: W) d C ty j) (hq : 15 ≤ q ∧ q ≤ 17) (hx : tke k 37 j = some j') (hj : j < 1501) : R0 = yR k od (1, (q, 0, ty, jm) :: W, d, C, 0) (k j') j' := by
  unfold tke at hx
  by_cases z : k j = 37
  · rw [if_pos z] at hx
    exact uH_br h z (by omega) (by rw [ybr_c, if_neg (by omega), if_neg (by omega), if_pos (by omega)]) hx hj
  · rw [if_neg z] at hx; cases hx
theorem uH_comn {q jm : Int} (h : uH 1 R0 k od ((q, 0, 0, jm) :: W) d C ty j) (hq : 15 ≤ q ∧ q ≤ 17) (hx : tke k 37 j = none) (hj : j < 1501) : R0 = none := by
  unfold tke at hx
  by_cases z : k j = 37
  · rw [if_pos z] at hx
    exact uH_brn h z (by omega) (by rw [ybr_c, if_neg (by omega), if_neg (by omega), if_pos (by omega)]) hx hj
  · refine uH_b0 h (fun e he => ?_) hj
    rw [ybr_c, if_neg (by omega), if_neg (by omega), if_neg (by omega), if_neg (by omega)]
theorem uH_fn {q a jm : Int} (h : uH 1 R0 k od ((q, 0, a, jm) :: W) d C ty j) (hq : 15 ≤ q ∧ q ≤ 17) (ha : ¬ a = 0) (hx : tke k 40 j = some j') (hj : j < 1501) : uH 9 R0 k od ((q, 9, a, jm) :: W) d C ty j' := by
  unfold tke at hx
  by_cases z : k j = 40
  · rw [if_pos z] at hx
    exact uH_9 (uH_br h z (by omega) (by rw [ybr_c, if_neg (by omega), if_neg (by omega), if_neg (by omega), if_pos (by omega)]) hx hj)
  · rw [if_neg z] at hx; cases hx
theorem uH_fnn {q a jm : Int} (h : uH 1 R0 k od ((q, 0, a, jm) :: W) d C ty j) (hq : 15 ≤ q ∧ q ≤ 17) (ha : ¬ a = 0) (hx : tke k 40 j = none) (hj : j < 1501) : R0 = none := by
  unfold tke at hx
  by_cases z : k j = 40
  · rw [if_pos z] at hx
    exact uH_brn h z (by omega) (by rw [ybr_c, if_neg (by omega), if_neg (by omega), if_neg (by omega), if_pos (by omega)]) hx hj
  · refine uH_b0 h (fun e he => ?_) hj
    rw [ybr_c, if_neg (by omega), if_neg (by omega), if_neg (by omega), if_neg (by omega)]
/-- the whole expression is read -/
theorem uH_end (h : uH 1 R0 k od [] d C ty j) (hj : j < 1501) : R0 = some (j, ty, C) := by
  obtain ⟨e, h1, h2, h3⟩ := h
  have b := yrk_b (q := e)
  rw [h1]
  refine yR_d hj ?_
  show yhave e [] d C ty = _
  unfold yhave
  rw [show yset (ythr e) [] d C ty = some ([], d, C, ty) from rfl]
  show (if yrank e = 6 ∧ ytop [] = 6 then _ else _) = _
  rw [if_neg (by omega)]
  unfold yop
  rw [if_pos (by omega)]
  rfl
/-! before an operand -/
theorem uW_od {c v t : Int} (h : R0 = yR k od (1, W, d, C, 0) (k j) j) (ho : od j = some (c, v, t)) (ha : ad k j = some j') (hj : j < 1501) : uH 9 R0 k od W d (C ++ [(c, v)]) t j' := uH_9 (rx_1 h (by rw [ho]; rfl) ha hj)
theorem uW_odn {c v t : Int} (h : R0 = yR k od (1, W, d, C, 0) (k j) j) (ho : od j = some (c, v, t)) (ha : ad k j = none) (hj : j < 1501) : R0 = none := rx_1n (c := (0, W, d, C ++ [(c, v)], t)) h (by rw [ho]; rfl) ha hj
theorem yw_n {q : Int} (hq : q = 31 ∧ ytop W ≤ 5 ∨ q = 28 ∨ q = 39) (hd : d < 40) : ywant none q W d C = some (.inl (1, (if q = 31 then (31, 5, 2, -1) else if q = 28 then (43, 9, 1, -1) else (39, 0, 0, -1)) :: W, d + 1, C, 0)) := by
  unfold ywant
  rcases hq with ⟨e, e2⟩ | e | e
  · subst e; show (if (31 : Int) = 31 then _ else _) = _; rw [if_pos rfl, if_neg (by omega)]; rfl
  · subst e; show (if (28 : Int) = 31 then _ else _) = _; rw [if_neg (by decide), if_pos rfl, if_neg (by omega)]; rfl
  · subst e; show (if (39 : Int) = 31 then _ else _) = _; rw [if_neg (by decide), if_neg (by decide), if_pos rfl, if_neg (by omega)]; rfl
theorem uW_not (h : R0 = yR k od (1, W, d, C, 0) (k j) j) (ho : od j = none) (hq : k j = 31) (hW : ytop W ≤ 5) (hd : d < 40) (ha : ad k j = some j') (hj : j < 1501) : R0 = yR k od (1, (31, 5, 2, -1) :: W, d + 1, C, 0) (k j') j' := rx_1 h (by rw [ho, hq]; exact yw_n (Or.inl ⟨rfl, hW⟩) hd) ha hj
theorem uW_neg (h : R0 = yR k od (1, W, d, C, 0) (k j) j) (ho : od j = none) (hq : k j = 28) (hd : d < 40) (ha : ad k j = some j') (hj : j < 1501) : R0 = yR k od (1, (43, 9, 1, -1) :: W, d + 1, C, 0) (k j') j' := rx_1 h (by rw [ho, hq]; exact yw_n (Or.inr (Or.inl rfl)) hd) ha hj
theorem uW_par (h : R0 = yR k od (1, W, d, C, 0) (k j) j) (ho : od j = none) (hq : k j = 39) (hd : d < 40) (ha : ad k j = some j') (hj : j < 1501) : R0 = yR k od (1, (39, 0, 0, -1) :: W, d + 1, C, 0) (k j') j' := rx_1 h (by rw [ho, hq]; exact yw_n (Or.inr (Or.inr rfl)) hd) ha hj
theorem uW_n {q : Int} (h : R0 = yR k od (1, W, d, C, 0) (k j) j) (ho : od j = none) (hq : k j = q) (h1 : q = 31 ∧ ytop W ≤ 5 ∨ q = 28 ∨ q = 39) (ha : ad k j = none) (hj : j < 1501) : R0 = none := by
  by_cases hd : d < 40
  · exact rx_1n h (by rw [ho, hq]; exact yw_n h1 hd) ha hj
  · refine rx_0 h ?_ hj
    rw [ho, hq]
    unfold ywant
    rcases h1 with ⟨e, e2⟩ | e | e
    · subst e; show (if (31 : Int) = 31 then _ else _) = _; rw [if_pos rfl, if_pos (by omega)]
    · subst e; show (if (28 : Int) = 31 then _ else _) = _; rw [if_neg (by decide), if_pos rfl, if_pos (by omega)]
    · subst e; show (if (39 : Int) = 31 then _ else _) = _; rw [if_neg (by decide), if_neg (by decide), if_pos rfl, if_pos (by omega)]
theorem uW_d {q : Int} (h : R0 = yR k od (1, W, d, C, 0) (k j) j) (ho : od j = none) (hq : k j = q) (hd : 40 ≤ d) (hj : j < 1501) : R0 = none := by
  refine rx_0 h ?_ hj
  rw [ho]
  unfold ywant
  show (if k j = 31 then _ else _) = _
  by_cases a : k j = 31
  · rw [if_pos a, if_pos (Or.inr hd)]
  · rw [if_neg a]
    by_cases b : k j = 28
    · rw [if_pos b, if_pos hd]
    · rw [if_neg b]
      by_cases c : k j = 39
      · rw [if_pos c, if_pos hd]
      · rw [if_neg c]
        by_cases e : 15 ≤ k j ∧ k j ≤ 17
        · rw [if_pos e, if_pos hd]
        · rw [if_neg e]
theorem uW_f {q j2 : Int} (h : R0 = yR k od (1, W, d, C, 0) (k j) j) (ho : od j = none) (hq : k j = q) (h1 : 15 ≤ q ∧ q ≤ 17) (hd : d < 40) (ha : ad k j = some j') (hb : tke k 39 j' = some j2) (hj : j < 1500) : R0 = yR k od (1, (q, 0, 0, -1) :: W, d + 1, C, 0) (k j2) j2 := by
  obtain ⟨e1, e2⟩ := ad_i ha
  unfold tke at hb
  by_cases z : k j' = 39
  · rw [if_pos z] at hb
    refine rx_2 (W' := (q, 0, 0, -1) :: W) (d' := d + 1) (C' := C) (ty := 0) h ?_ hb e1 z hj
    rw [ho, hq]
    unfold ywant
    show (if q = 31 then _ else _) = _
    rw [if_neg (by omega), if_neg (by omega), if_neg (by omega), if_pos h1, if_neg (by omega)]
  · rw [if_neg z] at hb; cases hb
theorem yw_f {q : Int} (h1 : 15 ≤ q ∧ q ≤ 17) (hd : d < 40) : ywant none q W d C = some (.inl (2, (q, 0, 0, -1) :: W, d + 1, C, 0)) := by
  unfold ywant
  show (if q = 31 then _ else _) = _
  rw [if_neg (by omega), if_neg (by omega), if_neg (by omega), if_pos h1, if_neg (by omega)]
theorem uW_fn {q : Int} (h : R0 = yR k od (1, W, d, C, 0) (k j) j) (ho : od j = none) (hq : k j = q) (h1 : 15 ≤ q ∧ q ≤ 17) (hd : d < 40) (hx : ad k j = none ∨ (ad k j = some j' ∧ tke k 39 j' = none)) (hj : j < 1500) : R0 = none := by
  rcases hx with ha | ⟨ha, hb⟩
  · exact rx_1n (c := (2, (q, 0, 0, -1) :: W, d + 1, C, 0)) h (by rw [ho, hq]; exact yw_f h1 hd) ha (by omega)
  · obtain ⟨e1, e2⟩ := ad_i ha
    unfold tke at hb
    by_cases z : k j' = 39
    · rw [if_pos z] at hb
      refine rx_2n (W' := (q, 0, 0, -1) :: W) (d' := d + 1) (C' := C) (ty := 0) h ?_ hb e1 z hj
      rw [ho, hq]
      exact yw_f h1 hd
    · refine rx_2k h ?_ (by rw [← e1]; exact z) hj
      rw [ho, hq]
      exact ⟨_, _, _, _, yw_f h1 hd⟩
theorem uW_0 (h : R0 = yR k od (1, W, d, C, 0) (k j) j) (ho : od j = none) (hq : ¬ k j = 28 ∧ ¬ k j = 39 ∧ ¬ (15 ≤ k j ∧ k j ≤ 17)) (h3 : ¬ k j = 31 ∨ 5 < ytop W) (hj : j < 1501) : R0 = none := by
  refine rx_0 h ?_ hj
  rw [ho]
  unfold ywant
  show (if k j = 31 then _ else _) = _
  by_cases a : k j = 31
  · rw [if_pos a, if_pos (Or.inl (by omega))]
  · rw [if_neg a, if_neg hq.1, if_neg hq.2.1, if_neg hq.2.2]
end YD
