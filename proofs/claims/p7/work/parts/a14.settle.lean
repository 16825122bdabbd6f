/-! what waits is settled; brackets; operators: out of arrays -/
def yb_ok (fr : Int) (op op' wi wi' : Int → Int) : Prop := ∃ _ : Unit, ∀ i, i < fr → op' i = op i ∧ wi' i = wi i
theorem yb_0 {fr : Int} {op wi : Int → Int} : yb_ok fr op op wi wi := ⟨(), fun _ _ => ⟨rfl, rfl⟩⟩
theorem yb_t {fr : Int} {op op' op2 wi wi' wi2 : Int → Int} (h : yb_ok fr op op' wi wi') (h2 : yb_ok fr op' op2 wi' wi2) : yb_ok fr op op2 wi wi2 := by
  obtain ⟨_, h⟩ := h
  obtain ⟨_, h2⟩ := h2
  exact ⟨(), fun i hi => ⟨(h2 i hi).1.trans (h i hi).1, (h2 i hi).2.trans (h i hi).2⟩⟩
theorem yb_e {fr u c v : Int} {op op' wi wi' : Int → Int} (h : yb_ok fr op op' wi wi') (hu : fr ≤ u) : yb_ok fr op (hw_up op' u c) wi (hw_up wi' u v) := by
  obtain ⟨_, h⟩ := h
  refine ⟨(), fun i hi => ?_⟩
  rw [hw_up_n (by omega), hw_up_n (by omega)]
  exact h i hi
theorem yb_a {fr j v : Int} {op op' wi wi' : Int → Int} (h : yb_ok fr op op' wi wi') (hj : fr ≤ j) : yb_ok fr op op' wi (hw_up wi' j v) := by
  obtain ⟨_, h⟩ := h
  refine ⟨(), fun i hi => ?_⟩
  rw [hw_up_n (by omega)]
  exact h i hi
/-- yI as one -/
def yII (W : List yE) (d : Int) (C : yC) (n : Int) : Prop := ∃ _ : Unit, yI W d C n
def yty (v ty : Int) : Int := if v = 0 then ty else 0
section YS
variable {fr w l d u ty n x : Int} {wk wr wt wj op wi : Int → Int}
theorem yW_l (hw : w = l + 1) (h0 : 0 ≤ l) : yW fr w wk wr wt wj = (wk l, wr l, wt l, yrel fr (wj l)) :: yW fr l wk wr wt wj := by
  subst hw
  exact yW_s h0
theorem yW_cg {wk' wr' wt' wj' : Int → Int} (h : ∀ i, 0 ≤ i → i < w → wk' i = wk i ∧ wr' i = wr i ∧ wt' i = wt i ∧ wj' i = wj i) : yW fr w wk' wr' wt' wj' = yW fr w wk wr wt wj := by
  unfold yW
  exact yWf_eq _ (fun i hi => h i (by omega) (by omega))
/-- the jump of the last -/
theorem yj_b (hI : yII (yW fr w wk wr wt wj) d (yCo fr u op wi) n) (hw : w = l + 1) (h0 : 0 ≤ l) (hj : 0 ≤ wj l) (hu : fr ≤ u) (hf0 : 0 ≤ fr) : fr ≤ wj l ∧ wj l < u ∧ yjp (op (wj l)) := by
  obtain ⟨_, hI⟩ := hI
  rw [yW_l hw h0] at hI
  have hb : fr ≤ wj l := by
    rcases Int.lt_or_le (wj l) fr with g | g
    · rw [yrel_w hj g] at hI
      rcases hI.2.1.1 with q | q
      · exact absurd q.1 (by decide)
      · exact absurd q.1 (by decide)
    · exact g
  rw [yrel_p hf0 hb] at hI
  rcases hI.2.1.1 with q | ⟨q1, o, v, q2, q3⟩
  · exact absurd q.1 (by omega)
  · have l1 := (List.getElem?_eq_some_iff.mp q2).1
    have l2 := yCo_len (op := op) (wi := wi) hu
    have l3 : wj l < u := by omega
    have g := yCo_get (op := op) (wi := wi) (fr := fr) (u := u) (i := wj l) (by omega) l3
    rw [g] at q2
    injection q2 with q2
    injection q2 with q2
    rw [← q2] at q3
    exact ⟨by omega, l3, q3⟩
theorem yj_w (hI : yII (yW fr w wk wr wt wj) d (yCo fr u op wi) n) (h0 : 0 < w) (hj : 0 ≤ wj (w - 1)) (hu : fr ≤ u) (hf0 : 0 ≤ fr) : fr ≤ wj (w - 1) ∧ wj (w - 1) < u := by
  have b := yj_b hI (l := w - 1) (by omega) (by omega) hj hu hf0
  exact ⟨b.1, b.2.1⟩
theorem ys_aim {Y : Option (List yE × Int × yC × Int)} (hE : Y = yset x (yW fr w wk wr wt wj) d (yCo fr u op wi) ty) (hI : yII (yW fr w wk wr wt wj) d (yCo fr u op wi) n) (hf : yfit (wk l) (wr l) (wt l) ty) (hw : w = l + 1) (h0 : 0 ≤ l) (hr : x ≤ wr l) (hx : 1 ≤ x) (hj : 0 ≤ wj l) (hu : fr ≤ u) (hf0 : 0 ≤ fr) : Y = yset x (yW fr l wk wr wt wj) (yd1 (wr l) d) (yCo fr u op (hw_up wi (wj l) u)) (yt1 (wr l) ty) ∧ yII (yW fr l wk wr wt wj) (yd1 (wr l) d) (yCo fr u op (hw_up wi (wj l) u)) n := by
  have b := yj_b hI hw h0 hj hu hf0
  obtain ⟨_, hI⟩ := hI
  have e : yCo fr u op (hw_up wi (wj l) u) = yc1 (wk l) (wj l - fr) (yCo fr u op wi) := by
    rw [yCo_aim b.1 b.2.1 (by omega) b.2.2]
    unfold yc1
    rw [if_pos (by omega)]
  rw [e]
  rw [yW_l hw h0, yrel_p hf0 b.1] at hE hI
  refine ⟨?_, (), yI_pop hI (by omega)⟩
  rw [hE]
  show (if x ≤ wr l then (if yfit (wk l) (wr l) (wt l) ty then _ else none) else _) = _
  rw [if_pos hr, if_pos hf]
theorem ys_emit {m : Int} {Y : Option (List yE × Int × yC × Int)} (hE : Y = yset x (yW fr w wk wr wt wj) d (yCo fr u op wi) ty) (hI : yII (yW fr w wk wr wt wj) d (yCo fr u op wi) n) (hf : yfit (wk l) (wr l) (wt l) ty) (hw : w = l + 1) (h0 : 0 ≤ l) (hr : x ≤ wr l) (hx : 1 ≤ x) (hj : wj l < 0) (hu : fr ≤ u) (hm : m = u + 1) : Y = yset x (yW fr l wk wr wt wj) (yd1 (wr l) d) (yCo fr m (hw_up op u (wk l)) (hw_up wi u 0)) (yt1 (wr l) ty) ∧ yII (yW fr l wk wr wt wj) (yd1 (wr l) d) (yCo fr m (hw_up op u (wk l)) (hw_up wi u 0)) n := by
  obtain ⟨_, hI⟩ := hI
  rw [yW_l hw h0, yrel_n hj] at hE hI
  have nj : ¬ yjp (wk l) := by
    rcases hI.2.1.1 with q | q
    · exact q.2
    · exact absurd q.1 (by decide)
  have e : yCo fr m (hw_up op u (wk l)) (hw_up wi u 0) = yc1 (wk l) (-1) (yCo fr u op wi) := by
    rw [yCo_emit hu hm]
    unfold ydec
    rw [if_neg nj]
    unfold yc1
    rw [if_neg (by decide)]
  rw [e]
  refine ⟨?_, (), yI_pop hI (by omega)⟩
  rw [hE]
  show (if x ≤ wr l then (if yfit (wk l) (wr l) (wt l) ty then _ else none) else _) = _
  rw [if_pos hr, if_pos hf]
theorem ys_no {C : yC} {Y : Option (List yE × Int × yC × Int)} (hE : Y = yset x (yW fr w wk wr wt wj) d C ty) (hf : ¬ yfit (wk l) (wr l) (wt l) ty) (hw : w = l + 1) (h0 : 0 ≤ l) (hr : x ≤ wr l) : Y = none := by
  rw [hE, yW_l hw h0]
  show (if x ≤ wr l then (if yfit (wk l) (wr l) (wt l) ty then _ else none) else _) = _
  rw [if_pos hr, if_neg hf]
theorem ys_stop {C : yC} {Y : Option (List yE × Int × yC × Int)} (hE : Y = yset x (yW fr w wk wr wt wj) d C ty) (h0 : 0 ≤ w) (h : w ≤ 0 ∨ wr (w - 1) < x) : Y = some (yW fr w wk wr wt wj, d, C, ty) := by
  rcases Int.lt_or_le 0 w with h1 | h1
  · rw [hE, yW_l (l := w - 1) (by omega) (by omega)]
    show (if x ≤ wr (w - 1) then _ else _) = _
    rw [if_neg (by omega)]
  · have e : w = 0 := by omega
    subst e
    exact hE
theorem ys_c {d' ty' r : Int} {W : List yE} {C : yC} {Y : Option (List yE × Int × yC × Int)} (h : Y = yset x W (yd1 r d) C (yt1 r ty)) (hd : d' = yd1 r d) (ht : ty' = yt1 r ty) : Y = yset x W d' C ty' := by rw [hd, ht]; exact h
theorem yI_c {d' r : Int} {W : List yE} {C : yC} (h : yII W (yd1 r d) C n) (hd : d' = yd1 r d) : yII W d' C n := by rw [hd]; exact h
theorem yI_l (hI : yII (yW fr w wk wr wt wj) d (yCo fr u op wi) n) (hu : fr ≤ u) (h0 : 0 ≤ w) : 0 ≤ d ∧ w ≤ 6 * d + 5 ∧ u - fr ≤ n := by
  have b := yI_b (hI.elim fun _ h => h)
  have l1 := yCo_len (op := op) (wi := wi) hu
  have l2 := yW_len (fr := fr) (wk := wk) (wr := wr) (wt := wt) (wj := wj) h0
  omega
theorem yt_top (h0 : 0 < w) : ytop (yW fr w wk wr wt wj) = wr (w - 1) := by
  rw [yW_l (l := w - 1) (by omega) (by omega)]
  rfl
theorem yt_top0 (h0 : w = 0) : ytop (yW fr w wk wr wt wj) = 0 := by
  subst h0
  rfl
theorem yII_b {W : List yE} {C : yC} (hI : yII W d C n) : 0 ≤ d := (yI_b (hI.elim fun _ h => h)).1
/-! brackets -/
theorem br_e {q : Int} {C : yC} (h : w = 0) : ybr q (yW fr w wk wr wt wj) d C ty = some (.inr (ty, C)) := by subst h; rfl
theorem br_colon {q b m : Int} (hI : yII (yW fr w wk wr wt wj) d (yCo fr u op wi) n) (hw : w = l + 1) (h0 : 0 ≤ l) (hu : fr ≤ u) (hf0 : 0 ≤ fr) (hk : wk l = 34) (hq : q = 35) (hb : (wt l = 2 → b = ty) ∧ (¬ wt l = 2 → b = 0)) (hm : m = u + 1) : ybr q (yW fr w wk wr wt wj) d (yCo fr u op wi) ty = some (.inl (1, yW fr w wk (hw_up wr l 1) (hw_up wt l b) (hw_up wj l u), d, yCo fr m (hw_up op u 35) (hw_up (hw_up wi u 0) (wj l) m), yty 1 ty)) := by
  have hj : 0 ≤ wj l := by
    obtain ⟨_, hI⟩ := hI
    rw [yW_l hw h0] at hI
    by_cases g : wj l < 0
    · rw [yrel_n g, hk] at hI
      exact absurd (yI_ask hI) (by decide)
    · omega
  have b1 := yj_b hI hw h0 hj hu hf0
  have e1 : yW fr w wk (hw_up wr l 1) (hw_up wt l b) (hw_up wj l u) = (34, 1, b, u - fr) :: yW fr l wk wr wt wj := by
    rw [yW_l hw h0, hw_up_s, hw_up_s, hw_up_s, hk, yrel_p hf0 hu]
    refine congrArg (fun z => _ :: z) (yW_cg (fun i i0 i1 => ?_))
    rw [hw_up_n (by omega), hw_up_n (by omega), hw_up_n (by omega)]
    exact ⟨rfl, rfl, rfl, rfl⟩
  have e2 : yCo fr m (hw_up op u 35) (hw_up (hw_up wi u 0) (wj l) m) = yaim (yCo fr u op wi ++ [(35, -1)]) (wj l - fr) := by
    rw [yCo_aim b1.1 (by omega) (by omega) (by rw [hw_up_n (by omega)]; exact b1.2.2), yCo_emit hu hm]
    rfl
  rw [e1, e2, yW_l hw h0, yrel_p hf0 b1.1]
  show (if wk l = 34 ∧ q = 35 then _ else _) = _
  rw [if_pos ⟨hk, hq⟩, yCo_len hu]
  have e3 : (if wt l = 2 then ty else 0) = b := by
    by_cases g : wt l = 2
    · rw [if_pos g, hb.1 g]
    · rw [if_neg g, hb.2 g]
  rw [e3]
  rfl
theorem br_shut {q : Int} {C : yC} (hw : w = l + 1) (h0 : 0 ≤ l) (hk : wk l = 39) (hq : q = 40) : ybr q (yW fr w wk wr wt wj) d C ty = some (.inl (0, yW fr l wk wr wt wj, d - 1, C, yty 0 ty)) := by
  rw [yW_l hw h0]
  show (if wk l = 34 ∧ q = 35 then _ else if wk l = 39 ∧ q = 40 then _ else _) = _
  rw [if_neg (by omega), if_pos ⟨hk, hq⟩]
  rfl
theorem br_comma {q : Int} {C : yC} (hw : w = l + 1) (h0 : 0 ≤ l) (hk : 15 ≤ wk l ∧ wk l ≤ 17) (ha : wt l = 0) (hq : q = 37) : ybr q (yW fr w wk wr wt wj) d C ty = some (.inl (1, yW fr w wk wr (hw_up wt l ty) wj, d, C, yty 1 ty)) := by
  have e1 : yW fr w wk wr (hw_up wt l ty) wj = (wk l, wr l, ty, yrel fr (wj l)) :: yW fr l wk wr wt wj := by
    rw [yW_l hw h0, hw_up_s]
    refine congrArg (fun z => _ :: z) (yW_cg (fun i i0 i1 => ?_))
    rw [hw_up_n (by omega)]
    exact ⟨rfl, rfl, rfl, rfl⟩
  rw [e1, yW_l hw h0]
  show (if wk l = 34 ∧ q = 35 then _ else if wk l = 39 ∧ q = 40 then _ else if (15 ≤ wk l ∧ wk l ≤ 17) ∧ wt l = 0 ∧ q = 37 then _ else _) = _
  rw [if_neg (by omega), if_neg (by omega), if_pos ⟨hk, ha, hq⟩]
  rfl
theorem br_end {q : Int} {C : yC} (hw : w = l + 1) (h0 : 0 ≤ l) (hk : 15 ≤ wk l ∧ wk l ≤ 17) (ha : ¬ wt l = 0) (hq : q = 40) : ybr q (yW fr w wk wr wt wj) d C ty = some (.inl (0, yW fr w wk (hw_up wr l 9) wt wj, d, C, yty 0 ty)) := by
  have e1 : yW fr w wk (hw_up wr l 9) wt wj = (wk l, 9, wt l, yrel fr (wj l)) :: yW fr l wk wr wt wj := by
    rw [yW_l hw h0, hw_up_s]
    refine congrArg (fun z => _ :: z) (yW_cg (fun i i0 i1 => ?_))
    rw [hw_up_n (by omega)]
    exact ⟨rfl, rfl, rfl, rfl⟩
  rw [e1, yW_l hw h0]
  show (if wk l = 34 ∧ q = 35 then _ else if wk l = 39 ∧ q = 40 then _ else if (15 ≤ wk l ∧ wk l ≤ 17) ∧ wt l = 0 ∧ q = 37 then _ else if (15 ≤ wk l ∧ wk l ≤ 17) ∧ ¬ wt l = 0 ∧ q = 40 then _ else _) = _
  rw [if_neg (by omega), if_neg (by omega), if_neg (by omega), if_pos ⟨hk, ha, hq⟩]
  rfl
theorem br_no {q : Int} {C : yC} (hw : w = l + 1) (h0 : 0 ≤ l) (h1 : ¬ (wk l = 34 ∧ q = 35)) (h2 : ¬ (wk l = 39 ∧ q = 40)) (h3 : ¬ ((15 ≤ wk l ∧ wk l ≤ 17) ∧ wt l = 0 ∧ q = 37)) (h4 : ¬ ((15 ≤ wk l ∧ wk l ≤ 17) ∧ ¬ wt l = 0 ∧ q = 40)) : ybr q (yW fr w wk wr wt wj) d C ty = none := by
  rw [yW_l hw h0]
  show (if wk l = 34 ∧ q = 35 then _ else if wk l = 39 ∧ q = 40 then _ else if (15 ≤ wk l ∧ wk l ≤ 17) ∧ wt l = 0 ∧ q = 37 then _ else if (15 ≤ wk l ∧ wk l ≤ 17) ∧ ¬ wt l = 0 ∧ q = 40 then _ else _) = _
  rw [if_neg h1, if_neg h2, if_neg h3, if_neg h4]
theorem br_j {o : Int} (hI : yII (yW fr w wk wr wt wj) d (yCo fr u op wi) n) (hl : l = w - 1) (ho : o = wk l) (h0 : 0 ≤ l) (hk : o = 34) (hu : fr ≤ u) (hf0 : 0 ≤ fr) : 0 ≤ wj l ∧ fr ≤ wj l ∧ wj l < u := by
  have hw : w = l + 1 := by omega
  have hj : 0 ≤ wj l := by
    obtain ⟨_, hI⟩ := hI
    rw [yW_l hw h0] at hI
    by_cases g : wj l < 0
    · rw [yrel_n g, ← ho, hk] at hI
      exact absurd (yI_ask hI) (by decide)
    · omega
  have b1 := yj_b hI hw h0 hj hu hf0
  exact ⟨hj, b1.1, b1.2.1⟩
theorem br_yb {o m : Int} (hI : yII (yW fr w wk wr wt wj) d (yCo fr u op wi) n) (hl : l = w - 1) (ho : o = wk l) (h0 : 0 ≤ l) (hk : o = 34) (hu : fr ≤ u) (hf0 : 0 ≤ fr) : yb_ok fr op (hw_up op u 35) wi (hw_up (hw_up wi u 0) (wj l) m) := yb_a (yb_e yb_0 hu) (br_j hI hl ho h0 hk hu hf0).2.1
theorem br_col {q b m o r : Int} (hI : yII (yW fr w wk wr wt wj) d (yCo fr u op wi) n) (hl : l = w - 1) (ho : o = wk l) (hr : r = u) (h0 : 0 ≤ l) (hu : fr ≤ u) (hf0 : 0 ≤ fr) (hk : o = 34) (hq : q = 35) (hb : (wt l = 2 → b = ty) ∧ (¬ wt l = 2 → b = 0)) (hm : m = u + 1) : ybr q (yW fr w wk wr wt wj) d (yCo fr u op wi) ty = some (.inl (1, yW fr w wk (hw_up wr l 1) (hw_up wt l b) (hw_up wj l r), d, yCo fr m (hw_up op u 35) (hw_up (hw_up wi u 0) (wj l) m), yty 1 ty)) := by
  subst hr
  exact br_colon hI (by omega) h0 hu hf0 (by omega) hq hb hm
theorem br_non {q o : Int} {C : yC} (hl : l = w - 1) (ho : o = wk l) (h0 : 0 ≤ l) (h1 : ¬ (o = 34 ∧ q = 35)) (h2 : ¬ (o = 39 ∧ q = 40)) (h3 : ¬ ((15 ≤ o ∧ o ≤ 17) ∧ wt l = 0 ∧ q = 37)) (h4 : ¬ ((15 ≤ o ∧ o ≤ 17) ∧ ¬ wt l = 0 ∧ q = 40)) : ybr q (yW fr w wk wr wt wj) d C ty = none := by
  subst ho
  exact br_no (by omega) h0 h1 h2 h3 h4
end YS
