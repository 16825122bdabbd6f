/-! the class explores: COMMANDS that are taken together -/
def ptF (Kc : List dC) (e : Nat → Bool) (a : Int) (m : Nat) : List (List Nat) := ((List.range m).filter (fun (m : Nat) => qhas Kc a (m : Int))).map (fun (m : Nat) => qof Kc e a (m : Int))
def qoF (Kc : List dC) (e : Nat → Bool) (a m : Int) (c : Nat) : List Nat := (List.range c).filter (fun k => e k && (decide ((qcm Kc k).1 = m) && decide ((qcm Kc k).2.1 = a)))
def hsF (Kc : List dC) (a m : Int) (c : Nat) : Bool := (List.range c).any (fun k => decide ((qcm Kc k).1 = m) && decide ((qcm Kc k).2.1 = a))
section PT
variable {Kc : List dC} {e : Nat → Bool} {a m : Int} {c i k : Nat}
theorem ptF_y (h : qhas Kc a (i : Int) = true) : ptF Kc e a (i + 1) = ptF Kc e a i ++ [qof Kc e a (i : Int)] := by
  unfold ptF
  rw [List.range_succ, List.filter_append, List.map_append, List.filter_cons_of_pos (p := fun (m : Nat) => qhas Kc a (m : Int)) h]
  rfl
theorem ptF_n (h : qhas Kc a (i : Int) = false) : ptF Kc e a (i + 1) = ptF Kc e a i := by
  unfold ptF
  rw [List.range_succ, List.filter_append, List.map_append, List.filter_cons_of_neg (p := fun (m : Nat) => qhas Kc a (m : Int)) (by rw [h]; exact Bool.false_ne_true)]
  exact List.append_nil _
theorem qoF_y (h1 : e c = true) (h2 : (qcm Kc c).1 = m) (h3 : (qcm Kc c).2.1 = a) : qoF Kc e a m (c + 1) = qoF Kc e a m c ++ [c] := by
  unfold qoF
  rw [List.range_succ, List.filter_append, List.filter_cons_of_pos (by rw [h1, decide_eq_true h2, decide_eq_true h3]; rfl)]
  rfl
theorem qoF_n (h : e c = false ∨ ¬ (qcm Kc c).1 = m ∨ ¬ (qcm Kc c).2.1 = a) : qoF Kc e a m (c + 1) = qoF Kc e a m c := by
  unfold qoF
  rw [List.range_succ, List.filter_append, List.filter_cons_of_neg]
  · exact List.append_nil _
  · rcases h with h | h | h
    · rw [h]; exact Bool.false_ne_true
    · rw [decide_eq_false h, Bool.false_and, Bool.and_false]; exact Bool.false_ne_true
    · rw [decide_eq_false h, Bool.and_false, Bool.and_false]; exact Bool.false_ne_true
theorem hsF_s : hsF Kc a m (c + 1) = (hsF Kc a m c || (decide ((qcm Kc c).1 = m) && decide ((qcm Kc c).2.1 = a))) := by
  unfold hsF
  rw [List.range_succ, List.any_append]
  simp only [List.any_cons, List.any_nil, Bool.or_false]
theorem hsF_o (h : hsF Kc a m c = false) : qoF Kc e a m c = [] := by
  unfold qoF
  refine List.filter_eq_nil_iff.mpr (fun k hk z => ?_)
  have q := List.any_eq_false.mp h k hk
  rw [Bool.and_eq_true] at z
  exact q z.2
theorem qof_F : qof Kc e a m = qoF Kc e a m Kc.length := rfl
theorem qhas_F : qhas Kc a m = hsF Kc a m Kc.length := rfl
theorem qpt_F : qpt Kc e i a = ptF Kc e a i := rfl
theorem ptF_m (h : i < k) (h1 : qhas Kc a (i : Int) = true) : qof Kc e a (i : Int) ∈ ptF Kc e a k := by
  unfold ptF
  exact List.mem_map.mpr ⟨i, List.mem_filter.mpr ⟨List.mem_range.mpr h, h1⟩, rfl⟩
end PT
/-- offers in arrays: of all MODULES up to here; of one more so far -/
def ofA (f g : Int → Int) (L : List (List Nat)) (p u : Int) : Prop := ∃ _ : Unit, p = L.length ∧ u = L.flatten.length ∧ (∀ q : Nat, q < L.length → f q = (L.take q).flatten.length) ∧ ∀ (i x : Nat), L.flatten[i]? = some x → g i = x
def ofB (f g : Int → Int) (L : List (List Nat)) (O : List Nat) (p u : Int) : Prop := ∃ _ : Unit, p = L.length ∧ u = (L.flatten ++ O).length ∧ (∀ q : Nat, q ≤ L.length → f q = (L.take q).flatten.length) ∧ ∀ (i x : Nat), (L.flatten ++ O)[i]? = some x → g i = x
def ofC (f g : Int → Int) (L : List (List Nat)) (p : Int) : Prop := ∃ _ : Unit, p = L.length ∧ (∀ q : Nat, q ≤ L.length → f q = (L.take q).flatten.length) ∧ ∀ (i x : Nat), L.flatten[i]? = some x → g i = x
def neA (L : List (List Nat)) : Prop := ∃ _ : Unit, ¬ [] ∈ L
section OF
variable {f g : Int → Int} {L : List (List Nat)} {O : List Nat} {p p' u u' c : Int}
theorem ofA_0 : ofA f g [] 0 0 := ⟨(), rfl, rfl, fun q h => absurd h (Nat.not_lt_zero q), fun i x h => by cases h⟩
theorem neA_0 : neA [] := ⟨(), fun h => by cases h⟩
theorem neA_s (h : neA L) (hO : ¬ O = []) : neA (L ++ [O]) := by
  refine ⟨(), fun z => ?_⟩
  rcases List.mem_append.mp z with z | z
  · exact h.elim fun _ h => h z
  · exact hO (List.mem_singleton.mp z).symm
theorem ofB_0 (h : ofA f g L p u) : ofB (hw_up f p u) g L [] p u := by
  obtain ⟨_, h1, h2, h3, h4⟩ := h
  refine ⟨(), h1, by rw [List.append_nil]; exact h2, fun q hq => ?_, by rw [List.append_nil]; exact h4⟩
  by_cases e : q = L.length
  · rw [e, ← h1, hw_up_s, h2, List.take_length]
  · rw [hw_up_n (by omega)]
    exact h3 q (by omega)
theorem ofB_s (h : ofB f g L O p u) (h0 : 0 ≤ c) (hu : u' = u + 1) : ofB f (hw_up g u c) L (O ++ [c.toNat]) p u' := by
  obtain ⟨_, h1, h2, h3, h4⟩ := h
  have e : L.flatten ++ (O ++ [c.toNat]) = (L.flatten ++ O) ++ [c.toNat] := (List.append_assoc ..).symm
  refine ⟨(), h1, by rw [e, List.length_append]; show u' = (((L.flatten ++ O).length + 1 : Nat) : Int); omega, h3, fun i x hi => ?_⟩
  rw [e] at hi
  by_cases k : i < (L.flatten ++ O).length
  · rw [List.getElem?_append_left k] at hi
    rw [hw_up_n (by omega)]
    exact h4 i x hi
  · have l := (List.getElem?_eq_some_iff.mp hi).1
    rw [List.length_append] at l
    have l : i < (L.flatten ++ O).length + 1 := l
    have e2 : i = (L.flatten ++ O).length := by omega
    rw [e2, List.getElem?_append_right (Nat.le_refl _), Nat.sub_self] at hi
    injection hi with hi
    rw [e2, ← h2, hw_up_s, ← hi]
    omega
theorem of_y (h : ofB f g L O p u) (hp : p' = p + 1) : ofA f g (L ++ [O]) p' u := by
  obtain ⟨_, h1, h2, h3, h4⟩ := h
  have e : (L ++ [O]).flatten = L.flatten ++ O := by
    rw [List.flatten_append, List.flatten_cons]
    show L.flatten ++ (O ++ []) = _
    rw [List.append_nil]
  refine ⟨(), by rw [List.length_append]; show p' = ((L.length + 1 : Nat) : Int); omega, by rw [e]; exact h2, fun q hq => ?_, by rw [e]; exact h4⟩
  rw [List.length_append] at hq
  have hq : q < L.length + 1 := hq
  rw [List.take_append_of_le_length (by omega)]
  exact h3 q (by omega)
theorem of_n (h : ofB f g L [] p u) : ofA f g L p u := by
  obtain ⟨_, h1, h2, h3, h4⟩ := h
  rw [List.append_nil] at h2 h4
  exact ⟨(), h1, h2, fun q hq => h3 q (by omega), h4⟩
theorem of_e (h : ofA f g L p u) : ofC (hw_up f p u) g L p := by
  obtain ⟨_, h1, h2, h3, h4⟩ := ofB_0 h
  rw [List.append_nil] at h4
  exact ⟨(), h1, h3, h4⟩
theorem ofB_l (h : ofB f g L O p u) : u = f p + O.length := by
  obtain ⟨_, h1, h2, h3, h4⟩ := h
  have q := h3 L.length (Nat.le_refl _)
  rw [List.take_length] at q
  rw [h1, q, h2, List.length_append]
  omega
theorem fl_get : ∀ (L : List (List Nat)) (q j : Nat), L[q]? = some O → j < O.length → L.flatten[(L.take q).flatten.length + j]? = O[j]? := by
  intro L
  induction L with
  | nil => intro q j h; cases h
  | cons O' T ih =>
    intro q j h hj
    cases q with
    | zero =>
      have h : some O' = some O := h
      injection h with h
      subst h
      rw [List.flatten_cons]
      show (O' ++ T.flatten)[0 + j]? = _
      rw [Nat.zero_add, List.getElem?_append_left hj]
    | succ q =>
      rw [List.take_succ_cons, List.flatten_cons, List.flatten_cons, List.length_append, List.getElem?_append_right (by omega), show O'.length + (T.take q).flatten.length + j - O'.length = (T.take q).flatten.length + j by omega]
      exact ih q j h hj
theorem tk_fl {q : Nat} (h : L[q]? = some O) : (L.take (q + 1)).flatten.length = (L.take q).flatten.length + O.length := by
  have l := (List.getElem?_eq_some_iff.mp h).1
  have e := (List.getElem?_eq_some_iff.mp h).2
  rw [List.take_succ_eq_append_getElem l, e, List.flatten_append, List.length_append, List.flatten_cons]
  show _ = _
  rw [List.flatten_nil, List.append_nil]
/-- the offers of a party -/
theorem ofC_p (h : ofC f g L p) {q : Int} (h0 : 0 ≤ q) (h1 : q < p) : ∃ O, L[q.toNat]? = some O ∧ f (q + 1) - f q = O.length ∧ f q = (L.take q.toNat).flatten.length ∧ ∀ (j x : Nat), O[j]? = some x → g (f q + (j : Int)) = x := by
  obtain ⟨_, a1, a2, a3⟩ := h
  have l : q.toNat < L.length := by omega
  have e := List.getElem?_eq_getElem l
  have f0 := a2 q.toNat (by omega)
  have f1 := a2 (q.toNat + 1) (by omega)
  rw [tk_fl e] at f1
  rw [show ((q.toNat : Nat) : Int) = q by omega] at f0
  rw [show ((q.toNat + 1 : Nat) : Int) = q + 1 by omega] at f1
  refine ⟨L[q.toNat], e, by omega, f0, fun j x hj => ?_⟩
  have k := (List.getElem?_eq_some_iff.mp hj).1
  have w := a3 _ x ((fl_get L q.toNat j e k).trans hj)
  rw [f0]
  exact w
end OF
/-! gathering -/
def hbA (Kc : List dC) (a m c h : Int) : Prop := ∃ _ : Unit, h = if hsF Kc a m c.toNat = true then 1 else 0
section GA
variable {V : qVs} {Kc : List dC} {M nA us st up cm vn : Int} {op wi sv sc fs fu ho ac gu lo hi bg en f g : Int → Int} {a m m' c c' p p' u u' h : Int} {r : List Int}
theorem hb_0 : hbA Kc a m 0 0 := ⟨(), rfl⟩
theorem hb_y (hH : cH V Kc M nA op wi sv sc fs fu ho ac gu lo hi bg us st up cm vn) (h0 : 0 ≤ c) (h1 : c < cm) (h2 : ho c = m) (h3 : ac c = a) (hc : c' = c + 1) : hbA Kc a m c' 1 := by
  have k := cH_ac hH h0 h1
  subst hc
  refine ⟨(), ?_⟩
  rw [show (c + 1).toNat = c.toNat + 1 by omega, hsF_s, decide_eq_true (k.2.2.1.symm.trans h2), decide_eq_true (k.2.1.symm.trans h3), Bool.and_true, Bool.or_true]
  rfl
theorem hb_n (hH : cH V Kc M nA op wi sv sc fs fu ho ac gu lo hi bg us st up cm vn) (hb : hbA Kc a m c h) (h0 : 0 ≤ c) (h1 : c < cm) (h2 : ¬ ho c = m ∨ ¬ ac c = a) (hc : c' = c + 1) : hbA Kc a m c' h := by
  have k := cH_ac hH h0 h1
  subst hc
  obtain ⟨_, hb⟩ := hb
  refine ⟨(), ?_⟩
  have e : (decide ((qcm Kc c.toNat).1 = m) && decide ((qcm Kc c.toNat).2.1 = a)) = false := by
    rcases h2 with h2 | h2
    · rw [decide_eq_false (fun z => h2 (k.2.2.1.trans z)), Bool.false_and]
    · rw [decide_eq_false (fun z => h2 (k.2.1.trans z)), Bool.and_false]
  rw [show (c + 1).toNat = c.toNat + 1 by omega, hsF_s, e, Bool.or_false]
  exact hb
theorem ga_y (hH : cH V Kc M nA op wi sv sc fs fu ho ac gu lo hi bg us st up cm vn) (hE : enA Kc r en cm) {L : List (List Nat)} (h : ofB f g L (qoF Kc (qen Kc r) a m c.toNat) p u) (h0 : 0 ≤ c) (h1 : c < cm) (h2 : ho c = m) (h3 : ac c = a) (h4 : ¬ en c = 0) (hc : c' = c + 1) (hu : u' = u + 1) : ofB f (hw_up g u c) L (qoF Kc (qen Kc r) a m c'.toNat) p u' := by
  have k := cH_ac hH h0 h1
  subst hc
  rw [show (c + 1).toNat = c.toNat + 1 by omega, qoF_y ((enA_at hE h0 h1).2 h4) (k.2.2.1.symm.trans h2) (k.2.1.symm.trans h3)]
  exact ofB_s h h0 hu
theorem ga_n (hH : cH V Kc M nA op wi sv sc fs fu ho ac gu lo hi bg us st up cm vn) (hE : enA Kc r en cm) {L : List (List Nat)} (h : ofB f g L (qoF Kc (qen Kc r) a m c.toNat) p u) (h0 : 0 ≤ c) (h1 : c < cm) (h2 : ¬ ho c = m ∨ ¬ ac c = a ∨ en c = 0) (hc : c' = c + 1) : ofB f g L (qoF Kc (qen Kc r) a m c'.toNat) p u := by
  have k := cH_ac hH h0 h1
  subst hc
  rw [show (c + 1).toNat = c.toNat + 1 by omega, qoF_n]
  · exact h
  · rcases h2 with h2 | h2 | h2
    · exact Or.inr (Or.inl (fun z => h2 (k.2.2.1.trans z)))
    · exact Or.inr (Or.inr (fun z => h2 (k.2.1.trans z)))
    · exact Or.inl ((enA_at hE h0 h1).1 h2)
theorem ga_0 (h : ofA f g (ptF Kc (qen Kc r) a m.toNat) p u) : ofB (hw_up f p u) g (ptF Kc (qen Kc r) a m.toNat) (qoF Kc (qen Kc r) a m (0 : Int).toNat) p u := ofB_0 h
/-- a MODULE is through: it has none, or can take none, or can -/
theorem ga_e (hH : cH V Kc M nA op wi sv sc fs fu ho ac gu lo hi bg us st up cm vn) (hb : hbA Kc a m c h) (h0 : 0 ≤ m) (hc : cm ≤ c) (hc2 : c ≤ cm) : (¬ h = 0 → qhas Kc a ((m.toNat : Nat) : Int) = true) ∧ (h = 0 → qhas Kc a ((m.toNat : Nat) : Int) = false) := by
  have hn := cH_n hH
  obtain ⟨_, hb⟩ := hb
  rw [show ((m.toNat : Nat) : Int) = m by omega, qhas_F]
  rw [show c.toNat = Kc.length by omega] at hb
  cases k : hsF Kc a m Kc.length with
  | false =>
    rw [k] at hb
    have hb : h = 0 := hb
    exact ⟨fun z => absurd hb z, fun _ => rfl⟩
  | true =>
    rw [k] at hb
    have hb : h = 1 := hb
    exact ⟨fun _ => rfl, fun z => by omega⟩
theorem ga_sk (hH : cH V Kc M nA op wi sv sc fs fu ho ac gu lo hi bg us st up cm vn) (hb : hbA Kc a m c h) (hB : ofB f g (ptF Kc (qen Kc r) a m.toNat) (qoF Kc (qen Kc r) a m c.toNat) p u) (h0 : 0 ≤ m) (hc : cm ≤ c) (hc2 : c ≤ cm) (hz : h = 0) (hm : m' = m + 1) : ofA f g (ptF Kc (qen Kc r) a m'.toNat) p u ∧ ptF Kc (qen Kc r) a m'.toNat = ptF Kc (qen Kc r) a m.toNat := by
  have q := (ga_e hH hb h0 hc hc2).2 hz
  have hn := cH_n hH
  subst hm
  have e2 := ptF_n (e := qen Kc r) q
  rw [show (m + 1).toNat = m.toNat + 1 by omega, e2]
  rw [show ((m.toNat : Nat) : Int) = m by omega, qhas_F] at q
  rw [show c.toNat = Kc.length by omega, hsF_o q] at hB
  exact ⟨of_n hB, rfl⟩
theorem ga_nx (hH : cH V Kc M nA op wi sv sc fs fu ho ac gu lo hi bg us st up cm vn) (hb : hbA Kc a m c h) (hB : ofB f g (ptF Kc (qen Kc r) a m.toNat) (qoF Kc (qen Kc r) a m c.toNat) p u) (hN : neA (ptF Kc (qen Kc r) a m.toNat)) (h0 : 0 ≤ m) (hc : cm ≤ c) (hc2 : c ≤ cm) (hz : ¬ h = 0) (hu : ¬ u = f p) (hm : m' = m + 1) (hp : p' = p + 1) : ofA f g (ptF Kc (qen Kc r) a m'.toNat) p' u ∧ neA (ptF Kc (qen Kc r) a m'.toNat) := by
  have q := (ga_e hH hb h0 hc hc2).1 hz
  have hn := cH_n hH
  have l := ofB_l hB
  subst hm
  have e2 := ptF_y (e := qen Kc r) q
  have e3 : qof Kc (qen Kc r) a ((m.toNat : Nat) : Int) = qoF Kc (qen Kc r) a m c.toNat := by
    rw [show ((m.toNat : Nat) : Int) = m by omega, qof_F, show c.toNat = Kc.length by omega]
  rw [show (m + 1).toNat = m.toNat + 1 by omega, e2, e3]
  exact ⟨of_y hB hp, neA_s hN (fun z => hu (by rw [z] at l; have l : u = f p + ((0 : Nat) : Int) := l; omega))⟩
theorem ga_bad {MM : Int} (hH : cH V Kc M nA op wi sv sc fs fu ho ac gu lo hi bg us st up cm vn) (hb : hbA Kc a m c h) (hB : ofB f g (ptF Kc (qen Kc r) a m.toNat) (qoF Kc (qen Kc r) a m c.toNat) p u) (h0 : 0 ≤ m) (hc : cm ≤ c) (hc2 : c ≤ cm) (hz : ¬ h = 0) (hu : u = f p) (hm : m < MM) : [] ∈ qpt Kc (qen Kc r) MM.toNat a := by
  have q := (ga_e hH hb h0 hc hc2).1 hz
  have hn := cH_n hH
  have l := ofB_l hB
  have e3 : qof Kc (qen Kc r) a ((m.toNat : Nat) : Int) = qoF Kc (qen Kc r) a m c.toNat := by
    rw [show ((m.toNat : Nat) : Int) = m by omega, qof_F, show c.toNat = Kc.length by omega]
  have z := ptF_m (e := qen Kc r) (k := MM.toNat) (by omega) q
  rw [e3, List.length_eq_zero_iff.mp (show (qoF Kc (qen Kc r) a m c.toNat).length = 0 by omega)] at z
  exact z
end GA
/-! one of each -/
def tkB (A : Int → Int) (T : List Nat) (p : Int) : Prop := ∃ _ : Unit, ∀ (q k : Nat), p < (q : Int) → T[q]? = some k → A q = k
def rsO (L : List (List Nat)) (wy : Nat) (p r : Int) : Prop := ∃ _ : Unit, r = ((wy / mxp (L.drop p.toNat) : Nat) : Int)
section TO
variable {f g tk : Int → Int} {L : List (List Nat)} {pn p p' r r' m z y v : Int} {wy : Nat}
theorem ofC_n (h : ofC f g L pn) : pn = L.length := h.elim fun _ h => h.1
theorem ne_p (h : ofC f g L pn) (hN : neA L) (h0 : 0 ≤ p) (h1 : p < pn) : 1 ≤ f (p + 1) - f p := by
  obtain ⟨O, a1, a2, a3, a4⟩ := ofC_p h h0 h1
  have z : ¬ O = [] := fun e => hN.elim fun _ hN => hN (by rw [← e]; exact List.mem_of_getElem? a1)
  have l : ¬ O.length = 0 := fun e => z (List.length_eq_zero_iff.mp e)
  omega
theorem rsO_0 (h : ofC f g L pn) (hp : p = pn) : rsO L wy p (wy : Int) := by
  have e := ofC_n h
  refine ⟨(), ?_⟩
  rw [mxp_end (by omega), Nat.div_one]
theorem rsO_b (h : rsO L wy p r) : 0 ≤ r := h.elim fun _ h => by rw [h]; exact Int.natCast_nonneg _
theorem tkB_0 (h : ofC f g L pn) (hp : pn ≤ p + 1) : tkB tk (mxs 0 L wy) p := by
  have e := ofC_n h
  refine ⟨(), fun q k h1 h2 => ?_⟩
  have l := (List.getElem?_eq_some_iff.mp h2).1
  rw [mxs_len] at l
  omega
theorem tk_s (h : ofC f g L pn) (hN : neA L) (hr : rsO L wy (p + 1) r) (hT : tkB tk (mxs 0 L wy) p) (h0 : 0 ≤ p) (h1 : p < pn) (hm : m = f (p + 1) - f p) (hz : z = r % m) (hv : v = f p + z) (hp : p' = p - 1) : tkB (hw_up tk p (g v)) (mxs 0 L wy) p' := by
  subst hp
  obtain ⟨O, a1, a2, a3, a4⟩ := ofC_p h h0 h1
  obtain ⟨_, hr⟩ := hr
  have b := ne_p h hN h0 h1
  refine ⟨(), fun q k q1 q2 => ?_⟩
  by_cases e : (q : Int) = p
  · have e2 : q = p.toNat := by omega
    rw [e, hw_up_s]
    have w := mxs_get (z := 0) (w := wy) L p.toNat a1
    rw [← e2, q2] at w
    injection w with w
    rw [show (p + 1).toNat = p.toNat + 1 by omega] at hr
    have em : m = ((O.length : Nat) : Int) := by omega
    have ez : z = ((wy / mxp (L.drop (p.toNat + 1)) % O.length : Nat) : Int) := by rw [hz, hr, em, ← nat_em]
    have lt : wy / mxp (L.drop (p.toNat + 1)) % O.length < O.length := Nat.mod_lt _ (by omega)
    have go := a4 _ _ (List.getElem?_eq_getElem lt)
    rw [hv, ez, go, w, List.getD_eq_getElem?_getD, e2, List.getElem?_eq_getElem lt]
    rfl
  · rw [hw_up_n e]
    exact hT.elim fun _ hT => hT q k (by omega) q2
theorem rsO_s (h : ofC f g L pn) (hr : rsO L wy (p + 1) r) (h0 : 0 ≤ p) (h1 : p < pn) (hm : m = f (p + 1) - f p) (hz : r' = r / m) (hp : p' = p - 1 + 1) : rsO L wy p' r' := by
  obtain ⟨O, a1, a2, a3, a4⟩ := ofC_p h h0 h1
  obtain ⟨_, hr⟩ := hr
  rw [show (p + 1).toNat = p.toNat + 1 by omega] at hr
  have em : m = ((O.length : Nat) : Int) := by omega
  refine ⟨(), ?_⟩
  rw [hz, hr, em, ← nat_dv, Nat.div_div_eq_div_mul, show p'.toNat = p.toNat by omega, mxp_drop a1, Nat.mul_comm]
theorem tkB_e (h : ofC f g L pn) (hT : tkB tk (mxs 0 L wy) p) (hp : p < 0) : tkA tk pn (mxs 0 L wy) := by
  have e := ofC_n h
  exact ⟨(), by rw [mxs_len]; exact e, fun q k hq => hT.elim fun _ hT => hT q k (by omega) hq⟩
theorem tk_d (h : ofC f g L pn) (hN : neA L) (hr : rsO L wy (p + 1) r) (hT : tkB tk (mxs 0 L wy) p) (hd : 0 ≤ r → 0 < m → z = r % m ∧ 0 ≤ z ∧ z < m) (hmx : m = 1 ∧ f (p + 1) - f p ≤ 1 ∨ m = f (p + 1) - f p ∧ 1 ≤ f (p + 1) - f p) (hb : 1 ≤ f (p + 1) - f p) (hr0 : 0 ≤ r) (h0 : 0 ≤ p) (h1 : p < pn) (hp : p' = p - 1) : tkB (hw_up tk p (g (f p + z))) (mxs 0 L wy) p' := by
  have e : m = f (p + 1) - f p := by omega
  exact tk_s h hN hr hT h0 h1 e (hd hr0 (by omega)).1 rfl hp
theorem rsO_d (h : ofC f g L pn) (hr : rsO L wy (p + 1) r) (hd : 0 ≤ r → 0 < m → r' = r / m ∧ 0 ≤ r' ∧ r' ≤ r) (hmx : m = 1 ∧ f (p + 1) - f p ≤ 1 ∨ m = f (p + 1) - f p ∧ 1 ≤ f (p + 1) - f p) (hb : 1 ≤ f (p + 1) - f p) (hr0 : 0 ≤ r) (h0 : 0 ≤ p) (h1 : p < pn) (hp : p' = p - 1 + 1) : rsO L wy p' r' := by
  have e : m = f (p + 1) - f p := by omega
  exact rsO_s h hr h0 h1 e (hd hr0 (by omega)).1 hp
end TO
theorem to_ms {Kc : List dC} {e : Nat → Bool} {a : Int} {wy : Nat} : ∀ ms : List Nat, (∀ m, m ∈ ms → ¬ qof Kc e a (m : Int) = []) → ms.Pairwise (fun x y => ¬ x = y) → (∀ k, k ∈ mxs 0 (ms.map (fun (m : Nat) => qof Kc e a (m : Int))) wy → k < Kc.length ∧ ∃ m, m ∈ ms ∧ (qcm Kc k).1 = (m : Int)) ∧ (mxs 0 (ms.map (fun (m : Nat) => qof Kc e a (m : Int))) wy).Pairwise (fun x y => ¬ (qcm Kc x).1 = (qcm Kc y).1) := by
  intro ms
  induction ms with
  | nil => intro _ _; exact ⟨fun k hk => (by cases hk), List.Pairwise.nil⟩
  | cons m t ih =>
    intro h hp
    have hp := List.pairwise_cons.mp hp
    obtain ⟨i1, i2⟩ := ih (fun m' h' => h m' (List.mem_cons_of_mem _ h')) hp.2
    have hO := h m List.mem_cons_self
    have lO : 0 < (qof Kc e a (m : Int)).length := Nat.pos_of_ne_zero (fun z => hO (List.length_eq_zero_iff.mp z))
    have lt : wy / mxp (t.map (fun (m : Nat) => qof Kc e a (m : Int))) % (qof Kc e a (m : Int)).length < (qof Kc e a (m : Int)).length := Nat.mod_lt _ lO
    have e0 : mxs 0 ((m :: t).map (fun (m : Nat) => qof Kc e a (m : Int))) wy = (qof Kc e a (m : Int)).getD (wy / mxp (t.map (fun (m : Nat) => qof Kc e a (m : Int))) % (qof Kc e a (m : Int)).length) 0 :: mxs 0 (t.map (fun (m : Nat) => qof Kc e a (m : Int))) wy := rfl
    have mem : (qof Kc e a (m : Int)).getD (wy / mxp (t.map (fun (m : Nat) => qof Kc e a (m : Int))) % (qof Kc e a (m : Int)).length) 0 ∈ qof Kc e a (m : Int) := by
      rw [List.getD_eq_getElem?_getD, List.getElem?_eq_getElem lt]
      exact List.getElem_mem lt
    have hk : ∀ k, k ∈ qof Kc e a (m : Int) → k < Kc.length ∧ (qcm Kc k).1 = (m : Int) := by
      intro k hk
      have q := List.mem_filter.mp hk
      have q2 := q.2
      rw [Bool.and_eq_true, Bool.and_eq_true] at q2
      exact ⟨List.mem_range.mp q.1, of_decide_eq_true q2.2.1⟩
    rw [e0]
    refine ⟨fun k hk' => ?_, List.pairwise_cons.mpr ⟨fun k hk' z => ?_, i2⟩⟩
    · rcases List.mem_cons.mp hk' with z | z
      · rw [z]
        exact ⟨(hk _ mem).1, m, List.mem_cons_self, (hk _ mem).2⟩
      · obtain ⟨j1, m', j2, j3⟩ := i1 k z
        exact ⟨j1, m', List.mem_cons_of_mem _ j2, j3⟩
    · obtain ⟨j1, m', j2, j3⟩ := i1 k hk'
      rw [(hk _ mem).2, j3] at z
      exact hp.1 m' j2 (by omega)
theorem to_j {Kc : List dC} {e : Nat → Bool} {a : Int} {wy M : Nat} (hN : ¬ [] ∈ qpt Kc e M a) (hM : M ≤ 3) : tOw Kc (mxs 0 (qpt Kc e M a) wy) := by
  have hp : ((List.range M).filter (fun (m : Nat) => qhas Kc a (m : Int))).Pairwise (fun x y => ¬ x = y) := by
    refine List.Pairwise.filter _ ?_
    exact List.Pairwise.imp (fun h => Nat.ne_of_lt h) List.pairwise_lt_range
  have h := to_ms (Kc := Kc) (e := e) (a := a) (wy := wy) ((List.range M).filter (fun (m : Nat) => qhas Kc a (m : Int))) (fun m hm z => hN (List.mem_map.mpr ⟨m, hm, z⟩)) hp
  refine ⟨(), fun k hk => (h.1 k hk).1, h.2, ?_⟩
  rw [mxs_len]
  unfold qpt
  rw [List.length_map]
  have q := List.length_filter_le (fun m : Nat => qhas Kc a (m : Int)) (List.range M)
  rw [List.length_range] at q
  omega
/-! all actions -/
def jtF (Kc : List dC) (e : Nat → Bool) (M n a : Nat) : List (List Nat) := ((List.range' a (n - a)).map (fun (a : Nat) => qtg Kc e M (a : Int))).flatten
theorem jt_0 {Kc : List dC} {e : Nat → Bool} {M n : Nat} : qjt Kc e M n = jtF Kc e M n (0 : Int).toNat := by
  unfold qjt jtF
  rw [List.range_eq_range']
  rfl
theorem jt_s {Kc : List dC} {e : Nat → Bool} {M n a : Nat} (h : a < n) : jtF Kc e M n a = qtg Kc e M (a : Int) ++ jtF Kc e M n (a + 1) := by
  unfold jtF
  rw [rg_s h, List.map_cons, List.flatten_cons]
/-- the ways that are left of an action -/
def jwF (Kc : List dC) (e : Nat → Bool) (M : Nat) (a : Int) (y : Nat) : List (List Nat) := if [] ∈ qpt Kc e M a then [] else (List.range' y (mxp (qpt Kc e M a) - y)).map (mxs 0 (qpt Kc e M a))
/-- gathered: none; or offers, and how many ways up to a party -/
def jgA (Kc : List dC) (e : Nat → Bool) (M : Nat) (a : Int) (f g : Int → Int) (p x q : Int) : Prop := ∃ _ : Unit, (x = 0 ∧ [] ∈ qpt Kc e M a) ∨ (ofC f g (qpt Kc e M a) p ∧ ¬ [] ∈ qpt Kc e M a ∧ (∃ xn : Nat, x = xn ∧ xn * mxp ((qpt Kc e M a).drop q.toNat) = mxp (qpt Kc e M a)) ∧ 1 ≤ x ∧ (q ≤ 0 → x ≤ 1) ∧ (q ≤ 1 → x ≤ 40) ∧ (q ≤ 2 → x ≤ 1600) ∧ x ≤ 64000)
section JG
variable {V : qVs} {Kc : List dC} {e : Nat → Bool} {M n : Nat} {a a' p x q q' y y' z k ec : Int} {f g : Int → Int} {r : List Int} {Xc Xn : qX} {Q : Int ⊕ qX}
theorem jg_0 (h : [] ∈ qpt Kc e M a) : jgA Kc e M a f g p 0 0 := ⟨(), Or.inl ⟨rfl, h⟩⟩
theorem jg_1 (h : ofC f g (qpt Kc e M a) p) (hN : neA (qpt Kc e M a)) : jgA Kc e M a f g p 1 0 := ⟨(), Or.inr ⟨h, hN.elim fun _ h => h, ⟨1, rfl, Nat.one_mul _⟩, by omega, by omega, by omega, by omega, by omega⟩⟩
theorem jg_b (h : jgA Kc e M a f g p x q) : 0 ≤ x ∧ x ≤ 64000 := by
  obtain ⟨_, h | h⟩ := h <;> omega
theorem jg_s (h : jgA Kc e M a f g p x q) (hy : y = f (q + 1) - f q) (hf : 0 ≤ f q) (hf2 : f (q + 1) ≤ 40) (hz : z = x * y + 4294967296 * k) (hr : -2147483648 ≤ z ∧ z ≤ 2147483647) (h0 : 0 ≤ q) (h1 : q < p) (h3 : p ≤ 3) (hq : q' = q + 1) : jgA Kc e M a f g p z q' := by
  subst hq
  obtain ⟨_, ⟨h, hN⟩ | ⟨h, hN, ⟨xn, e1, e2⟩, b1, b2, b3, b4, b5⟩⟩ := h
  · subst h
    rw [Int.zero_mul] at hz
    have e3 : z = 0 := by omega
    subst e3
    exact ⟨(), Or.inl ⟨rfl, hN⟩⟩
  · obtain ⟨O, a1, a2, a3, a4⟩ := ofC_p h h0 h1
    have ne := ne_p h ⟨(), hN⟩ h0 h1
    have q1 : 1 * 1 ≤ x * y := Int.mul_le_mul b1 (by omega) (by omega) (by omega)
    have q2 : x * y ≤ x * 40 := Int.mul_le_mul_of_nonneg_left (by omega) (by omega)
    have e3 : z = x * y := by omega
    subst e3
    refine ⟨(), Or.inr ⟨h, hN, ⟨xn * O.length, ?_, ?_⟩, by omega, by omega, by omega, by omega, by omega⟩⟩
    · rw [e1, show y = ((O.length : Nat) : Int) by omega]
      exact (Int.natCast_mul _ _).symm
    · rw [show (q + 1).toNat = q.toNat + 1 by omega, Nat.mul_assoc, ← mxp_drop a1]
      exact e2
theorem jg_e (h : jgA Kc e M a f g p x q) (h1 : p ≤ q) : (x = 0 ∧ [] ∈ qpt Kc e M a) ∨ (¬ [] ∈ qpt Kc e M a ∧ x = ((mxp (qpt Kc e M a) : Nat) : Int)) := by
  obtain ⟨_, h | ⟨h, hN, ⟨xn, e1, e2⟩, _⟩⟩ := h
  · exact Or.inl h
  · have l := ofC_n h
    rw [mxp_end (by omega), Nat.mul_one] at e2
    exact Or.inr ⟨hN, by rw [e1, e2]⟩
/-- how many ways -/
def jxA (Kc : List dC) (e : Nat → Bool) (M : Nat) (a x : Int) : Prop := ∃ _ : Unit, (x = 0 ∧ [] ∈ qpt Kc e M a) ∨ (¬ [] ∈ qpt Kc e M a ∧ x = ((mxp (qpt Kc e M a) : Nat) : Int))
theorem jx_i (h : jgA Kc e M a f g p x q) (h1 : p ≤ q) : jxA Kc e M a x := ⟨(), jg_e h h1⟩
def jcA (Kc : List dC) (e : Nat → Bool) (M : Nat) (a : Int) (f g : Int → Int) (p x : Int) : Prop := ∃ _ : Unit, x = 0 ∨ (ofC f g (qpt Kc e M a) p ∧ ¬ [] ∈ qpt Kc e M a)
theorem jc_i (h : jgA Kc e M a f g p x q) : jcA Kc e M a f g p x := by
  obtain ⟨_, h | h⟩ := h
  · exact ⟨(), Or.inl h.1⟩
  · exact ⟨(), Or.inr ⟨h.1, h.2.1⟩⟩
theorem jg_c (h : jcA Kc e M a f g p x) (hx : 1 ≤ x) : ofC f g (qpt Kc e M a) p ∧ ¬ [] ∈ qpt Kc e M a := by
  obtain ⟨_, h | h⟩ := h
  · omega
  · exact h
theorem jc_ne (h : jcA Kc e M a f g p x) (hx : 1 ≤ x) : neA (qpt Kc e M a) := ⟨(), (jg_c h hx).2⟩
theorem jl_0 (h : Q = qL V Kc r (jtF Kc e M n a.toNat) Xc) (h0 : 0 ≤ a) (h1 : a < n) : Q = qL V Kc r (jwF Kc e M a (0 : Int).toNat ++ jtF Kc e M n (a + 1).toNat) Xc := by
  rw [h, jt_s (by omega), show ((a.toNat : Nat) : Int) = a by omega, show (a + 1).toNat = a.toNat + 1 by omega]
  have e0 : qtg Kc e M a = jwF Kc e M a (0 : Int).toNat := by
    unfold qtg jwF
    rw [List.range_eq_range']
    rfl
  rw [e0]
theorem jl_w (hx : jxA Kc e M a x) (h0 : 0 ≤ y) (h1 : y < x) : jwF Kc e M a y.toNat = mxs 0 (qpt Kc e M a) y.toNat :: jwF Kc e M a (y + 1).toNat := by
  obtain ⟨_, ⟨z, _⟩ | ⟨hN, z⟩⟩ := hx
  · omega
  · unfold jwF
    rw [if_neg hN, if_neg hN, rg_s (by omega), show (y + 1).toNat = y.toNat + 1 by omega]
    rfl
theorem jl_s {l : List (List Nat)} (hx : jxA Kc e M a x) (h : Q = qL V Kc r (jwF Kc e M a y.toNat ++ l) Xc) (hC : qC V Kc r (mxs 0 (qpt Kc e M a) y.toNat) Xc = .inr Xn) (h0 : 0 ≤ y) (h1 : y < x) (hy : y' = y + 1) : Q = qL V Kc r (jwF Kc e M a y'.toNat ++ l) Xn := by
  subst hy
  rw [h, jl_w hx h0 h1, List.cons_append, qL_s hC]
theorem jl_n {l : List (List Nat)} (hx : jxA Kc e M a x) (h : Q = qL V Kc r (jwF Kc e M a y.toNat ++ l) Xc) (hC : qC V Kc r (mxs 0 (qpt Kc e M a) y.toNat) Xc = .inl ec) (h0 : 0 ≤ y) (h1 : y < x) : Q = .inl ec := by
  rw [h, jl_w hx h0 h1, List.cons_append, qL_n hC]
theorem jl_e (hx : jxA Kc e M a x) (h : Q = qL V Kc r (jwF Kc e M a y.toNat ++ jtF Kc e M n (a + 1).toNat) Xc) (h0 : 0 ≤ y) (h1 : x ≤ y) (ha : a' = a + 1) : Q = qL V Kc r (jtF Kc e M n a'.toNat) Xc := by
  subst ha
  have e0 : jwF Kc e M a y.toNat = [] := by
    obtain ⟨_, ⟨z, hN⟩ | ⟨hN, z⟩⟩ := hx
    · unfold jwF
      rw [if_pos hN]
    · unfold jwF
      rw [if_neg hN, rg_e (by omega)]
      rfl
  rw [h, e0]
  rfl
theorem jl_f (h : Q = qL V Kc r (jtF Kc e M n a.toNat) Xc) (h1 : n ≤ a) : Q = .inr Xc := by
  rw [h]
  unfold jtF
  rw [rg_e (by omega)]
  rfl
end JG
