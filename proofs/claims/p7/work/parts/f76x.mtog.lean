/-! the model explores: COMMANDS that are taken together -/
def flF (p : Nat → Bool) (n : Nat) : List Nat := (List.range n).filter p
section FL
variable {p : Nat → Bool} {n d b r : Nat}
theorem flF_y (h : p n = true) : flF p (n + 1) = flF p n ++ [n] := by
  unfold flF
  rw [List.range_succ, List.filter_append, List.filter_cons_of_pos h]
  rfl
theorem flF_n (h : p n = false) : flF p (n + 1) = flF p n := by
  unfold flF
  rw [List.range_succ, List.filter_append, List.filter_cons_of_neg (by rw [h]; exact Bool.false_ne_true)]
  exact List.append_nil _
theorem flF_at : ∀ (n b : Nat), b < n → p b = true → (flF p n)[(flF p b).length]? = some b := by
  intro n
  induction n with
  | zero => intro b h; exact absurd h (Nat.not_lt_zero b)
  | succ n ih =>
    intro b h hb
    by_cases e : b = n
    · rw [e] at hb ⊢
      rw [flF_y hb, List.getElem?_append_right (Nat.le_refl _), Nat.sub_self]
      rfl
    · have q := ih b (by omega) hb
      have l := (List.getElem?_eq_some_iff.mp q).1
      cases hn : p n with
      | false => rw [flF_n hn]; exact q
      | true => rw [flF_y hn, List.getElem?_append_left l]; exact q
theorem flF_ix : ∀ (n d b : Nat), (flF p n)[d]? = some b → d = (flF p b).length ∧ b < n ∧ p b = true := by
  intro n
  induction n with
  | zero =>
    intro d b h
    have h : ([] : List Nat)[d]? = some b := h
    rw [List.getElem?_nil] at h
    cases h
  | succ n ih =>
    intro d b h
    cases hn : p n with
    | false =>
      rw [flF_n hn] at h
      have q := ih d b h
      exact ⟨q.1, by omega, q.2.2⟩
    | true =>
      rw [flF_y hn] at h
      by_cases l : d < (flF p n).length
      · rw [List.getElem?_append_left l] at h
        have q := ih d b h
        exact ⟨q.1, by omega, q.2.2⟩
      · have l2 := (List.getElem?_eq_some_iff.mp h).1
        rw [List.length_append] at l2
        have l2 : d < (flF p n).length + 1 := l2
        have e : d = (flF p n).length := by omega
        rw [e, List.getElem?_append_right (Nat.le_refl _), Nat.sub_self] at h
        have h : some n = some b := h
        injection h with h
        rw [← h]
        exact ⟨e, by omega, hn⟩
theorem flF_no : ∀ (r b : Nat), b ≤ r → (∀ k, b ≤ k → k < r → p k = false) → flF p r = flF p b := by
  intro r
  induction r with
  | zero => intro b h _; rw [show b = 0 by omega]
  | succ r ih =>
    intro b h hk
    by_cases e : b = r + 1
    · rw [e]
    · rw [flF_n (hk r (by omega) (by omega)), ih b (by omega) (fun k h1 h2 => hk k h1 (by omega))]
theorem flF_nx (h : (flF p n)[d]? = some b) (h1 : b < r) (h2 : r < n) (h3 : p r = true) (h4 : ∀ k, b < k → k < r → p k = false) : (flF p n)[d + 1]? = some r := by
  have q := flF_ix n d b h
  have q1 := q.1
  have e : (flF p r).length = d + 1 := by
    rw [flF_no r (b + 1) (by omega) (fun k a c => h4 k (by omega) c), flF_y q.2.2, List.length_append]
    show (flF p b).length + 1 = d + 1
    omega
  rw [← e]
  exact flF_at n r h2 h3
theorem flF_la (h : (flF p n)[d]? = some b) (h4 : ∀ k, b < k → k < n → p k = false) : (flF p n).length = d + 1 := by
  have q := flF_ix n d b h
  have q1 := q.1
  rw [flF_no n (b + 1) (by omega) (fun k a c => h4 k (by omega) c), flF_y q.2.2, List.length_append]
  show (flF p b).length + 1 = d + 1
  omega
theorem flF_fi (h2 : r < n) (h3 : p r = true) (h4 : ∀ k, k < r → p k = false) : (flF p n)[0]? = some r := by
  have e : (flF p r).length = 0 := by
    rw [flF_no r 0 (Nat.zero_le _) (fun k _ c => h4 k c)]
    rfl
  have q := flF_at n r h2 h3
  rw [e] at q
  exact q
end FL
/-- a COMMAND's MODULE and action in arrays -/
def mcA (Kc : List dC) (cm ca : Int → Int) (cn : Int) : Prop := ∃ _ : Unit, cn = Kc.length ∧ ∀ k : Nat, k < Kc.length → cm k = (qcm Kc k).1 ∧ ca k = (qcm Kc k).2.1
theorem mH_c {D : dT} {cd gu up st cm ca lo hi fi : Int → Int} {cn vn md an tg : Int} (h : mH D cd gu up st cm ca lo hi fi cn vn md an tg) : mcA D.2.1.2.1 cm ca cn := by
  have n := mH_n h
  refine ⟨(), n.1, fun k hk => ?_⟩
  obtain ⟨cs, -, q, -⟩ := mH_k h hk
  exact ⟨q.1, q.2.1⟩
def ofP (Kc : List dC) (e : Nat → Bool) (a m : Int) (k : Nat) : Bool := e k && (decide ((qcm Kc k).1 = m) && decide ((qcm Kc k).2.1 = a))
def msF (Kc : List dC) (a : Int) (m : Nat) : List Nat := flF (fun (m : Nat) => qhas Kc a (m : Int)) m
/-- MODULES that have the action, in an array; none is without an offer -/
def spA (Kc : List dC) (en : Nat → Bool) (a : Int) (sp : Int → Int) (n m : Int) : Prop := ∃ _ : Unit, n = (msF Kc a m.toNat).length ∧ (∀ (i x : Nat), (msF Kc a m.toNat)[i]? = some x → sp i = x) ∧ neA (ptF Kc en a m.toNat)
def cbA (Kc : List dC) (en : Nat → Bool) (a m c b : Int) : Prop := ∃ _ : Unit, (b = 0 ∧ qoF Kc en a m c.toNat = []) ∨ (¬ b = 0 ∧ ¬ qoF Kc en a m c.toNat = [])
section AH
variable {Kc : List dC} {en : Nat → Bool} {cm ca ho sp : Int → Int} {cn a m m' q b r i n n' j c c' h z : Int} {rr : List Int} {d : Nat}
theorem mc_n (hm : mcA Kc cm ca cn) : cn = Kc.length := hm.elim fun _ h => h.1
theorem mc_at (hm : mcA Kc cm ca cn) (h0 : 0 ≤ i) (h1 : i < cn) : cm i = (qcm Kc i.toNat).1 ∧ ca i = (qcm Kc i.toNat).2.1 := by
  obtain ⟨_, n, q⟩ := hm
  have q := q i.toNat (by omega)
  rw [show ((i.toNat : Nat) : Int) = i by omega] at q
  exact q
theorem qof_f : qof Kc en a m = flF (ofP Kc en a m) Kc.length := rfl
theorem ofP_y (hm : mcA Kc cm ca cn) (hE : enA Kc rr ho cn) (h0 : 0 ≤ i) (h1 : i < cn) (h2 : cm i = m) (h3 : ca i = a) (h4 : ¬ ho i = 0) : ofP Kc (qen Kc rr) a m i.toNat = true := by
  have q := mc_at hm h0 h1
  unfold ofP
  rw [(enA_at hE h0 h1).2 h4, decide_eq_true (q.1.symm.trans h2), decide_eq_true (q.2.symm.trans h3)]
  rfl
theorem ofP_n (hm : mcA Kc cm ca cn) (hE : enA Kc rr ho cn) (h0 : 0 ≤ i) (h1 : i < cn) (h2 : ¬ (cm i = m ∧ ca i = a ∧ ¬ ho i = 0)) : ofP Kc (qen Kc rr) a m i.toNat = false := by
  have q := mc_at hm h0 h1
  cases e : ofP Kc (qen Kc rr) a m i.toNat with
  | false => rfl
  | true =>
    exfalso
    unfold ofP at e
    rw [Bool.and_eq_true, Bool.and_eq_true] at e
    refine h2 ⟨q.1.trans (of_decide_eq_true e.2.1), q.2.trans (of_decide_eq_true e.2.2), fun z => ?_⟩
    have w := (enA_at hE h0 h1).1 z
    rw [e.1] at w
    cases w
theorem ah_no (hm : mcA Kc cm ca cn) (hE : enA Kc rr ho cn) (hA : ah_ok cm ca ho a q b r) (hr : r ≤ cn) {k : Nat} (k1 : b < (k : Int)) (k2 : (k : Int) < r) : ofP Kc (qen Kc rr) a q k = false := by
  have z := ofP_n hm hE (i := (k : Int)) (a := a) (m := q) (by omega) (by omega) (hA.elim fun _ hA => hA k k1 k2)
  rw [Int.toNat_natCast] at z
  exact z
theorem ah_nx (hm : mcA Kc cm ca cn) (hE : enA Kc rr ho cn) (h : (qof Kc (qen Kc rr) a q)[d]? = some b.toNat) (h0 : 0 ≤ b) (h1 : b < r) (h2 : r < cn) (h3 : cm r = q) (h4 : ca r = a) (h5 : ¬ ho r = 0) (hA : ah_ok cm ca ho a q b r) : (qof Kc (qen Kc rr) a q)[d + 1]? = some r.toNat := by
  have hn := mc_n hm
  rw [qof_f] at h ⊢
  exact flF_nx h (by omega) (by omega) (ofP_y hm hE (by omega) h2 h3 h4 h5) (fun k k1 k2 => ah_no hm hE hA (by omega) (by omega) (by omega))
theorem ah_la (hm : mcA Kc cm ca cn) (hE : enA Kc rr ho cn) (h : (qof Kc (qen Kc rr) a q)[d]? = some b.toNat) (h0 : 0 ≤ b) (hA : ah_ok cm ca ho a q b cn) : (qof Kc (qen Kc rr) a q).length = d + 1 := by
  have hn := mc_n hm
  rw [qof_f] at h ⊢
  exact flF_la h (fun k k1 k2 => ah_no hm hE hA (by omega) (by omega) (by omega))
theorem ah_fi (hm : mcA Kc cm ca cn) (hE : enA Kc rr ho cn) (hb : b = -1) (h1 : b < r) (h2 : r < cn) (h3 : cm r = q) (h4 : ca r = a) (h5 : ¬ ho r = 0) (hA : ah_ok cm ca ho a q b r) : (qof Kc (qen Kc rr) a q)[0]? = some r.toNat := by
  have hn := mc_n hm
  rw [qof_f]
  exact flF_fi (by omega) (ofP_y hm hE (by omega) h2 h3 h4 h5) (fun k k2 => ah_no hm hE hA (by omega) (by omega) (by omega))
/-! which MODULES -/
theorem mhb_0 : hbA Kc a m 0 0 := hb_0
theorem mhb_y (hm : mcA Kc cm ca cn) (h0 : 0 ≤ c) (h1 : c < cn) (h2 : cm c = m) (h3 : ca c = a) (hc : c' = c + 1) : hbA Kc a m c' 1 := by
  have k := mc_at hm h0 h1
  subst hc
  refine ⟨(), ?_⟩
  rw [show (c + 1).toNat = c.toNat + 1 by omega, hsF_s, decide_eq_true (k.1.symm.trans h2), decide_eq_true (k.2.symm.trans h3), Bool.and_true, Bool.or_true]
  rfl
theorem mhb_n (hm : mcA Kc cm ca cn) (hb : hbA Kc a m c h) (h0 : 0 ≤ c) (h1 : c < cn) (h2 : ¬ cm c = m ∨ ¬ ca c = a) (hc : c' = c + 1) : hbA Kc a m c' h := by
  have k := mc_at hm h0 h1
  subst hc
  obtain ⟨_, hb⟩ := hb
  refine ⟨(), ?_⟩
  have e : (decide ((qcm Kc c.toNat).1 = m) && decide ((qcm Kc c.toNat).2.1 = a)) = false := by
    rcases h2 with h2 | h2
    · rw [decide_eq_false (fun z => h2 (k.1.trans z)), Bool.false_and]
    · rw [decide_eq_false (fun z => h2 (k.2.trans z)), Bool.and_false]
  rw [show (c + 1).toNat = c.toNat + 1 by omega, hsF_s, e, Bool.or_false]
  exact hb
theorem cb_0 : cbA Kc en a m 0 0 := ⟨(), Or.inl ⟨rfl, rfl⟩⟩
theorem cb_y (hm : mcA Kc cm ca cn) (hE : enA Kc rr ho cn) (hb : cbA Kc (qen Kc rr) a m c b) (h0 : 0 ≤ c) (h1 : c < cn) (h2 : cm c = m) (h3 : ca c = a) (hz : z = hb_or b (ho c)) (hb1 : 0 ≤ b ∧ b ≤ 1) (hk : 0 ≤ ho c ∧ ho c ≤ 1) (hc : c' = c + 1) : cbA Kc (qen Kc rr) a m c' z := by
  have k := mc_at hm h0 h1
  subst hc
  have cc : ho c = 0 ∨ ho c = 1 := by omega
  rcases cc with cc | cc
  · rw [cc, hb_or_0 hb1.1 hb1.2] at hz
    subst hz
    unfold cbA
    rw [show (c + 1).toNat = c.toNat + 1 by omega, qoF_n (Or.inl ((enA_at hE h0 h1).1 cc))]
    exact hb
  · rw [cc, hb_or_1 hb1.1 hb1.2] at hz
    subst hz
    refine ⟨(), Or.inr ⟨by decide, ?_⟩⟩
    rw [show (c + 1).toNat = c.toNat + 1 by omega, qoF_y ((enA_at hE h0 h1).2 (by omega)) (k.1.symm.trans h2) (k.2.symm.trans h3)]
    exact fun z => by
      have l := congrArg List.length z
      rw [List.length_append] at l
      exact absurd l (Nat.succ_ne_zero _)
theorem cb_n (hm : mcA Kc cm ca cn) (hb : cbA Kc en a m c b) (h0 : 0 ≤ c) (h1 : c < cn) (h2 : ¬ cm c = m ∨ ¬ ca c = a) (hc : c' = c + 1) : cbA Kc en a m c' b := by
  have k := mc_at hm h0 h1
  subst hc
  unfold cbA
  rw [show (c + 1).toNat = c.toNat + 1 by omega, qoF_n]
  · exact hb
  · rcases h2 with h2 | h2
    · exact Or.inr (Or.inl (fun z => h2 (k.1.trans z)))
    · exact Or.inr (Or.inr (fun z => h2 (k.2.trans z)))
theorem mga_e (hm : mcA Kc cm ca cn) (hb : hbA Kc a m c h) (h0 : 0 ≤ m) (hc : cn ≤ c) (hc2 : c ≤ cn) : (¬ h = 0 → qhas Kc a ((m.toNat : Nat) : Int) = true) ∧ (h = 0 → qhas Kc a ((m.toNat : Nat) : Int) = false) := by
  have hn := mc_n hm
  obtain ⟨_, hb⟩ := hb
  rw [show ((m.toNat : Nat) : Int) = m by omega, qhas_F]
  rw [show c.toNat = Kc.length by omega] at hb
  cases k : hsF Kc a m Kc.length with
  | false =>
    rw [k] at hb
    have hb : h = 0 := hb
    exact ⟨fun z => absurd hb z, fun _ => rfl⟩
  | true =>
    rw [k] at hb
    have hb : h = 1 := hb
    exact ⟨fun _ => rfl, fun z => by omega⟩
theorem mga_o (hm : mcA Kc cm ca cn) (h0 : 0 ≤ m) (hc : cn ≤ c) (hc2 : c ≤ cn) : qof Kc en a ((m.toNat : Nat) : Int) = qoF Kc en a m c.toNat := by
  have hn := mc_n hm
  rw [show ((m.toNat : Nat) : Int) = m by omega, qof_F, show c.toNat = Kc.length by omega]
theorem spA_0 : spA Kc en a sp 0 0 := by
  refine ⟨(), rfl, fun i x h => ?_, neA_0⟩
  have h : ([] : List Nat)[i]? = some x := h
  rw [List.getElem?_nil] at h
  cases h
theorem spA_n (hm : mcA Kc cm ca cn) (hs : spA Kc en a sp n m) (hb : hbA Kc a m c h) (hh : h = 0) (h0 : 0 ≤ m) (hc : cn ≤ c) (hc2 : c ≤ cn) (hm2 : m' = m + 1) : spA Kc en a sp n m' := by
  have hq := (mga_e hm hb h0 hc hc2).2 hh
  subst hm2
  obtain ⟨_, h1, h2, h3⟩ := hs
  have e1 : msF Kc a (m + 1).toNat = msF Kc a m.toNat := by
    rw [show (m + 1).toNat = m.toNat + 1 by omega]
    exact flF_n hq
  have e2 : ptF Kc en a (m + 1).toNat = ptF Kc en a m.toNat := by
    rw [show (m + 1).toNat = m.toNat + 1 by omega]
    exact ptF_n hq
  exact ⟨(), by rw [e1]; exact h1, by rw [e1]; exact h2, by rw [e2]; exact h3⟩
theorem spA_y (hm : mcA Kc cm ca cn) (hs : spA Kc en a sp n m) (hb : hbA Kc a m c h) (hd : cbA Kc en a m c b) (hh : ¬ h = 0) (hb0 : ¬ b = 0) (h0 : 0 ≤ m) (hc : cn ≤ c) (hc2 : c ≤ cn) (hm2 : m' = m + 1) (hn : n' = n + 1) : spA Kc en a (hw_up sp n m) n' m' := by
  have hq := (mga_e hm hb h0 hc hc2).1 hh
  have hO : ¬ qof Kc en a ((m.toNat : Nat) : Int) = [] := by
    rw [mga_o hm h0 hc hc2]
    obtain ⟨_, hd | hd⟩ := hd
    · exact absurd hd.1 hb0
    · exact hd.2
  subst hm2 hn
  obtain ⟨_, h1, h2, h3⟩ := hs
  have e1 : msF Kc a (m + 1).toNat = msF Kc a m.toNat ++ [m.toNat] := by
    rw [show (m + 1).toNat = m.toNat + 1 by omega]
    exact flF_y hq
  have e2 : ptF Kc en a (m + 1).toNat = ptF Kc en a m.toNat ++ [qof Kc en a ((m.toNat : Nat) : Int)] := by
    rw [show (m + 1).toNat = m.toNat + 1 by omega]
    exact ptF_y hq
  refine ⟨(), by rw [e1, List.length_append]; show n + 1 = (((msF Kc a m.toNat).length + 1 : Nat) : Int); omega, fun i x hi => ?_, by rw [e2]; exact neA_s h3 hO⟩
  rw [e1] at hi
  by_cases l : i < (msF Kc a m.toNat).length
  · rw [List.getElem?_append_left l] at hi
    rw [hw_up_n (by omega)]
    exact h2 i x hi
  · have l2 := (List.getElem?_eq_some_iff.mp hi).1
    rw [List.length_append] at l2
    have l2 : i < (msF Kc a m.toNat).length + 1 := l2
    have e3 : i = (msF Kc a m.toNat).length := by omega
    rw [e3, List.getElem?_append_right (Nat.le_refl _), Nat.sub_self] at hi
    have hi : some m.toNat = some x := hi
    injection hi with hi
    rw [e3, ← h1, hw_up_s, ← hi]
    omega
/-- a MODULE has the action and can take none -/
theorem spA_b {M : Int} (hm : mcA Kc cm ca cn) (hb : hbA Kc a m c h) (hd : cbA Kc en a m c b) (hh : ¬ h = 0) (hb0 : b = 0) (h0 : 0 ≤ m) (hM : m < M) (hc : cn ≤ c) (hc2 : c ≤ cn) : [] ∈ qpt Kc en M.toNat a := by
  have hq := (mga_e hm hb h0 hc hc2).1 hh
  have z := ptF_m (e := en) (k := M.toNat) (by omega) hq
  rw [mga_o hm h0 hc hc2] at z
  obtain ⟨_, hd | hd⟩ := hd
  · rw [hd.2] at z
    exact z
  · exact absurd hb0 hd.1
theorem sp_x (hs : spA Kc en a sp n m) (hm : m' = m) : spA Kc en a sp n m' := hm ▸ hs
theorem sp_N (hs : spA Kc en a sp n m) : neA (qpt Kc en m.toNat a) := hs.elim fun _ h => h.2.2
theorem sp_l (hs : spA Kc en a sp n m) : n = (qpt Kc en m.toNat a).length := by
  obtain ⟨_, h, _⟩ := hs
  show n = ((List.map (fun m : Nat => qof Kc en a (m : Int)) (msF Kc a m.toNat)).length : Int)
  rw [List.length_map]
  exact h
theorem sp_O (hs : spA Kc en a sp n m) (h0 : 0 ≤ j) (h1 : j < n) : (qpt Kc en m.toNat a)[j.toNat]? = some (qof Kc en a (sp j)) := by
  obtain ⟨_, a1, a2, a3⟩ := hs
  have l : j.toNat < (msF Kc a m.toNat).length := by omega
  have g := List.getElem?_eq_getElem l
  have s := a2 j.toNat _ g
  rw [show ((j.toNat : Nat) : Int) = j by omega] at s
  show (List.map (fun m : Nat => qof Kc en a (m : Int)) (msF Kc a m.toNat))[j.toNat]? = _
  rw [List.getElem?_map, g, s]
  first
    | done
    | rfl
end AH
/-! the next way -/
theorem odA_n1 {w P : Nat} (h0 : 0 < P) (h : (w + 1) % P = 0) : (w + 1) / P = w / P + 1 := by
  have a := Nat.div_add_mod w P
  have b := Nat.mod_lt w h0
  by_cases c : w % P + 1 < P
  · exfalso
    have q : (P * (w / P) + (w % P + 1)) % P = w % P + 1 := by rw [Nat.mul_add_mod, Nat.mod_eq_of_lt c]
    rw [show P * (w / P) + (w % P + 1) = w + 1 by omega] at q
    omega
  · have q : w + 1 = P * (w / P + 1) := by rw [Nat.mul_add, Nat.mul_one]; omega
    have q2 : P * (w / P + 1) / P = w / P + 1 := Nat.mul_div_cancel_left _ h0
    rw [← q] at q2
    exact q2
theorem od_n2 {x N : Nat} (h : x % N + 1 < N) : (x + 1) / N = x / N ∧ (x + 1) % N = x % N + 1 := by
  have a := Nat.div_add_mod x N
  have e : x + 1 = N * (x / N) + (x % N + 1) := by omega
  refine ⟨?_, ?_⟩
  · have q : (N * (x / N) + (x % N + 1)) / N = x / N := by rw [Nat.mul_add_div (by omega), Nat.div_eq_of_lt h, Nat.add_zero]
    rw [← e] at q
    exact q
  · have q : (N * (x / N) + (x % N + 1)) % N = x % N + 1 := by rw [Nat.mul_add_mod, Nat.mod_eq_of_lt h]
    rw [← e] at q
    exact q
theorem od_n3 {x N : Nat} (h0 : 0 < N) (h : ¬ x % N + 1 < N) : (x + 1) % N = 0 := by
  have a := Nat.div_add_mod x N
  have b := Nat.mod_lt x h0
  have e : x + 1 = N * (x / N + 1) := by rw [Nat.mul_add, Nat.mul_one]; omega
  have q : N * (x / N + 1) % N = 0 := Nat.mul_mod_right _ _
  rw [← e] at q
  exact q
def tkD (L : List (List Nat)) (tk : Int → Int) (j : Int) (w : Nat) : Prop := ∃ _ : Unit, ∀ (i k : Nat), (i : Int) < j → (mxs 0 L w)[i]? = some k → tk i = k
def odA (L : List (List Nat)) (tk : Int → Int) (j : Int) (w : Nat) : Prop := ∃ _ : Unit, (∀ (i k : Nat), (i : Int) ≤ j → (mxs 0 L w)[i]? = some k → tk i = k) ∧ (∀ (i k : Nat), j < (i : Int) → (mxs 0 L (w + 1))[i]? = some k → tk i = k) ∧ (w + 1) % mxp (L.drop (j + 1).toNat) = 0
section OD
variable {L : List (List Nat)} {tk : Int → Int} {n j j' r : Int} {w : Nat} {O : List Nat}
theorem mxp_dv : ∀ (k i : Nat), mxp (L.drop (i + k)) ∣ mxp (L.drop i) := by
  intro k
  induction k with
  | zero => intro i; exact Nat.dvd_refl _
  | succ k ih =>
    intro i
    refine Nat.dvd_trans ?_ (ih i)
    by_cases l : i + k < L.length
    · rw [mxp_drop (p := i + k) (List.getElem?_eq_getElem l)]
      exact Nat.dvd_mul_left _ _
    · rw [mxp_end (p := i + (k + 1)) (by omega), mxp_end (p := i + k) (by omega)]
      exact Nat.dvd_refl _
theorem ne_pos (hN : neA L) (k : Nat) : 0 < mxp (L.drop k) := mxp_pos _ (fun O hO => Nat.pos_of_ne_zero (fun z => hN.elim fun _ hN => hN (by
  rw [← List.length_eq_zero_iff.mp z]
  exact List.mem_of_mem_drop hO)))
theorem ne_O (hN : neA L) (hO : L[n.toNat]? = some O) : 0 < O.length := Nat.pos_of_ne_zero (fun z => hN.elim fun _ hN => hN (by
  rw [← List.length_eq_zero_iff.mp z]
  exact List.mem_of_getElem? hO))
theorem tkD_0 : tkD L tk 0 w := ⟨(), fun i k h => absurd h (by omega)⟩
theorem tkD_s (h : tkD L tk j 0) (hO : L[j.toNat]? = some O) (hr : O[0]? = some r.toNat) (h0 : 0 ≤ j) (hr0 : 0 ≤ r) (hj : j' = j + 1) : tkD L (hw_up tk j r) j' 0 := by
  subst hj
  refine ⟨(), fun i k h1 h2 => ?_⟩
  by_cases e : (i : Int) = j
  · have e2 : i = j.toNat := by omega
    rw [e, hw_up_s]
    have q := mxs_get (z := 0) (w := 0) L j.toNat hO
    rw [Nat.zero_div, Nat.zero_mod, List.getD_eq_getElem?_getD, hr] at q
    rw [e2, q] at h2
    have h2 : some r.toNat = some k := h2
    injection h2 with h2
    omega
  · rw [hw_up_n e]
    exact h.elim fun _ h => h i k (by omega) h2
theorem tkD_e (h : tkD L tk j w) (hj : j = n) (hn : n = L.length) : tkA tk n (mxs 0 L w) := by
  refine ⟨(), by rw [mxs_len]; exact hn, fun p k hp => h.elim fun _ h => h p k ?_ hp⟩
  have l := (List.getElem?_eq_some_iff.mp hp).1
  rw [mxs_len] at l
  omega
theorem od_0 (h : tkA tk n (mxs 0 L w)) (hj : j = n - 1) : odA L tk j w := by
  obtain ⟨_, h1, h2⟩ := h
  rw [mxs_len] at h1
  refine ⟨(), fun i k _ hk => h2 i k hk, fun i k hi hk => ?_, ?_⟩
  · have l := (List.getElem?_eq_some_iff.mp hk).1
    rw [mxs_len] at l
    omega
  · rw [mxp_end (p := (j + 1).toNat) (by omega), Nat.mod_one]
theorem od_at (h : odA L tk j w) (hN : neA L) (hO : L[j.toNat]? = some O) (h0 : 0 ≤ j) : O[w / mxp (L.drop (j.toNat + 1)) % O.length]? = some (tk j).toNat ∧ 0 ≤ tk j := by
  obtain ⟨_, h1, _⟩ := h
  have q := mxs_get (z := 0) (w := w) L j.toNat hO
  have lt := Nat.mod_lt (w / mxp (L.drop (j.toNat + 1))) (ne_O hN hO)
  have g := List.getElem?_eq_getElem lt
  have t := h1 j.toNat _ (by omega) q
  rw [List.getD_eq_getElem?_getD, g, show ((j.toNat : Nat) : Int) = j by omega] at t
  have t : tk j = ((O[w / mxp (L.drop (j.toNat + 1)) % O.length]'lt : Nat) : Int) := t
  rw [g, t]
  exact ⟨by rw [Int.toNat_natCast], Int.natCast_nonneg _⟩
theorem od_y (h : odA L tk j w) (hN : neA L) (hO : L[j.toNat]? = some O) (hr : O[w / mxp (L.drop (j.toNat + 1)) % O.length + 1]? = some r.toNat) (hr0 : 0 ≤ r) (h0 : 0 ≤ j) (hn : n = L.length) : tkA (hw_up tk j r) n (mxs 0 L (w + 1)) := by
  obtain ⟨_, h1, h2, h3⟩ := h
  have P0 := ne_pos hN (j.toNat + 1)
  rw [show (j + 1).toNat = j.toNat + 1 by omega] at h3
  have d1 := odA_n1 P0 h3
  have l := (List.getElem?_eq_some_iff.mp hr).1
  have d2 := od_n2 (x := w / mxp (L.drop (j.toNat + 1))) (N := O.length) l
  refine ⟨(), by rw [mxs_len]; exact hn, fun i k hk => ?_⟩
  have li := (List.getElem?_eq_some_iff.mp hk).1
  rw [mxs_len] at li
  by_cases e : (i : Int) = j
  · have e2 : i = j.toNat := by omega
    rw [e, hw_up_s]
    have q := mxs_get (z := 0) (w := w + 1) L j.toNat hO
    rw [d1, d2.2, List.getD_eq_getElem?_getD, hr] at q
    rw [e2, q] at hk
    have hk : some r.toNat = some k := hk
    injection hk with hk
    omega
  · rw [hw_up_n e]
    by_cases c : (i : Int) < j
    · have gi := List.getElem?_eq_getElem li
      have q := mxs_get (z := 0) (w := w + 1) L i gi
      have q0 := mxs_get (z := 0) (w := w) L i gi
      have e3 : (w + 1) / mxp (L.drop (i + 1)) = w / mxp (L.drop (i + 1)) := by
        obtain ⟨Q, hQ⟩ := mxp_dv (L := L) (j.toNat - (i + 1)) (i + 1)
        rw [show i + 1 + (j.toNat - (i + 1)) = j.toNat by omega, mxp_drop hO, Nat.mul_comm O.length] at hQ
        rw [hQ, ← Nat.div_div_eq_div_mul, ← Nat.div_div_eq_div_mul, ← Nat.div_div_eq_div_mul, ← Nat.div_div_eq_div_mul, d1, d2.1]
      rw [e3, ← q0] at q
      exact h1 i k (by omega) (q.symm.trans hk)
    · exact h2 i k (by omega) hk
theorem od_w (h : odA L tk j w) (hN : neA L) (hO : L[j.toNat]? = some O) (hr : O[w / mxp (L.drop (j.toNat + 1)) % O.length + 1]? = some r.toNat) (h0 : 0 ≤ j) (hw : w < mxp L) : w + 1 < mxp L := by
  obtain ⟨_, h1, h2, h3⟩ := h
  have P0 := ne_pos hN (j.toNat + 1)
  rw [show (j + 1).toNat = j.toNat + 1 by omega] at h3
  have d1 := odA_n1 P0 h3
  have l := (List.getElem?_eq_some_iff.mp hr).1
  have d2 := od_n2 (x := w / mxp (L.drop (j.toNat + 1))) (N := O.length) l
  by_cases c : w + 1 < mxp L
  · exact c
  · exfalso
    have c2 : w + 1 = mxp L := by omega
    obtain ⟨Q, hQ⟩ := mxp_dv (L := L) j.toNat 0
    rw [Nat.zero_add, mxp_drop hO, Nat.mul_comm O.length] at hQ
    have hQ : mxp L = mxp (L.drop (j.toNat + 1)) * O.length * Q := hQ
    have z : (w + 1) / mxp (L.drop (j.toNat + 1)) = O.length * Q := by rw [c2, hQ, Nat.mul_assoc, Nat.mul_div_cancel_left _ P0]
    rw [d1] at z
    have y := d2.2
    rw [z, Nat.mul_mod_right] at y
    omega
theorem odA_n (h : odA L tk j w) (hN : neA L) (hO : L[j.toNat]? = some O) (hl : O.length = w / mxp (L.drop (j.toNat + 1)) % O.length + 1) (hr : O[0]? = some r.toNat) (hr0 : 0 ≤ r) (h0 : 0 ≤ j) (hj : j' = j - 1) : odA L (hw_up tk j r) j' w := by
  subst hj
  obtain ⟨_, h1, h2, h3⟩ := h
  have P0 := ne_pos hN (j.toNat + 1)
  rw [show (j + 1).toNat = j.toNat + 1 by omega] at h3
  have d1 := odA_n1 P0 h3
  have d3 := od_n3 (x := w / mxp (L.drop (j.toNat + 1))) (N := O.length) (ne_O hN hO) (by omega)
  refine ⟨(), fun i k hi hk => ?_, fun i k hi hk => ?_, ?_⟩
  · rw [hw_up_n (by omega)]
    exact h1 i k (by omega) hk
  · by_cases e : (i : Int) = j
    · have e2 : i = j.toNat := by omega
      rw [e, hw_up_s]
      have q := mxs_get (z := 0) (w := w + 1) L j.toNat hO
      rw [d1, d3, List.getD_eq_getElem?_getD, hr] at q
      rw [e2, q] at hk
      have hk : some r.toNat = some k := hk
      injection hk with hk
      omega
    · rw [hw_up_n e]
      exact h2 i k (by omega) hk
  · rw [show (j - 1 + 1).toNat = j.toNat by omega, mxp_drop hO]
    obtain ⟨c, hc⟩ := Nat.dvd_of_mod_eq_zero d3
    have a := Nat.div_add_mod (w + 1) (mxp (L.drop (j.toNat + 1)))
    rw [h3, d1, hc, Nat.add_zero, ← Nat.mul_assoc, Nat.mul_comm (mxp (L.drop (j.toNat + 1))) O.length] at a
    rw [← a]
    exact Nat.mul_mod_right _ _
theorem od_e (h : odA L tk j w) (hj : j < 0) (hw : w < mxp L) : mxp L ≤ w + 1 := by
  obtain ⟨_, _, _, h3⟩ := h
  rw [show (j + 1).toNat = 0 by omega] at h3
  have h3 : (w + 1) % mxp L = 0 := h3
  by_cases c : w + 1 < mxp L
  · rw [Nat.mod_eq_of_lt c] at h3
    omega
  · omega
end OD
section TG
variable {V : qVs} {Kc : List dC} {en : Nat → Bool} {cm ca ho sp tk : Int → Int} {cn a M mn r b j j' ec : Int} {rr : List Int} {w : Nat} {Xc Xn : qX} {Q : Int ⊕ qX}
theorem tg_p (hS : spA Kc en a sp mn M) : 0 < mxp (qpt Kc en M.toNat a) := ne_pos (sp_N hS) 0
theorem tg_N (hS : spA Kc en a sp mn M) : ¬ [] ∈ qpt Kc en M.toNat a := (sp_N hS).elim fun _ h => h
theorem tg_0 (hS : spA Kc en a sp mn M) (h : tkD (qpt Kc en M.toNat a) tk j w) (hj : j = mn) : tkA tk mn (mxs 0 (qpt Kc en M.toNat a) w) := tkD_e h hj (sp_l hS)
theorem tg_f (hm : mcA Kc cm ca cn) (hE : enA Kc rr ho cn) (hS : spA Kc (qen Kc rr) a sp mn M) (h : tkD (qpt Kc (qen Kc rr) M.toNat a) tk j 0) (h0 : 0 ≤ j) (h1 : j < mn) (hA : ah_ok cm ca ho a (sp j) b r) (hb : b = -1) (r1 : b < r) (r2 : r < cn) (r3 : cm r = sp j) (r4 : ca r = a) (r5 : ¬ ho r = 0) (hj : j' = j + 1) : tkD (qpt Kc (qen Kc rr) M.toNat a) (hw_up tk j r) j' 0 := tkD_s h (sp_O hS h0 h1) (ah_fi hm hE hb r1 r2 r3 r4 r5 hA) h0 (by omega) hj
theorem tg_y (hm : mcA Kc cm ca cn) (hE : enA Kc rr ho cn) (hS : spA Kc (qen Kc rr) a sp mn M) (h : odA (qpt Kc (qen Kc rr) M.toNat a) tk j w) (h0 : 0 ≤ j) (h1 : j < mn) (hA : ah_ok cm ca ho a (sp j) (tk j) r) (r1 : tk j < r) (r2 : r < cn) (r3 : cm r = sp j) (r4 : ca r = a) (r5 : ¬ ho r = 0) : tkA (hw_up tk j r) mn (mxs 0 (qpt Kc (qen Kc rr) M.toNat a) (w + 1)) := by
  have q := od_at h (sp_N hS) (sp_O hS h0 h1) h0
  exact od_y h (sp_N hS) (sp_O hS h0 h1) (ah_nx hm hE q.1 q.2 r1 r2 r3 r4 r5 hA) (by omega) h0 (sp_l hS)
theorem tg_w (hm : mcA Kc cm ca cn) (hE : enA Kc rr ho cn) (hS : spA Kc (qen Kc rr) a sp mn M) (h : odA (qpt Kc (qen Kc rr) M.toNat a) tk j w) (h0 : 0 ≤ j) (h1 : j < mn) (hA : ah_ok cm ca ho a (sp j) (tk j) r) (r1 : tk j < r) (r2 : r < cn) (r3 : cm r = sp j) (r4 : ca r = a) (r5 : ¬ ho r = 0) (hw : w < mxp (qpt Kc (qen Kc rr) M.toNat a)) : w + 1 < mxp (qpt Kc (qen Kc rr) M.toNat a) := by
  have q := od_at h (sp_N hS) (sp_O hS h0 h1) h0
  exact od_w h (sp_N hS) (sp_O hS h0 h1) (ah_nx hm hE q.1 q.2 r1 r2 r3 r4 r5 hA) h0 hw
theorem tg_n (hm : mcA Kc cm ca cn) (hE : enA Kc rr ho cn) (hS : spA Kc (qen Kc rr) a sp mn M) (h : odA (qpt Kc (qen Kc rr) M.toNat a) tk j w) (h0 : 0 ≤ j) (h1 : j < mn) (hA : ah_ok cm ca ho a (sp j) (tk j) cn) (hB : ah_ok cm ca ho a (sp j) b r) (hb : b = -1) (r1 : b < r) (r2 : r < cn) (r3 : cm r = sp j) (r4 : ca r = a) (r5 : ¬ ho r = 0) (hj : j' = j - 1) : odA (qpt Kc (qen Kc rr) M.toNat a) (hw_up tk j r) j' w := by
  have q := od_at h (sp_N hS) (sp_O hS h0 h1) h0
  exact odA_n h (sp_N hS) (sp_O hS h0 h1) (ah_la hm hE q.1 q.2 hA) (ah_fi hm hE hb r1 r2 r3 r4 r5 hB) (by omega) h0 hj
theorem twA_0 {M : Nat} : qL V Kc rr (qtg Kc en M a) Xc = qL V Kc rr (jwF Kc en M a 0) Xc := by
  have e0 : qtg Kc en M a = jwF Kc en M a 0 := by
    unfold qtg jwF
    rw [List.range_eq_range']
    rfl
  rw [e0]
theorem tw_b {M : Nat} (h : [] ∈ qpt Kc en M a) : qL V Kc rr (qtg Kc en M a) Xc = .inr Xc := by
  have e0 : qtg Kc en M a = [] := if_pos h
  rw [e0]
  rfl
theorem tw_j {M : Nat} (hN : ¬ [] ∈ qpt Kc en M a) (hw : w < mxp (qpt Kc en M a)) : jwF Kc en M a w = mxs 0 (qpt Kc en M a) w :: jwF Kc en M a (w + 1) := by
  have j := jl_w (x := ((mxp (qpt Kc en M a) : Nat) : Int)) (y := (w : Int)) ⟨(), Or.inr ⟨hN, rfl⟩⟩ (by omega) (by omega)
  rw [show ((w : Int)).toNat = w by omega, show ((w : Int) + 1).toNat = w + 1 by omega] at j
  exact j
theorem twA_s (hS : spA Kc en a sp mn M) (h : Q = qL V Kc rr (jwF Kc en M.toNat a w) Xc) (hC : qC V Kc rr (mxs 0 (qpt Kc en M.toNat a) w) Xc = .inr Xn) (hw : w < mxp (qpt Kc en M.toNat a)) : Q = qL V Kc rr (jwF Kc en M.toNat a (w + 1)) Xn := by
  rw [h, tw_j (tg_N hS) hw, qL_s hC]
theorem tw_n (hS : spA Kc en a sp mn M) (h : Q = qL V Kc rr (jwF Kc en M.toNat a w) Xc) (hC : qC V Kc rr (mxs 0 (qpt Kc en M.toNat a) w) Xc = .inl ec) (hw : w < mxp (qpt Kc en M.toNat a)) : Q = .inl ec := by
  rw [h, tw_j (tg_N hS) hw, qL_n hC]
theorem twA_e (hS : spA Kc en a sp mn M) (h : Q = qL V Kc rr (jwF Kc en M.toNat a (w + 1)) Xc) (hd : odA (qpt Kc en M.toNat a) tk j w) (hj : j < 0) (hw : w < mxp (qpt Kc en M.toNat a)) : Q = .inr Xc := by
  have l := od_e hd hj hw
  have e0 : jwF Kc en M.toNat a (w + 1) = [] := by
    unfold jwF
    rw [if_neg (tg_N hS), rg_e l]
    rfl
  rw [h, e0]
  rfl
end TG
