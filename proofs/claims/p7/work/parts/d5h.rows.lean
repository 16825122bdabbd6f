/-! the model: rows of the table, as it keeps them -/
section C5h
/-- which unknown a state is -/
def ix_ok (tg ze : Int → Int) (k : Int) (ix uk : Int → Int) (s m : Int) : Prop := ∃ _ : Unit, (0 ≤ m ∧ m ≤ s) ∧ (∀ i : Int, 0 ≤ i → i < m → (0 ≤ uk i ∧ uk i < s) ∧ ix (uk i) = i ∧ tg (uk i) = 0 ∧ ze (k * 24 + uk i) = 0) ∧ (∀ t : Int, 0 ≤ t → t < s → (tg t = 0 → ze (k * 24 + t) = 0 → 0 ≤ ix t ∧ ix t < m ∧ uk (ix t) = t) ∧ (¬ (tg t = 0 ∧ ze (k * 24 + t) = 0) → ix t = -1))
theorem ix_0 {tg ze ix uk : Int → Int} {k : Int} : ix_ok tg ze k ix uk 0 0 := ⟨(), by omega, fun i h1 h2 => absurd h1 (by omega), fun i h1 h2 => absurd h1 (by omega)⟩
theorem ix_y {tg ze ix uk : Int → Int} {k s m p q : Int} (h : ix_ok tg ze k ix uk s m) (h1 : tg s = 0) (h2 : ze (k * 24 + s) = 0) (hp : p = s + 1) (hq : q = m + 1) (hs : 0 ≤ s) : ix_ok tg ze k (hw_up ix s m) (hw_up uk m s) p q := by
  subst hp
  subst hq
  refine h.elim fun _ h => ⟨(), by omega, fun i h3 h4 => ?_, fun t h3 h4 => ?_⟩
  · by_cases e : i = m
    · rw [e, hw_up_s, hw_up_s]
      exact ⟨by omega, rfl, h1, h2⟩
    · have h5 := h.2.1 i h3 (by omega)
      rw [hw_up_n e, hw_up_n (by omega)]
      exact ⟨by omega, h5.2⟩
  · by_cases e : t = s
    · subst e
      rw [hw_up_s, hw_up_s]
      exact ⟨fun _ _ => ⟨by omega, by omega, rfl⟩, fun h5 => absurd ⟨h1, h2⟩ h5⟩
    · have h5 := h.2.2 t h3 (by omega)
      rw [hw_up_n e]
      refine ⟨fun h6 h7 => ?_, h5.2⟩
      have h8 := h5.1 h6 h7
      rw [hw_up_n (by omega)]
      exact ⟨h8.1, by omega, h8.2.2⟩
theorem ix_n {tg ze ix uk : Int → Int} {k s m p : Int} (h : ix_ok tg ze k ix uk s m) (h1 : ¬ (tg s = 0 ∧ ze (k * 24 + s) = 0)) (hp : p = s + 1) (hs : 0 ≤ s) : ix_ok tg ze k (hw_up ix s (-1)) uk p m := by
  subst hp
  refine h.elim fun _ h => ⟨(), by omega, fun i h3 h4 => ?_, fun t h3 h4 => ?_⟩
  · have h5 := h.2.1 i h3 h4
    rw [hw_up_n (by omega)]
    exact ⟨by omega, h5.2⟩
  · by_cases e : t = s
    · subst e
      rw [hw_up_s]
      exact ⟨fun h5 h6 => absurd ⟨h5, h6⟩ h1, fun _ => rfl⟩
    · rw [hw_up_n e]
      exact h.2.2 t h3 (by omega)
theorem ix_u {tg ze ix uk : Int → Int} {k s m i : Int} (h : ix_ok tg ze k ix uk s m) (h1 : 0 ≤ i) (h2 : i < m) : (0 ≤ uk i ∧ uk i < s) ∧ ix (uk i) = i ∧ tg (uk i) = 0 ∧ ze (k * 24 + uk i) = 0 := h.elim fun _ h => h.2.1 i h1 h2
theorem ix_t {tg ze ix uk : Int → Int} {k s m t : Int} (h : ix_ok tg ze k ix uk s m) (h1 : 0 ≤ t) (h2 : t < s) : -1 ≤ ix t ∧ ix t < m := h.elim fun _ h => by
  have h3 := h.2.2 t h1 h2
  have h4 := h.1
  by_cases e : tg t = 0 ∧ ze (k * 24 + t) = 0
  · have := h3.1 e.1 e.2
    omega
  · have := h3.2 e
    omega
/-- the column of a state -/
def kp (tg ix : Int → Int) (m : Int) (t : Int) : Nat := if tg t = 0 then (if ix t < 0 then m.toNat + 1 else (ix t).toNat) else m.toNat
abbrev vc (fc po uk : Int → Int) (k i : Int) : Int := fc (uk i) + po (k * 24 + uk i)
/-- the weight of a choice to a column, over its first x outcomes -/
def vw (fo go ab be : Int → Int) (κ : Int → Nat) (c : Int) (x j : Nat) : Int := sm x (fun x => if κ (go (fo c + x)) = j then hq fo ab be c x else 0)
theorem vw_s {fo go ab be : Int → Int} {κ : Int → Nat} {c : Int} {x j : Nat} : vw fo go ab be κ c (x + 1) j = vw fo go ab be κ c x j + if κ (go (fo c + x)) = j then hq fo ab be c x else 0 := rfl
theorem vw_nn {fo go ab be : Int → Int} {κ : Int → Nat} {c n : Int} {x j : Nat} (h : ch_ok fo go ab be n c) (hx : x ≤ nq fo c) : 0 ≤ vw fo go ab be κ c x j := sm_nn (fun y hy => by
  by_cases e : κ (go (fo c + y)) = j
  · rw [if_pos e]; exact ch_h h (by omega)
  · rw [if_neg e]; exact Int.le_refl _)
theorem vw_le {fo go ab be : Int → Int} {κ : Int → Nat} {c n : Int} {x j : Nat} (h : ch_ok fo go ab be n c) (hx : x ≤ nq fo c) : vw fo go ab be κ c x j ≤ Lq fo be c := by
  have h1 := sm_mono hx (fun y hy => ch_h h hy)
  rw [ch_s h] at h1
  refine Int.le_trans ?_ h1
  have h2 : ∀ z : Nat, z ≤ x → vw fo go ab be κ c z j ≤ sm z (hq fo ab be c) := fun z => by
    induction z with
    | zero => intro _; exact Int.le_refl _
    | succ z ih =>
      intro hz
      have h3 := ih (by omega)
      have h4 := ch_h h (x := z) (by omega)
      rw [vw_s, sm_s]
      by_cases e : κ (go (fo c + z)) = j
      · rw [if_pos e]; omega
      · rw [if_neg e]; omega
  exact h2 x (Nat.le_refl x)
/-- a row in the making: x outcomes are in it -/
def rw1 (fo go ab be : Int → Int) (κ : Int → Nat) (c m : Int) (x : Nat) (va : Int → Int) (i : Int) : Prop := (∀ j : Nat, (j : Int) < m → va (50 + (24 * i + j)) = vw fo go ab be κ c x j) ∧ va (626 + i) = vw fo go ab be κ c x m.toNat
def rz_ok (fo go ab be : Int → Int) (κ : Int → Nat) (c m : Int) (va : Int → Int) (i o : Int) : Prop := ∃ x : Nat, o = fo c + x ∧ rw1 fo go ab be κ c m x va i
def zr_ok (va : Int → Int) (i j : Int) : Prop := ∃ _ : Unit, (∀ q : Int, 0 ≤ q → q < j → va (50 + (24 * i + q)) = 0) ∧ va (626 + i) = 0
theorem zr_0 {va : Int → Int} {i : Int} : zr_ok (hw_up va (626 + i) 0) i 0 := ⟨(), fun q h1 h2 => absurd h1 (by omega), hw_up_s⟩
theorem zr_s {va : Int → Int} {i j p : Int} (h : zr_ok va i j) (hj : 0 ≤ j ∧ j < 24) (hi : 0 ≤ i ∧ i < 24) (hp : p = j + 1) : zr_ok (hw_up va (50 + (24 * i + j)) 0) i p := by
  subst hp
  refine h.elim fun _ h => ⟨(), fun q h1 h2 => ?_, ?_⟩
  · by_cases e : q = j
    · rw [e, hw_up_s]
    · rw [hw_up_n (by omega)]; exact h.1 q h1 (by omega)
  · rw [hw_up_n (by omega)]; exact h.2
theorem rz_0 {fo go ab be : Int → Int} {κ : Int → Nat} {c m i j : Int} {va : Int → Int} (h : zr_ok va i j) (hj : j = m) : rz_ok fo go ab be κ c m va i (fo c) := by
  subst hj
  exact h.elim fun _ h => ⟨0, by omega, fun q hq => h.1 q (by omega) hq, h.2⟩
/-- numbers of a row stay -/
theorem rz_k {fo go ab be : Int → Int} {κ : Int → Nat} {c m i o : Int} {va vb : Int → Int} (h : rz_ok fo go ab be κ c m va i o) (hm : m ≤ 24) (hk : ∀ p : Int, (50 + 24 * i ≤ p ∧ p < 50 + 24 * i + 24) ∨ p = 626 + i → vb p = va p) : rz_ok fo go ab be κ c m vb i o := by
  obtain ⟨x, h1, h2, h3⟩ := h
  exact ⟨x, h1, fun j hj => by rw [hk _ (by omega)]; exact h2 j hj, by rw [hk _ (by omega)]; exact h3⟩
theorem rz_f {fo go ab be : Int → Int} {κ : Int → Nat} {c m i o p q : Int} {va vb : Int → Int} (hf : fr p q va vb) (h : rz_ok fo go ab be κ c m va i o) (hm : m ≤ 24) (hi : 0 ≤ i ∧ i < 24) (hp : 674 ≤ p) : rz_ok fo go ab be κ c m vb i o := rz_k h hm (fun r hr => fr_e hf (by omega))
/-- an outcome more -/
theorem rz_t {fo go ab be tg ix : Int → Int} {c m i o p x h : Int} {va : Int → Int} (hr : rz_ok fo go ab be (kp tg ix m) c m va i o) (hm : 0 ≤ m ∧ m ≤ 24) (hi : 0 ≤ i ∧ i < 24) (ht : ¬ tg (go o) = 0) (hx : x = va (626 + i) + h) (hh : h = Lq fo be c / bw be (o * 20) * bw ab (o * 20)) (hp : p = o + 1) : rz_ok fo go ab be (kp tg ix m) c m (hw_up va (626 + i) x) i p := by
  subst hp
  obtain ⟨y, rfl, h2, h3⟩ := hr
  have e : kp tg ix m (go (fo c + y)) = m.toNat := by unfold kp; rw [if_neg ht]
  refine ⟨y + 1, by omega, fun j hj => ?_, ?_⟩
  · rw [hw_up_n (by omega), h2 j hj, vw_s, if_neg (by omega)]
    omega
  · rw [hw_up_s, hx, h3, vw_s, if_pos e, hh]
    rfl
theorem rz_w {fo go ab be tg ix : Int → Int} {c m i o p x h : Int} {va : Int → Int} (hr : rz_ok fo go ab be (kp tg ix m) c m va i o) (hm : 0 ≤ m ∧ m ≤ 24) (hi : 0 ≤ i ∧ i < 24) (ht : tg (go o) = 0) (h1 : 0 ≤ ix (go o) ∧ ix (go o) < m) (hx : x = va (50 + (24 * i + ix (go o))) + h) (hh : h = Lq fo be c / bw be (o * 20) * bw ab (o * 20)) (hp : p = o + 1) : rz_ok fo go ab be (kp tg ix m) c m (hw_up va (50 + (24 * i + ix (go o))) x) i p := by
  subst hp
  obtain ⟨y, rfl, h2, h3⟩ := hr
  have e : kp tg ix m (go (fo c + y)) = (ix (go (fo c + y))).toNat := by unfold kp; rw [if_pos ht, if_neg (by omega)]
  refine ⟨y + 1, by omega, fun j hj => ?_, ?_⟩
  · by_cases q : (j : Int) = ix (go (fo c + y))
    · have h4 := h2 j hj
      rw [q] at h4
      rw [q, hw_up_s, hx, h4, vw_s, if_pos (by omega), hh]
      rfl
    · rw [hw_up_n (by omega), h2 j hj, vw_s, if_neg (by omega)]
      omega
  · rw [hw_up_n (by omega), h3, vw_s, if_neg (by omega)]
    omega
theorem rz_z {fo go ab be tg ix : Int → Int} {c m i o p : Int} {va : Int → Int} (hr : rz_ok fo go ab be (kp tg ix m) c m va i o) (hm : 0 ≤ m ∧ m ≤ 24) (ht : tg (go o) = 0) (h1 : ix (go o) < 0) (hp : p = o + 1) : rz_ok fo go ab be (kp tg ix m) c m va i p := by
  subst hp
  obtain ⟨y, rfl, h2, h3⟩ := hr
  have e : kp tg ix m (go (fo c + y)) = m.toNat + 1 := by unfold kp; rw [if_pos ht, if_pos h1]
  refine ⟨y + 1, by omega, fun j hj => ?_, ?_⟩
  · rw [h2 j hj, vw_s, if_neg (by omega)]
    omega
  · rw [h3, vw_s, if_neg (by omega)]
    omega
/-- what is added has room -/
theorem rz_b {fo go ab be : Int → Int} {κ : Int → Nat} {c m i o n : Int} {va : Int → Int} (hr : rz_ok fo go ab be κ c m va i o) (hc : ch_ok fo go ab be n c) (hm : 0 ≤ m) (h1 : o < fo (c + 1)) : 0 ≤ Lq fo be c / bw be (o * 20) * bw ab (o * 20) ∧ va (626 + i) + Lq fo be c / bw be (o * 20) * bw ab (o * 20) < wB 7 ∧ ∀ j : Int, 0 ≤ j → j < m → va (50 + (24 * i + j)) + Lq fo be c / bw be (o * 20) * bw ab (o * 20) < wB 7 := by
  obtain ⟨y, rfl, h2, h3⟩ := hr
  have hy : y < nq fo c := by unfold nq; omega
  have a1 := ch_h hc hy
  have a2 := sm_ge (f := hq fo ab be c) hy (fun z hz => ch_h hc hz)
  rw [ch_s hc] at a2
  have a3 := (ch_L hc).2
  have a4 : wB 6 + wB 6 ≤ wB 7 := wB_2 (m := 6)
  have a5 : hq fo ab be c y = Lq fo be c / bw be ((fo c + y) * 20) * bw ab ((fo c + y) * 20) := rfl
  rw [a5] at a1 a2
  refine ⟨a1, ?_, fun j h4 h5 => ?_⟩
  · have a6 := vw_le (κ := κ) (j := m.toNat) hc (Nat.le_of_lt hy)
    rw [h3]
    omega
  · obtain ⟨z, rfl⟩ := Int.eq_ofNat_of_zero_le h4
    have a6 := vw_le (κ := κ) (j := z) hc (Nat.le_of_lt hy)
    rw [h2 z h5]
    omega
theorem rz_e {fo go ab be : Int → Int} {κ : Int → Nat} {c m i o : Int} {va : Int → Int} (hr : rz_ok fo go ab be κ c m va i o) (ho : o = fo (c + 1)) : rw1 fo go ab be κ c m (nq fo c) va i := by
  obtain ⟨y, h1, h2⟩ := hr
  have e : y = nq fo c := by unfold nq; omega
  rw [← e]
  exact h2
/-- rows that are made -/
def rd_ok (fo go ab be fc po tg ix uk : Int → Int) (k m : Int) (va : Int → Int) (i : Int) : Prop := ∃ _ : Unit, ∀ q : Nat, (q : Int) < i → rw1 fo go ab be (kp tg ix m) (vc fc po uk k q) m (nq fo (vc fc po uk k q)) va q ∧ va (650 + q) = Lq fo be (vc fc po uk k q) - vw fo go ab be (kp tg ix m) (vc fc po uk k q) (nq fo (vc fc po uk k q)) q
theorem rd_0 {fo go ab be fc po tg ix uk : Int → Int} {k m : Int} {va : Int → Int} : rd_ok fo go ab be fc po tg ix uk k m va 0 := ⟨(), fun q h => absurd h (by omega)⟩
theorem rd_k {fo go ab be fc po tg ix uk : Int → Int} {k m i : Int} {va vb : Int → Int} (h : rd_ok fo go ab be fc po tg ix uk k m va i) (hm : m ≤ 24) (hk : ∀ p : Int, (50 ≤ p ∧ p < 50 + 24 * i) ∨ (626 ≤ p ∧ p < 626 + i) ∨ (650 ≤ p ∧ p < 650 + i) → vb p = va p) : rd_ok fo go ab be fc po tg ix uk k m vb i := h.elim fun _ h => ⟨(), fun q hq => by
  obtain ⟨⟨h1, h2⟩, h3⟩ := h q hq
  exact ⟨⟨fun j hj => by rw [hk _ (by omega)]; exact h1 j hj, by rw [hk _ (by omega)]; exact h2⟩, by rw [hk _ (by omega)]; exact h3⟩⟩
theorem rd_u {fo go ab be fc po tg ix uk : Int → Int} {k m i p x : Int} {va : Int → Int} (h : rd_ok fo go ab be fc po tg ix uk k m va i) (hm : m ≤ 24) (hi : 0 ≤ i ∧ i < 24) (hp : (50 + 24 * i ≤ p ∧ p < 626) ∨ (626 + i ≤ p ∧ p < 650) ∨ 650 + i ≤ p) : rd_ok fo go ab be fc po tg ix uk k m (hw_up va p x) i := rd_k h hm (fun r hr => hw_up_n (by omega))
theorem rd_f {fo go ab be fc po tg ix uk : Int → Int} {k m i p q : Int} {va vb : Int → Int} (hf : fr p q va vb) (h : rd_ok fo go ab be fc po tg ix uk k m va i) (hm : m ≤ 24) (hi : 0 ≤ i ∧ i ≤ 24) (hp : 674 ≤ p) : rd_ok fo go ab be fc po tg ix uk k m vb i := rd_k h hm (fun r hr => fr_e hf (by omega))
theorem rd_s {fo go ab be fc po tg ix uk : Int → Int} {k m i p x : Int} {va : Int → Int} (h : rd_ok fo go ab be fc po tg ix uk k m va i) (hr : rz_ok fo go ab be (kp tg ix m) (vc fc po uk k i) m va i p) (hp : p = fo (vc fc po uk k i + 1)) (hm : 0 ≤ m ∧ m ≤ 24) (hi : 0 ≤ i ∧ i < m) (hx : x = Lq fo be (vc fc po uk k i) - va (50 + (24 * i + i))) {j : Int} (hj : j = i + 1) : rd_ok fo go ab be fc po tg ix uk k m (hw_up va (650 + i) x) j := by
  subst hj
  have h5 := rz_e hr hp
  have h6 := rd_u (x := x) (p := 650 + i) h hm.2 (by omega) (by omega)
  refine h6.elim fun _ h6 => ⟨(), fun q hq => ?_⟩
  by_cases e : (q : Int) = i
  · subst e
    refine ⟨⟨fun j hj => by rw [hw_up_n (by omega)]; exact h5.1 j hj, by rw [hw_up_n (by omega)]; exact h5.2⟩, ?_⟩
    rw [hw_up_s, hx, h5.1 q hi.2]
  · exact h6 q (by omega)
end C5h
