/-! the model: its table loses, and what it solves -/
section C5j
/-- the states whose value is to be found; a policy's rows -/
def uS (tg ze : Int → Int) (k n : Int) (s : Nat) : Prop := (s : Int) < n ∧ tg s = 0 ∧ ze (k * 24 + s) = 0
def qS (fo go ab be : Int → Int) (c : Int) (t : Nat) : Int := sm (nq fo c) (fun x => if (go (fo c + x)).toNat = t then hq fo ab be c x else 0)
abbrev cS (fc po : Int → Int) (k : Int) (s : Nat) : Int := fc s + po (k * 24 + s)
/-- choices of a policy are in order -/
def cs_ok (fo go ab be fc po : Int → Int) (k n : Int) : Prop := ∃ _ : Unit, ∀ s : Int, 0 ≤ s → s < n → ch_ok fo go ab be n (fc s + po (k * 24 + s))
theorem cs_e {fo go ab be fc po : Int → Int} {k n s : Int} (h : cs_ok fo go ab be fc po k n) (h1 : 0 ≤ s) (h2 : s < n) : ch_ok fo go ab be n (fc s + po (k * 24 + s)) := h.elim fun _ h => h s h1 h2
theorem qS_pr {fo go ab be fc po tg ze : Int → Int} {k n : Int} (hc : cs_ok fo go ab be fc po k n) (hn : 0 ≤ n) : pr_ok n.toNat (uS tg ze k n) (fun s => qS fo go ab be (cS fc po k s)) (fun s => Lq fo be (cS fc po k s)) := by
  refine ⟨fun s hs => by have := hs.1; omega, fun s t hs ht => ?_, fun s hs => ?_, fun s hs => ?_⟩
  · have h := cs_e hc (s := s) (by omega) hs.1
    exact sm_nn (fun x hx => by
      by_cases e : (go (fo (cS fc po k s) + x)).toNat = t
      · rw [if_pos e]; exact ch_h h hx
      · rw [if_neg e]; exact Int.le_refl _)
  · have h : ch_ok fo go ab be n (cS fc po k s) := cs_e hc (s := s) (by omega) hs.1
    show sm n.toNat (fun t => sm (nq fo (cS fc po k s)) (fun x => if (go (fo (cS fc po k s) + x)).toNat = t then hq fo ab be (cS fc po k s) x else 0)) = _
    rw [sm_all (g := fun x => (go (fo (cS fc po k s) + x)).toNat) (fun x hx => ?_)]
    · exact ch_s h
    · have := h.elim fun _ h => (h.2.2.2.1 x hx).1
      omega
  · have : 1 ≤ Lq fo be (cS fc po k s) := (ch_L (cs_e hc (s := s) (by omega) hs.1)).1
    show 0 < Lq fo be (cS fc po k s)
    omega
theorem sm_sp {n : Nat} {f : Nat → Int} (h : ∀ x, x < n → 0 ≤ f x) (hp : 0 < sm n f) : ∃ x, x < n ∧ 0 < f x := by
  induction n with
  | zero => exact absurd hp (Int.lt_irrefl 0)
  | succ n ih =>
    rw [sm_s] at hp
    have h1 := h n (Nat.lt_succ_self n)
    by_cases e : 0 < f n
    · exact ⟨n, Nat.lt_succ_self n, e⟩
    · obtain ⟨x, h2, h3⟩ := ih (fun x hx => h x (by omega)) (by omega)
      exact ⟨x, by omega, h3⟩
theorem vt_mk {fo go ab be fc po tg ze ix uk : Int → Int} {k n m : Int} (hc : cs_ok fo go ab be fc po k n) (hx : ix_ok tg ze k ix uk n m) (hn : n ≤ 24) (hp : pp_ok n.toNat (uS tg ze k n) (fun s => qS fo go ab be (cS fc po k s))) : vt_ok (vm fo go ab be fc po tg ix uk k m) m := by
  have hx1 := hx.elim fun _ h => h.1
  obtain ⟨M, rfl⟩ := Int.eq_ofNat_of_zero_le hx1.1
  have hu : ∀ i : Nat, i < M → ch_ok fo go ab be n (vc fc po uk k i) := fun i hi => by
    have h := (ix_u hx (i := i) (by omega) (by omega)).1
    exact cs_e hc h.1 h.2
  have hkp : ∀ t : Int, 0 ≤ t → t < n → kp tg ix M t < M + 2 := fun t h1 h2 => by
    have h := ix_t hx h1 h2
    unfold kp
    by_cases e : tg t = 0
    · rw [if_pos e]
      by_cases f : ix t < 0
      · rw [if_pos f]; omega
      · rw [if_neg f]; omega
    · rw [if_neg e]; omega
  refine ⟨M, rfl, by omega, tb_0 (fun i j hi hj hn => ?_) (fun S hS hne => ?_), fun i hi => mx_sum (by omega) ?_, fun i hi => ?_⟩
  · unfold vm mx
    rw [if_neg hn]
    have := vw_nn (κ := kp tg ix M) (j := j) (hu i hi) (Nat.le_refl _)
    dsimp only
    omega
  · obtain ⟨s, t, h1, h2, h3, h4⟩ := hp (fun s => ∃ i, S i ∧ uk i = s) (fun s hs => by
      obtain ⟨i, hi, e⟩ := hs
      have h := ix_u hx (i := i) (by omega) (by have := hS i hi; omega)
      rw [e] at h
      exact ⟨h.1.2, h.2.2.1, h.2.2.2⟩) (by
      obtain ⟨i, hi⟩ := hne
      have h := ix_u hx (i := i) (by omega) (by have := hS i hi; omega)
      exact ⟨(uk i).toNat, i, hi, by omega⟩)
    obtain ⟨i, hi, e⟩ := h1
    have hiM := hS i hi
    have hci := hu i hiM
    have h4' : 0 < qS fo go ab be (vc fc po uk k i) t := by
      show 0 < qS fo go ab be (fc (uk i) + po (k * 24 + uk i)) t
      rw [e]
      exact h4
    obtain ⟨x, hx1, hx2⟩ := sm_sp (fun x hx => by
      by_cases f : (go (fo (vc fc po uk k i) + x)).toNat = t
      · rw [if_pos f]; exact ch_h hci hx
      · rw [if_neg f]; exact Int.le_refl _) h4'
    have hgx := hci.elim fun _ h => (h.2.2.2.1 x hx1).1
    have ft : (go (fo (vc fc po uk k i) + x)).toNat = t := by
      by_cases f : (go (fo (vc fc po uk k i) + x)).toNat = t
      · exact f
      · rw [if_neg f] at hx2
        exact absurd hx2 (Int.lt_irrefl 0)
    rw [if_pos ft] at hx2
    have hj := hkp _ hgx.1 hgx.2
    refine ⟨i, kp tg ix M (go (fo (vc fc po uk k i) + x)), hi, fun hSj => ?_, hj, ?_⟩
    · have hjM := hS _ hSj
      have h6 := ix_t hx hgx.1 hgx.2
      have h7 := hx.elim fun _ h => h.2.2 _ hgx.1 hgx.2
      by_cases e1 : tg (go (fo (vc fc po uk k i) + x)) = 0
      · by_cases e2 : ix (go (fo (vc fc po uk k i) + x)) < 0
        · have e3 : kp tg ix M (go (fo (vc fc po uk k i) + x)) = M + 1 := by unfold kp; rw [if_pos e1, if_pos e2]; omega
          omega
        · have e3 : kp tg ix M (go (fo (vc fc po uk k i) + x)) = (ix (go (fo (vc fc po uk k i) + x))).toNat := by unfold kp; rw [if_pos e1, if_neg e2]
          refine h3 ⟨_, hSj, ?_⟩
          have e4 : ze (k * 24 + go (fo (vc fc po uk k i) + x)) = 0 := by
            by_cases e5 : ze (k * 24 + go (fo (vc fc po uk k i) + x)) = 0
            · exact e5
            · have := h7.2 (fun h => e5 h.2)
              omega
          have h8 := (h7.1 e1 e4).2.2
          rw [e3, show (((ix (go (fo (vc fc po uk k i) + x))).toNat : Nat) : Int) = ix (go (fo (vc fc po uk k i) + x)) by omega, h8]
          omega
      · have e3 : kp tg ix M (go (fo (vc fc po uk k i) + x)) = M := by unfold kp; rw [if_neg e1]; omega
        omega
    · have h9 := sm_ge (n := nq fo (vc fc po uk k i)) (i := x) (f := fun y => if kp tg ix M (go (fo (vc fc po uk k i) + y)) = kp tg ix M (go (fo (vc fc po uk k i) + x)) then hq fo ab be (vc fc po uk k i) y else 0) hx1 (fun y hy => by
        by_cases f : kp tg ix M (go (fo (vc fc po uk k i) + y)) = kp tg ix M (go (fo (vc fc po uk k i) + x))
        · rw [if_pos f]; exact ch_h hci hy
        · rw [if_neg f]; exact Int.le_refl _)
      rw [if_pos rfl] at h9
      have hne2 : ¬ kp tg ix M (go (fo (vc fc po uk k i) + x)) = i := fun q => by
        have h6 := ix_u hx (i := i) (by omega) (by omega)
        by_cases e1 : tg (go (fo (vc fc po uk k i) + x)) = 0
        · by_cases e2 : ix (go (fo (vc fc po uk k i) + x)) < 0
          · have e3 : kp tg ix M (go (fo (vc fc po uk k i) + x)) = M + 1 := by unfold kp; rw [if_pos e1, if_pos e2]; omega
            omega
          · have e3 : kp tg ix M (go (fo (vc fc po uk k i) + x)) = (ix (go (fo (vc fc po uk k i) + x))).toNat := by unfold kp; rw [if_pos e1, if_neg e2]
            have h7 := hx.elim fun _ h => h.2.2 _ hgx.1 hgx.2
            have e4 : ze (k * 24 + go (fo (vc fc po uk k i) + x)) = 0 := by
              by_cases e5 : ze (k * 24 + go (fo (vc fc po uk k i) + x)) = 0
              · exact e5
              · have := h7.2 (fun h => e5 h.2)
                omega
            have h8 := (h7.1 e1 e4).2.2
            have e5 : ix (go (fo (vc fc po uk k i) + x)) = i := by omega
            rw [e5] at h8
            exact h3 ⟨i, hi, by omega⟩
        · have e3 : kp tg ix M (go (fo (vc fc po uk k i) + x)) = M := by unfold kp; rw [if_neg e1]; omega
          omega
      unfold vm mx
      rw [if_neg hne2]
      dsimp only
      unfold vw
      omega
  · have h := hu i hi
    show sm (M + 2) (fun j => sm (nq fo (vc fc po uk k i)) (fun x => if kp tg ix M (go (fo (vc fc po uk k i) + x)) = j then hq fo ab be (vc fc po uk k i) x else 0)) = _
    rw [sm_all (g := fun x => kp tg ix M (go (fo (vc fc po uk k i) + x))) (fun x hx => ?_)]
    · exact ch_s h
    · have := h.elim fun _ h => (h.2.2.2.1 x hx).1
      exact hkp _ this.1 this.2
  · have h1 := vw_nn (κ := kp tg ix M) (j := i) (hu i hi) (Nat.le_refl _)
    have h2 := ch_L (hu i hi)
    unfold vm mx
    rw [if_pos rfl]
    dsimp only
    omega
/-- the values found, state by state -/
def fv_ok (a : Nat → Nat → Int) (tg ix : Int → Int) (k m : Int) (vb : Int → Int) (s : Int) : Prop := ∃ _ : Unit, ∀ t : Int, 0 ≤ t → t < s → (¬ tg t = 0 → vb (k * 24 + t) = dl a m.toNat) ∧ (tg t = 0 → ix t < 0 → vb (k * 24 + t) = 0) ∧ (tg t = 0 → 0 ≤ ix t → vb (k * 24 + t) = tw a m.toNat (ix t).toNat m.toNat)
theorem fv_0 {a : Nat → Nat → Int} {tg ix vb : Int → Int} {k m : Int} : fv_ok a tg ix k m vb 0 := ⟨(), fun t h1 h2 => absurd h1 (by omega)⟩
theorem fv_s {a : Nat → Nat → Int} {tg ix vb : Int → Int} {k m s x p : Int} (h : fv_ok a tg ix k m vb s) (hs : 0 ≤ s) (h1 : ¬ tg s = 0 → x = dl a m.toNat) (h2 : tg s = 0 → ix s < 0 → x = 0) (h3 : tg s = 0 → 0 ≤ ix s → x = tw a m.toNat (ix s).toNat m.toNat) (hp : p = s + 1) : fv_ok a tg ix k m (hw_up vb (k * 24 + s) x) p := by
  subst hp
  refine h.elim fun _ h => ⟨(), fun t h4 h5 => ?_⟩
  by_cases e : t = s
  · subst e
    rw [hw_up_s]
    exact ⟨h1, h2, h3⟩
  · rw [hw_up_n (by omega)]
    exact h t h4 (by omega)
theorem fv_pv {fo go ab be fc po tg ze ix uk vb : Int → Int} {k n m : Int} (hc : cs_ok fo go ab be fc po k n) (hx : ix_ok tg ze k ix uk n m) (hn : 0 ≤ n ∧ n ≤ 24) (ht : vt_ok (vm fo go ab be fc po tg ix uk k m) m) (h : fv_ok (vm fo go ab be fc po tg ix uk k m) tg ix k m vb n) (hD : vb (48 + k) = dl (vm fo go ab be fc po tg ix uk k m) m.toNat) : pv_ok n.toNat (uS tg ze k n) (fun s => ¬ tg s = 0) (fun s => qS fo go ab be (cS fc po k s)) (fun s => Lq fo be (cS fc po k s)) (vb (48 + k)) (fun s => vb (k * 24 + s)) ∧ ∀ t : Int, 0 ≤ t → t < n → vb (k * 24 + t) ≤ vb (48 + k) := by
  have hx1 := hx.elim fun _ h => h.1
  obtain ⟨M, rfl⟩ := Int.eq_ofNat_of_zero_le hx1.1
  rw [Int.toNat_natCast] at hD
  have h0 := vt_t ht (E := M) (Nat.le_refl M)
  have hd := h0.2.1.1 M (Nat.le_refl M)
  have hz : ∀ t : Int, 0 ≤ t → t < n → (tg t = 0 → ze (k * 24 + t) = 0 → 0 ≤ ix t ∧ ix t < M ∧ uk (ix t) = t) ∧ (¬ (tg t = 0 ∧ ze (k * 24 + t) = 0) → ix t = -1) := hx.elim fun _ h => h.2.2
  have hv : ∀ t : Int, 0 ≤ t → t < n → vb (k * 24 + t) = if tg t = 0 then (if ix t < 0 then 0 else tw (vm fo go ab be fc po tg ix uk k M) M (ix t).toNat M) else dl (vm fo go ab be fc po tg ix uk k M) M := fun t h1 h2 => by
    have h3 := h.elim fun _ h => h t h1 h2
    rw [Int.toNat_natCast] at h3
    by_cases e1 : tg t = 0
    · rw [if_pos e1]
      by_cases e2 : ix t < 0
      · rw [if_pos e2]; exact h3.2.1 e1 e2
      · rw [if_neg e2]; exact h3.2.2 e1 (by omega)
    · rw [if_neg e1]; exact h3.1 e1
  refine ⟨⟨by rw [hD]; exact hd, fun s hs => ⟨fun hu => ?_, fun hu => ⟨fun t => ?_, fun t => ?_⟩⟩⟩, fun t h1 h2 => ?_⟩
  · have hxs := (hz s (by omega) (by omega)).1 hu.2.1 hu.2.2
    obtain ⟨i, hi⟩ := Int.eq_ofNat_of_zero_le hxs.1
    have hiM : i < M := by omega
    have e1 : uk i = s := by rw [← hi]; exact hxs.2.2
    have hch : ch_ok fo go ab be n (cS fc po k s) := cs_e hc (s := s) (by omega) hu.1
    have e2 : vb (k * 24 + s) = Dl (vm fo go ab be fc po tg ix uk k M) M (un i) M := by
      rw [hv s (by omega) (by omega), if_pos hu.2.1, if_neg (by omega), hi, Int.toNat_natCast, tw_u (Nat.le_refl M) hiM]
    have e3 : cS fc po k s = vc fc po uk k i := by
      show fc s + po (k * 24 + s) = fc (uk i) + po (k * 24 + uk i)
      rw [e1]
    dsimp only
    rw [e2, e3]
    rw [e3] at hch
    have e8 := mx_sol (L := fun i : Nat => Lq fo be (vc fc po uk k i)) (wt := fun i j => vw fo go ab be (kp tg ix M) (vc fc po uk k i) (nq fo (vc fc po uk k i)) j) (m := M) hiM
    refine Eq.trans e8 ?_
    show sm M (fun c => sm (nq fo (vc fc po uk k i)) (fun x => if kp tg ix M (go (fo (vc fc po uk k i) + x)) = c then hq fo ab be (vc fc po uk k i) x else 0) * Dl (vm fo go ab be fc po tg ix uk k M) M (un c) M) + sm (nq fo (vc fc po uk k i)) (fun x => if kp tg ix M (go (fo (vc fc po uk k i) + x)) = M then hq fo ab be (vc fc po uk k i) x else 0) * dl (vm fo go ab be fc po tg ix uk k M) M = sm n.toNat (fun t => sm (nq fo (vc fc po uk k i)) (fun x => if (go (fo (vc fc po uk k i) + x)).toNat = t then hq fo ab be (vc fc po uk k i) x else 0) * vb (k * 24 + t))
    rw [sm_fub (g := fun x => kp tg ix M (go (fo (vc fc po uk k i) + x))) (V := fun c => Dl (vm fo go ab be fc po tg ix uk k M) M (un c) M), sm_fub (g := fun x => (go (fo (vc fc po uk k i) + x)).toNat) (V := fun t => vb (k * 24 + t)), Int.mul_comm, ← sm_m]
    have e5 := sm_2 (n := nq fo (vc fc po uk k i)) (p := 1) (q := -1) (f := fun x => if kp tg ix M (go (fo (vc fc po uk k i) + x)) < M then hq fo ab be (vc fc po uk k i) x * Dl (vm fo go ab be fc po tg ix uk k M) M (un (kp tg ix M (go (fo (vc fc po uk k i) + x)))) M else 0) (g := fun x => dl (vm fo go ab be fc po tg ix uk k M) M * if kp tg ix M (go (fo (vc fc po uk k i) + x)) = M then hq fo ab be (vc fc po uk k i) x else 0)
    have e6 : ∀ A B C : Int, A = 1 * B - -1 * C → B + C = A := fun A B C h => by omega
    refine e6 _ _ _ (Eq.trans ?_ e5)
    refine sm_eq (fun x hxx => ?_)
    have hgx := hch.elim fun _ h => (h.2.2.2.1 x hxx).1
    have e7 : ((go (fo (vc fc po uk k i) + x)).toNat : Int) = go (fo (vc fc po uk k i) + x) := by omega
    rw [if_pos (by omega : (go (fo (vc fc po uk k i) + x)).toNat < n.toNat), e7, hv _ hgx.1 hgx.2]
    generalize go (fo (vc fc po uk k i) + x) = t at *
    have hxt := ix_t hx hgx.1 hgx.2
    by_cases f1 : tg t = 0
    · by_cases f2 : ix t < 0
      · have f3 : kp tg ix M t = M + 1 := by unfold kp; rw [if_pos f1, if_pos f2]; omega
        rw [if_pos f1, if_pos f2, if_neg (by omega), if_neg (by omega)]
        omega
      · have f3 : kp tg ix M t = (ix t).toNat := by unfold kp; rw [if_pos f1, if_neg f2]
        rw [if_pos f1, if_neg f2, if_pos (by omega), if_neg (by omega), f3, tw_u (Nat.le_refl M) (by omega)]
        omega
    · have f3 : kp tg ix M t = M := by unfold kp; rw [if_neg f1]; omega
      rw [if_neg f1, if_neg (by omega), if_pos f3]
      grind
  · dsimp only
    rw [hv s (by omega) (by omega), if_neg t, hD]
  · dsimp only at t ⊢
    have t2 : tg s = 0 := by
      by_cases q : tg s = 0
      · exact q
      · exact absurd q t
    have t3 := (hz s (by omega) (by omega)).2 (fun q => hu ⟨by omega, q.1, q.2⟩)
    rw [hv s (by omega) (by omega), if_pos t2, if_pos (by omega)]
  · rw [hv t h1 h2, hD]
    by_cases f1 : tg t = 0
    · rw [if_pos f1]
      by_cases f2 : ix t < 0
      · rw [if_pos f2]; omega
      · rw [if_neg f2]
        have h5 := ix_t hx h1 h2
        have h6 := tw_le h0.2.1 (Nat.le_refl M) (by omega) h0.2.2 (i := (ix t).toNat) (j := M) (by omega) (by omega) (by omega)
        rw [td_u (by omega)] at h6
        exact h6
    · rw [if_neg f1]; exact Int.le_refl _
end C5j
