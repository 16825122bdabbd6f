/-! the model: steps of a chain over a common denominator -/
section C83
/-- the common denominator of the first t chosen choices -/
def alq (fo be fc po : Int → Int) (k : Int) : Nat → Int
  | 0 => 1
  | t + 1 => alq fo be fc po k t * (Lq fo be (fc t + po (k * 24 + t)) / gd (alq fo be fc po k t) (Lq fo be (fc t + po (k * 24 + t))))
def al_ok (fo be fc po : Int → Int) (k ns : Int) : Prop := ∃ _ : Unit, ∀ t : Nat, (t : Int) ≤ ns → 1 ≤ alq fo be fc po k t ∧ alq fo be fc po k t < wB 50
def aw_ok (fo be fc : Int → Int) (ns ex : Int) : Prop := ∃ _ : Unit, ¬ ex = 0 → ∀ (k : Int) (po : Int → Int), po_ok fc po k ns → al_ok fo be fc po k ns
theorem lc_q {x y : Int} (hx : 1 ≤ x) (hy : 1 ≤ y) : x * (y / gd x y) = lcmI x y := by
  obtain ⟨p, rfl⟩ := Int.eq_ofNat_of_zero_le (show 0 ≤ x by omega)
  obtain ⟨q, rfl⟩ := Int.eq_ofNat_of_zero_le (show 0 ≤ y by omega)
  unfold lcmI
  rw [gd_n, ← Int.natCast_ediv, ← Int.natCast_mul, Int.toNat_natCast, Int.toNat_natCast, lc_m]
/-- chosen choices have a common denominator below 2 to the 800 -/
theorem al_i {cd gu up ov un st cm ca fo go ab be fc po va : Int → Int} {cs cn x vn ns k : Int} (hp : ps_ok cd gu up ov un st cm ca cs cn x) (hx : x = 1492 - 4 * vn) (hcn : 0 ≤ cn) (hvn : 0 ≤ vn) (hm : mo_ok fo go ab be fc ns) (hc : cw_ok fo go ab be fc up ov un st ca cn ns) (hd : dr_ok va vn ns) (hpo : po_ok fc po k ns) : al_ok fo be fc po k ns := by
  have hn := mo_n hm
  have ch : ∀ t : Nat, (t : Int) < ns → ch_ok fo go ab be ns (fc t + po (k * 24 + t)) := fun t ht => by
    have q := po_e hpo (s := t) (by omega) ht
    exact mo_c hm (by omega) ht (by omega) q.2
  have cx : ∀ t : Nat, (t : Int) < ns → cx_ok fo go ab be up ov un st ca cn ns (fc t + po (k * 24 + t)) := fun t ht => by
    have q := po_e hpo (s := t) (by omega) ht
    exact hc.elim fun _ hc => hc t _ (by omega) ht (by omega) q.2
  by_cases v0 : vn = 0
  · -- one state alone
    have n1 : ns ≤ 1 := by
      rcases Int.lt_or_le 1 ns with r | r
      · obtain ⟨v, a1, a2, _⟩ := hd.elim fun _ hd => hd 0 1 (by decide) (by decide) r
        omega
      · exact r
    refine ⟨(), fun t ht => ?_⟩
    have w1 : (1 : Int) < wB 50 := by
      show (1 : Int) < 65536 ^ 50
      decide
    have c : t = 0 ∨ t = 1 := by omega
    rcases c with c | c <;> subst c
    · exact ⟨Int.le_refl 1, w1⟩
    · have l := ch_L (ch 0 (by omega))
      show 1 ≤ 1 * _ ∧ 1 * _ < _
      have e : gd 1 (Lq fo be (fc ((0 : Nat) : Int) + po (k * 24 + ((0 : Nat) : Int)))) = 1 := by
        have a := gd_pos (a := 1) (b := Lq fo be (fc ((0 : Nat) : Int) + po (k * 24 + ((0 : Nat) : Int)))) (by decide)
        have b := gd_le (a := 1) (b := Lq fo be (fc ((0 : Nat) : Int) + po (k * 24 + ((0 : Nat) : Int)))) (by decide)
        omega
      have e2 : alq fo be fc po k 0 = 1 := rfl
      rw [e2, e, Int.ediv_one, Int.one_mul]
      have w6 := wB_le (show 6 ≤ 50 by omega)
      exact ⟨l.1, Int.lt_of_lt_of_le l.2 w6⟩
  · -- the commands
    have ch2 : ∀ i : Nat, ∃ q : Nat × Nat × Nat, i < cn.toNat → kb_ok (lA ov un st ((i : Int) * 6) (up i).toNat) (up i).toNat q.1 q.2.1 q.2.2 (cw up un st ca i) (if ca i < 0 then 2 else 0) := fun i => by
      by_cases hi : i < cn.toNat
      · obtain ⟨J, B, e, h⟩ := kb_i (ps_c hp (k := i) (by omega) (by omega))
        exact ⟨(J, B, e), fun _ => h⟩
      · exact ⟨(0, 0, 0), fun h => absurd h hi⟩
    obtain ⟨f, hf⟩ := Classical.axiomOfChoice ch2
    have cw0 : ∀ i : Nat, i < cn.toNat → 0 ≤ cw up un st ca i := fun i hi => by
      unfold cw
      split
      · exact Int.le_refl _
      · have u0 : ∀ (b : Int) (m : Nat), 0 ≤ us un st b m := fun b m => by
          induction m with
          | zero => exact Int.le_refl _
          | succ m ih =>
            have c1 := cc_b (un (b + m))
            have c2 := ut_6 st (b + m)
            show 0 ≤ us un st b m + (cc (un (b + m)) + 2 + ut st (b + m))
            omega
        have := u0 (i * 6) (up i).toNat
        split <;> omega
    have hk : ka_ok ov un st up ca cn.toNat (fun i => (f i).1) (fun i => (f i).2.1) (fun i => (f i).2.2) (fun i => cw up un st ca i) := fun i hi => by
      refine ⟨hf i hi, cw0 i hi, ?_⟩
      have := (ps_c hp (k := i) (by omega) (by omega)).2.1
      omega
    have hw : sm cn.toNat (fun i => cw up un st ca i) ≤ 1488 := by
      have := hp.elim fun _ h => h.2
      omega
    have ecn : ((cn.toNat : Nat) : Int) = cn := by omega
    have key : ∀ t : Nat, (t : Int) ≤ ns → 1 ≤ alq fo be fc po k t ∧ ra_ok cn.toNat (fun i => (up i).toNat) (fun i => (f i).1) (fun i => (f i).2.1) (fun i => (f i).2.2) (fun i => cw up un st ca i) t (alq fo be fc po k t) := fun t => by
      induction t with
      | zero => exact fun _ => ⟨Int.le_refl 1, ra_0⟩
      | succ t ih =>
        intro ht
        obtain ⟨i1, i2⟩ := ih (by omega)
        have l := (ch_L (ch t (by omega))).1
        obtain ⟨n, tk, a1, a2, a3, a4⟩ := (cx t (by omega)).elim fun _ q => q.2
        have e : alq fo be fc po k (t + 1) = lcmI (alq fo be fc po k t) (Lq fo be (fc t + po (k * 24 + t))) := lc_q i1 l
        rw [e]
        refine ⟨(lcmI_p i1 l).1, ra_s hk i2 a1 ?_ a3 a4 i1 l⟩
        rw [ecn]; exact a2
    refine ⟨(), fun t ht => ?_⟩
    have z := key t ht
    exact ⟨z.1, ra_b hk z.2 (by omega) hw z.1⟩
theorem al_e {fo be fc po : Int → Int} {k ns t : Int} (h : al_ok fo be fc po k ns) (h0 : 0 ≤ t) (h1 : t ≤ ns) : 1 ≤ alq fo be fc po k t.toNat ∧ alq fo be fc po k t.toNat < wB 50 := h.elim fun _ h => h t.toNat (by omega)
theorem al_d {fo go ab be fc po : Int → Int} {k ns : Int} (hm : mo_ok fo go ab be fc ns) (hpo : po_ok fc po k ns) (h : al_ok fo be fc po k ns) {n s : Nat} (hn : (n : Int) ≤ ns) (hs : s < n) : Lq fo be (fc s + po (k * 24 + s)) ∣ alq fo be fc po k n := by
  induction n with
  | zero => exact absurd hs (Nat.not_lt_zero s)
  | succ n ih =>
    have i1 := (h.elim fun _ h => h n (by omega)).1
    have q := po_e hpo (s := n) (by omega) (by omega)
    have l := (ch_L (mo_c hm (by omega) (by omega) (by omega) q.2 : ch_ok fo go ab be ns (fc n + po (k * 24 + n)))).1
    have e : alq fo be fc po k (n + 1) = lcmI (alq fo be fc po k n) (Lq fo be (fc n + po (k * 24 + n))) := lc_q i1 l
    rw [e]
    have p := lcmI_p i1 l
    by_cases c : s = n
    · subst c; exact p.2.2
    · exact Int.dvd_trans (ih (by omega) (by omega)) p.2.1
def fl_k (va vb : Int → Int) : Prop := ∃ _ : Unit, ∀ q : Int, q < 722 → vb q = va q
theorem fl_0 {va : Int → Int} : fl_k va va := ⟨(), fun _ _ => rfl⟩
theorem fl_u {va vb : Int → Int} {k x : Int} (h : fl_k va vb) (hk : 722 ≤ k) : fl_k va (hw_up vb k x) := h.elim fun _ h => ⟨(), fun q hq => (hw_up_n (by omega)).trans (h q hq)⟩
theorem fl_f {va vb vc : Int → Int} {p q : Int} (h1 : fr p q vb vc) (h : fl_k va vb) (hp : 722 ≤ p) : fl_k va vc := h.elim fun _ h => h1.elim fun _ h1 => ⟨(), fun k hk => (h1 k (by omega)).trans (h k hk)⟩
theorem fl_c {va vb vc : Int → Int} (h1 : cm_fr vb vc) (h : fl_k va vb) : fl_k va vc := h.elim fun _ h => h1.elim fun _ h1 => ⟨(), fun k hk => (h1 k (by omega)).trans (h k hk)⟩
theorem fl_l {va vb vc : Int → Int} (h1 : lo_fr vb vc 790 791) (h : fl_k va vb) : fl_k va vc := h.elim fun _ h => h1.elim fun _ h1 => ⟨(), fun k hk => (h1 k (by omega) (by omega) (by omega)).trans (h k hk)⟩
theorem alq_0 {fo be fc po : Int → Int} {k x t : Int} (hx : x = 1) (ht : t = 0) : x = alq fo be fc po k t.toNat := by
  subst ht
  exact hx
theorem alq_s {fo be fc po : Int → Int} {k t x y g z p : Int} (hx : x = alq fo be fc po k t.toNat) (hy : y = Lq fo be (fc t + po (k * 24 + t))) (hg : g = gd x y) (hz : z = x * (y / g)) (h0 : 0 ≤ t) (hp : p = t + 1) : z = alq fo be fc po k p.toNat := by
  have e : p.toNat = t.toNat + 1 := by omega
  have et : ((t.toNat : Nat) : Int) = t := by omega
  rw [e]
  show z = alq fo be fc po k t.toNat * (Lq fo be (fc ((t.toNat : Nat) : Int) + po (k * 24 + ((t.toNat : Nat) : Int))) / gd (alq fo be fc po k t.toNat) (Lq fo be (fc ((t.toNat : Nat) : Int) + po (k * 24 + ((t.toNat : Nat) : Int)))))
  rw [et, ← hx, ← hy, ← hg]
  exact hz
theorem alq_t {fo be fc po : Int → Int} {k t ns x : Int} (h : x = alq fo be fc po k t.toNat) (ht : ns = t) : x = alq fo be fc po k ns.toNat := ht ▸ h
/-- powers -/
def pwl (A j W : Int) : Prop := ∃ k : Nat, j = k ∧ W = A ^ k
theorem pwl_0 {A j W : Int} (hj : j = 0) (hW : W = 1) : pwl A j W := ⟨0, hj, by rw [hW, Int.pow_zero]⟩
theorem pwl_s {A B j W p V : Int} (h : pwl A j W) (hp : p = j + 1) (hV : V = W * A) (hB : B = A) : pwl B p V := by
  subst hB
  obtain ⟨k, h1, h2⟩ := h
  exact ⟨k + 1, by omega, by rw [hV, h2, Int.pow_succ]⟩
theorem pwl_n {A : Int} (h1 : 1 ≤ A) (h2 : A < wB 50) (k : Nat) : 1 ≤ A ^ k ∧ A ^ k < wB (50 * k + 1) := by
  induction k with
  | zero =>
    rw [Int.pow_zero]
    refine ⟨by decide, ?_⟩
    show (1 : Int) < 65536 ^ 1
    decide
  | succ k ih =>
    rw [Int.pow_succ]
    have z := wB_mul (m := 50 * k + 1) (n := 50) (by omega) (by omega) ih.2 h2
    have y := Int.mul_pos (show 0 < A ^ k by omega) (show 0 < A by omega)
    rw [show 50 * (k + 1) + 1 = 50 * k + 1 + 50 by omega]
    exact ⟨by omega, z⟩
theorem pwl_k {A : Int} (h1 : 1 ≤ A) (h2 : A < wB 50) (k : Nat) (hk : 1 ≤ k) : A ^ k < wB (50 * k) := by
  obtain ⟨m, rfl⟩ : ∃ m, k = m + 1 := ⟨k - 1, by omega⟩
  clear hk
  induction m with
  | zero =>
    rw [Int.pow_succ, Int.pow_zero, Int.one_mul]
    exact h2
  | succ m ih =>
    rw [Int.pow_succ]
    have p := pwl_n h1 h2 (m + 1)
    have z := wB_mul (m := 50 * (m + 1)) (n := 50) (by omega) (by omega) ih h2
    rw [show 50 * (m + 1 + 1) = 50 * (m + 1) + 50 by omega]
    exact z
theorem pwl_b {A j W : Int} (h : pwl A j W) (h1 : 1 ≤ A) (h2 : A < wB 50) (hj : j ≤ 12) : 1 ≤ W ∧ W < wB 600 ∧ (j ≤ 11 → W < wB 550 ∧ A * W < wB 600) := by
  obtain ⟨k, e1, e2⟩ := h
  subst e2
  have p := (pwl_n h1 h2 k).1
  have up : A ^ k < wB 600 := by
    by_cases c : k = 0
    · subst c
      rw [Int.pow_zero]
      show (1 : Int) < 65536 ^ 600
      exact Int.lt_of_lt_of_le (show (1 : Int) < 65536 ^ 1 by decide) (wp_le (by decide))
    · exact Int.lt_of_lt_of_le (pwl_k h1 h2 k (by omega)) (wB_le (by omega))
  refine ⟨p, up, fun hj2 => ?_⟩
  have u2 : A ^ k < wB 550 := by
    by_cases c : k = 0
    · subst c
      rw [Int.pow_zero]
      show (1 : Int) < 65536 ^ 550
      exact Int.lt_of_lt_of_le (show (1 : Int) < 65536 ^ 1 by decide) (wp_le (by decide))
    · exact Int.lt_of_lt_of_le (pwl_k h1 h2 k (by omega)) (wB_le (by omega))
  exact ⟨u2, wB_mul (m := 50) (n := 550) (by omega) (by omega) h2 u2⟩
/-- values of a step: none above W -/
def nbk (b : Int) (vb : Int → Int) (t W : Int) : Prop := ∃ _ : Unit, ∀ i : Int, 0 ≤ i → i < t → vb (b + i) ≤ W
theorem nbk_0 {b : Int} {vb : Int → Int} {W : Int} : nbk b vb 0 W := ⟨(), fun i h1 h2 => absurd h1 (by omega)⟩
theorem nbk_e {b : Int} {vb : Int → Int} {t W i : Int} (h : nbk b vb t W) (h0 : 0 ≤ i) (h1 : i < t) : vb (b + i) ≤ W := h.elim fun _ h => h i h0 h1
theorem nbk_s {b : Int} {vb vc : Int → Int} {t W V p : Int} (h : nbk b vb t W) (hk : ∀ i : Int, 0 ≤ i → i < t → vc (b + i) = vb (b + i)) (hx : vc (b + t) ≤ V) (hV : V = W) (hp : p = t + 1) : nbk b vc p V := h.elim fun _ h => ⟨(), fun i h1 h2 => by
  by_cases e : i = t
  · rw [e]; exact hx
  · rw [hk i h1 (by omega), hV]; exact h i h1 (by omega)⟩
theorem nbk_k {b : Int} {vb vc : Int → Int} {t W V : Int} (h : nbk b vb t W) (hk : ∀ i : Int, 0 ≤ i → i < t → vc (b + i) = vb (b + i)) (hV : V = W) : nbk b vc t V := h.elim fun _ h => ⟨(), fun i h1 h2 => by rw [hk i h1 h2, hV]; exact h i h1 h2⟩
/-- a step's sum so far -/
def wik (fo go ab be V : Int → Int) (c o X A : Int) : Prop := ∃ x : Nat, o = fo c + x ∧ X = sm x (fun x => A / bw be ((fo c + x) * 20) * bw ab ((fo c + x) * 20) * V (go (fo c + x)))
theorem wik_0 {fo go ab be V : Int → Int} {c o X A : Int} (ho : o = fo c) (hX : X = 0) : wik fo go ab be V c o X A := ⟨0, by omega, hX⟩
theorem wik_s {fo go ab be V U : Int → Int} {c o X A B Y p : Int} (h : wik fo go ab be V c o X A) (hU : ∀ t : Int, 0 ≤ t → t < 24 → U t = V t) (hg : ∀ q : Int, fo c ≤ q → q < o → 0 ≤ go q ∧ go q < 24) (hY : Y = X + A / bw be (o * 20) * bw ab (o * 20) * V (go o)) (hp : p = o + 1) (hgo : 0 ≤ go o ∧ go o < 24) (hB : B = A) : wik fo go ab be U c p Y B := by
  rw [hB]
  obtain ⟨x, h1, h2⟩ := h
  subst h1
  refine ⟨x + 1, by omega, ?_⟩
  rw [sm_s, hY, h2, hU _ hgo.1 hgo.2]
  have e : sm x (fun x => A / bw be ((fo c + x) * 20) * bw ab ((fo c + x) * 20) * V (go (fo c + x))) = sm x (fun x => A / bw be ((fo c + x) * 20) * bw ab ((fo c + x) * 20) * U (go (fo c + x))) := sm_eq (fun y hy => by
    have g := hg (fo c + y) (by omega) (by omega)
    rw [hU _ g.1 g.2])
  rw [e]
theorem wik_b {fo go ab be V : Int → Int} {ns c o X A W : Int} (h : wik fo go ab be V c o X A) (hc : ch_ok fo go ab be ns c) (hA : 1 ≤ A) (hL : Lq fo be c ∣ A) (ho : o ≤ fo (c + 1)) (hV : ∀ t : Int, 0 ≤ t → t < ns → 0 ≤ V t ∧ V t ≤ W) (hW : 0 ≤ W) : X ≤ A * W ∧ 0 ≤ X ∧ (o < fo (c + 1) → (1 ≤ bw be (o * 20) ∧ bw be (o * 20) < wB 6) ∧ (0 ≤ A / bw be (o * 20) * bw ab (o * 20) ∧ A / bw be (o * 20) * bw ab (o * 20) ≤ A) ∧ (0 ≤ go o ∧ go o < ns) ∧ X + A / bw be (o * 20) * bw ab (o * 20) * V (go o) ≤ A * W ∧ 0 ≤ A / bw be (o * 20) * bw ab (o * 20) * V (go o)) := by
  obtain ⟨x, h1, h2⟩ := h
  obtain ⟨m, hm⟩ := hL
  have l := ch_L hc
  have m1 : 0 < m := by
    rcases Int.lt_or_le 0 m with r | r
    · exact r
    · have := Int.mul_nonpos_of_nonneg_of_nonpos (show 0 ≤ Lq fo be c by omega) r
      omega
  have hl := ch_l hc
  have hb : ∀ y : Nat, y < nq fo c → (1 ≤ bw be ((fo c + y) * 20) ∧ bw be ((fo c + y) * 20) < wB 6) := fun y hy => by
    unfold nq at hy
    exact (hl.elim fun _ hl => hl y (by omega)).2.2 (by omega)
  have bL : ∀ y : Nat, y < nq fo c → bw be ((fo c + y) * 20) ∣ Lq fo be c := fun y hy => by
    have key : ∀ n : Nat, n ≤ nq fo c → y < n → bw be ((fo c + y) * 20) ∣ lcr be (fo c) n := fun n => by
      induction n with
      | zero => exact fun _ h => absurd h (Nat.not_lt_zero y)
      | succ n ih =>
        intro hn hy2
        have b := hb n (by omega)
        have p := (hl.elim fun _ hl => hl n (by unfold nq at hn; omega)).2.1
        have e : lcr be (fo c) (n + 1) = lcmI (lcr be (fo c) n) (bw be ((fo c + n) * 20)) := lc_q p b.1
        rw [e]
        have q := lcmI_p p b.1
        by_cases z : y = n
        · subst z; exact q.2.2
        · exact Int.dvd_trans (ih (by omega) (by omega)) q.2.1
    exact key (nq fo c) (Nat.le_refl _) hy
  have eq : ∀ y : Nat, y < nq fo c → A / bw be ((fo c + y) * 20) * bw ab ((fo c + y) * 20) = m * hq fo ab be c y := fun y hy => by
    obtain ⟨k, hk⟩ := bL y hy
    have z := hb y hy
    have e1 : Lq fo be c / bw be ((fo c + y) * 20) = k := by
      refine (congrArg (fun t => t / bw be ((fo c + y) * 20)) hk).trans ?_
      exact Int.mul_ediv_cancel_left _ (by omega)
    have e2 : A = bw be ((fo c + y) * 20) * (k * m) := by
      rw [← Int.mul_assoc, ← hk]; exact hm
    have e3 : A / bw be ((fo c + y) * 20) = k * m := by
      refine (congrArg (fun t => t / bw be ((fo c + y) * 20)) e2).trans ?_
      exact Int.mul_ediv_cancel_left _ (by omega)
    unfold hq
    rw [e3, e1, Int.mul_comm k m, Int.mul_assoc]
  have sb : ∀ n : Nat, n ≤ nq fo c → 0 ≤ sm n (fun x => A / bw be ((fo c + x) * 20) * bw ab ((fo c + x) * 20) * V (go (fo c + x))) ∧ sm n (fun x => A / bw be ((fo c + x) * 20) * bw ab ((fo c + x) * 20) * V (go (fo c + x))) ≤ A * W := fun n hn => by
    have e : sm n (fun x => A / bw be ((fo c + x) * 20) * bw ab ((fo c + x) * 20) * V (go (fo c + x))) = m * sm n (fun x => hq fo ab be c x * V (go (fo c + x))) := by
      rw [← sm_m]
      exact sm_eq (fun y hy => by rw [eq y (by omega), Int.mul_assoc])
    have g : ∀ y : Nat, y < n → 0 ≤ go (fo c + y) ∧ go (fo c + y) < ns := fun y hy => by
      unfold nq at hn
      have q := ch_o hc (o := fo c + y) (by omega) (by omega)
      exact ⟨q.1, q.2.1⟩
    have b1 := sm_bd (n := n) (f := hq fo ab be c) (v := fun x => V (go (fo c + x))) (W := W) (fun y hy => ch_h hc (by omega)) (fun y hy => (hV _ (g y hy).1 (g y hy).2).2)
    have b2 := sm_mono (n := nq fo c) (k := n) (f := hq fo ab be c) hn (fun y hy => ch_h hc hy)
    rw [ch_s hc] at b2
    have b3 : sm n (hq fo ab be c) * W ≤ Lq fo be c * W := Int.mul_le_mul_of_nonneg_right b2 hW
    have b4 : m * sm n (fun x => hq fo ab be c x * V (go (fo c + x))) ≤ m * (Lq fo be c * W) := Int.mul_le_mul_of_nonneg_left (by omega) (by omega)
    have b5 : 0 ≤ sm n (fun x => hq fo ab be c x * V (go (fo c + x))) := sm_nn (fun y hy => Int.mul_nonneg (ch_h hc (by omega)) (hV _ (g y hy).1 (g y hy).2).1)
    rw [e]
    refine ⟨Int.mul_nonneg (by omega) b5, Int.le_trans b4 (Int.le_of_eq ?_)⟩
    rw [hm, Int.mul_comm m, Int.mul_assoc, Int.mul_comm W m, ← Int.mul_assoc]
  have hx : x ≤ nq fo c := by
    unfold nq
    omega
  have s0 := sb x hx
  rw [← h2] at s0
  refine ⟨s0.2, s0.1, fun ho2 => ?_⟩
  have hx2 : x < nq fo c := by
    unfold nq
    omega
  have s1 := sb (x + 1) (by omega)
  rw [sm_s, ← h2] at s1
  have q := ch_o hc (o := fo c + x) (by omega) (by omega)
  rw [h1]
  have hh := ch_h hc hx2
  have le : hq fo ab be c x ≤ Lq fo be c := by
    rw [← ch_s hc]
    exact sm_ge hx2 (fun y hy => ch_h hc hy)
  have e := eq x hx2
  have c1 : 0 ≤ m * hq fo ab be c x := Int.mul_nonneg (by omega) hh
  have c2 : m * hq fo ab be c x ≤ m * Lq fo be c := Int.mul_le_mul_of_nonneg_left le (by omega)
  rw [Int.mul_comm m (Lq fo be c), ← hm] at c2
  have vv := hV _ q.1 q.2.1
  exact ⟨hb x hx2, ⟨by omega, by omega⟩, ⟨q.1, q.2.1⟩, s1.2, Int.mul_nonneg (by omega) vv.1⟩
end C83
