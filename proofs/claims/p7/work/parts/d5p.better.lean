/-! the model: better policies, none comes again -/
section C5p
variable {fo go ab be fc tg ze : Int → Int} {k n x : Int}
/-- the worth of a choice by values -/
def wS (fo go ab be : Int → Int) (k : Int) (vb : Int → Int) (c : Int) : Int := sm (nq fo c) (fun y => hq fo ab be c y * vb (k * 24 + go (fo c + y)))
theorem wS_q {vb : Int → Int} {c : Int} (h : ch_ok fo go ab be n c) : wS fo go ab be k vb c = sm n.toNat (fun t => qS fo go ab be c t * vb (k * 24 + t)) := by
  have e := sm_fub (n := n.toNat) (k := nq fo c) (g := fun y => (go (fo c + y)).toNat) (h := hq fo ab be c) (V := fun t => vb (k * 24 + t))
  refine Eq.trans ?_ e.symm
  refine sm_eq (fun y hy => ?_)
  have h1 := h.elim fun _ h => (h.2.2.2.1 y hy).1
  have e1 : (((go (fo c + y)).toNat : Nat) : Int) = go (fo c + y) := by omega
  rw [if_pos (by omega), e1]
theorem wS_k {va vb : Int → Int} {c : Int} (h : ch_ok fo go ab be n c) (hk : ∀ t : Int, 0 ≤ t → t < n → vb (k * 24 + t) = va (k * 24 + t)) : wS fo go ab be k vb c = wS fo go ab be k va c := sm_eq (fun y hy => by
  have h1 := h.elim fun _ h => (h.2.2.2.1 y hy).1
  rw [hk _ h1.1 h1.2])
/-- a policy as a number -/
def cdr (f : Nat → Nat) : Nat → Nat
  | 0 => 0
  | m + 1 => cdr f m * 256 + f m
theorem cdr_lt {f : Nat → Nat} {m : Nat} (h : ∀ s, s < m → f s < 256) : cdr f m < 256 ^ m := by
  induction m with
  | zero => exact Nat.lt_succ_self 0
  | succ m ih =>
    have h1 := ih (fun s hs => h s (by omega))
    have h2 := h m (Nat.lt_succ_self m)
    show cdr f m * 256 + f m < 256 ^ (m + 1)
    rw [Nat.pow_succ]
    omega
theorem cdr_in {f g : Nat → Nat} {m : Nat} (hf : ∀ s, s < m → f s < 256) (hg : ∀ s, s < m → g s < 256) (h : cdr f m = cdr g m) : ∀ s, s < m → f s = g s := by
  induction m with
  | zero => intro s hs; exact absurd hs (Nat.not_lt_zero s)
  | succ m ih =>
    have h1 := hf m (Nat.lt_succ_self m)
    have h2 := hg m (Nat.lt_succ_self m)
    have h3 : cdr f m * 256 + f m = cdr g m * 256 + g m := h
    have h4 : cdr f m = cdr g m := by omega
    intro s hs
    by_cases e : s = m
    · subst e; omega
    · exact ih (fun s hs => hf s (by omega)) (fun s hs => hg s (by omega)) h4 s (by omega)
abbrev pvp (fo go ab be fc tg ze : Int → Int) (k n : Int) (po : Int → Int) (D : Int) (V : Nat → Int) : Prop := pv_ok n.toNat (uS tg ze k n) (fun s => ¬ tg s = 0) (fun s => qS fo go ab be (cS fc po k s)) (fun s => Lq fo be (cS fc po k s)) D V
abbrev ppp (fo go ab be fc tg ze : Int → Int) (k n : Int) (po : Int → Int) : Prop := pp_ok n.toNat (uS tg ze k n) (fun s => qS fo go ab be (cS fc po k s))
theorem pvp_c {p q : Int → Int} {D : Int} {V : Nat → Int} (h : pvp fo go ab be fc tg ze k n p D V) (he : ∀ s : Nat, (s : Int) < n → p (k * 24 + s) = q (k * 24 + s)) : pvp fo go ab be fc tg ze k n q D V := ⟨h.1, fun s hs => ⟨fun hu => by
  have h1 := (h.2 s hs).1 hu
  dsimp only at h1 ⊢
  have e : cS fc q k s = cS fc p k s := by
    show fc s + q (k * 24 + s) = fc s + p (k * 24 + s)
    rw [he s hu.1]
  rw [e]
  exact h1, (h.2 s hs).2⟩⟩
/-- policies seen before, all worse than this one -/
def fd_ok (fo go ab be fc tg ze : Int → Int) (k n x : Int) (po : Int → Int) (cnt : Int) : Prop := ∃ l : List Nat, (l.length : Int) = cnt ∧ l.Nodup ∧ (∀ p, p ∈ l → p < 256 ^ 24) ∧ ∀ p, p ∈ l → ∃ (q : Int → Int) (D : Int) (V : Nat → Int), p = cdr (fun s => (q (k * 24 + s)).toNat) n.toNat ∧ po_ok fc q k n ∧ pvp fo go ab be fc tg ze k n q D V ∧ ∀ (C : Int) (W : Nat → Int), pvp fo go ab be fc tg ze k n po C W → 0 < x * (sm n.toNat W * D - sm n.toNat V * C)
theorem fd_0 {po : Int → Int} : fd_ok fo go ab be fc tg ze k n x po 0 := ⟨[], rfl, List.nodup_nil, fun p h => absurd h List.not_mem_nil, fun p h => absurd h List.not_mem_nil⟩
theorem fd_l {po : Int → Int} {cnt : Int} (h : fd_ok fo go ab be fc tg ze k n x po cnt) : 0 ≤ cnt ∧ cnt ≤ 6277101735386680763835789423207666416102355444464034512896 := by
  obtain ⟨l, h1, h2, h3, _⟩ := h
  have h4 := nd_le h2 h3
  have e : 256 ^ 24 = 6277101735386680763835789423207666416102355444464034512896 := by decide
  omega
/-- what is strictly better at a state -/
def st1 (fo go ab be fc : Int → Int) (k x : Int) (po vb : Int → Int) (t : Int) : Prop := 0 < x * (wS fo go ab be k vb (fc t + po (k * 24 + t)) - Lq fo be (fc t + po (k * 24 + t)) * vb (k * 24 + t))
theorem in_tr {x a b c p q r : Int} (hp : 0 < p) (hq : 0 < q) (hr : 0 < r) (h1 : 0 < x * (b * p - a * q)) (h2 : 0 < x * (c * q - b * r)) : 0 < x * (c * p - a * r) := by
  have h3 := Int.mul_pos h1 hr
  have h4 := Int.mul_pos h2 hp
  have e : q * (x * (c * p - a * r)) = x * (b * p - a * q) * r + x * (c * q - b * r) * p := by grind
  rcases Int.lt_or_le 0 (x * (c * p - a * r)) with s | s
  · exact s
  · have := in_pn (Int.le_of_lt hq) s
    omega
/-- a better policy: what it needs -/
def bt_ok (fo go ab be fc tg ze : Int → Int) (k n x : Int) (p q vb : Int → Int) : Prop := (∀ t : Int, 0 ≤ t → t < n → tg t = 0 → ze (k * 24 + t) = 0 → q (k * 24 + t) = p (k * 24 + t) ∨ st1 fo go ab be fc k x q vb t)
theorem bt_b {p q vb : Int → Int} {D : Int} (hm : mo_ok fo go ab be fc n) (hp : po_ok fc p k n) (hq : po_ok fc q k n) (hv : pvp fo go ab be fc tg ze k n p D (fun s => vb (k * 24 + s))) (hb : bt_ok fo go ab be fc tg ze k n x p q vb) : ∀ s : Nat, uS tg ze k n s → ((∀ t, t < n.toNat → qS fo go ab be (cS fc q k s) t = qS fo go ab be (cS fc p k s) t) ∧ Lq fo be (cS fc q k s) * vb (k * 24 + s) = sm n.toNat (fun t => qS fo go ab be (cS fc q k s) t * vb (k * 24 + t))) ∨ 0 < x * (sm n.toNat (fun t => qS fo go ab be (cS fc q k s) t * vb (k * 24 + t)) - Lq fo be (cS fc q k s) * vb (k * 24 + s)) := by
  intro s hs
  rcases hb s (by omega) hs.1 hs.2.1 hs.2.2 with h | h
  · have e : cS fc q k s = cS fc p k s := by
      show fc s + q (k * 24 + s) = fc s + p (k * 24 + s)
      rw [h]
    have h1 := (hv.2 s (by have := hs.1; omega)).1 hs
    refine Or.inl ⟨fun t _ => by rw [e], ?_⟩
    rw [e]
    exact h1
  · have h1 := po_e hq (s := s) (by omega) hs.1
    have h2 := mo_c hm (s := s) (c := fc s + q (k * 24 + s)) (by omega) hs.1 (by omega) (by omega)
    refine Or.inr ?_
    unfold st1 at h
    rw [wS_q h2] at h
    exact h
theorem bt_p {p q vb : Int → Int} {D : Int} (hm : mo_ok fo go ab be fc n) (hp : po_ok fc p k n) (hq : po_ok fc q k n) (hv : pvp fo go ab be fc tg ze k n p D (fun s => vb (k * 24 + s))) (hpp : ppp fo go ab be fc tg ze k n p) (hb : bt_ok fo go ab be fc tg ze k n 1 p q vb) : ppp fo go ab be fc tg ze k n q := by
  have h1 := bt_b hm hp hq hv hb
  refine pp_new (V := fun s => vb (k * 24 + s)) (qS_pr (po_cs hm hq) (mo_n hm).1) hpp (fun s hs => ?_)
  rcases h1 s hs with h2 | h2
  · exact Or.inl h2
  · refine Or.inr ?_
    skip
    omega
theorem bt_u {p q vb : Int → Int} {D C : Int} {W : Nat → Int} {t : Int} (hx : x = 1 ∨ x = -1) (hm : mo_ok fo go ab be fc n) (hp : po_ok fc p k n) (hq : po_ok fc q k n) (hv : pvp fo go ab be fc tg ze k n p D (fun s => vb (k * 24 + s))) (hpp : ppp fo go ab be fc tg ze k n q) (hb : bt_ok fo go ab be fc tg ze k n x p q vb) (ht : (0 ≤ t ∧ t < n) ∧ tg t = 0 ∧ ze (k * 24 + t) = 0 ∧ st1 fo go ab be fc k x q vb t) (hW : pvp fo go ab be fc tg ze k n q C W) : 0 < x * (sm n.toNat W * D - sm n.toNat (fun s => vb (k * 24 + s)) * C) := by
  have h1 := bt_b hm hp hq hv hb
  have h2 := pv_up (V := fun s => vb (k * 24 + s)) hx (qS_pr (po_cs hm hq) (mo_n hm).1) hpp hW.1 hv.1 (fun s hs hu => (hv.2 s hs).2 hu) hW (fun s hs => by
    rcases h1 s hs with h3 | h3
    · skip
      rw [h3.2, Int.sub_self, Int.mul_zero]
      exact Int.le_refl _
    · exact Int.le_of_lt h3)
  obtain ⟨i, rfl⟩ := Int.eq_ofNat_of_zero_le ht.1.1
  have h3 := po_e hq (s := i) (by omega) ht.1.2
  have h4 := mo_c hm (s := i) (c := fc i + q (k * 24 + i)) (by omega) ht.1.2 (by omega) (by omega)
  have h5 := ht.2.2.2
  unfold st1 at h5
  rw [wS_q h4] at h5
  exact pv_sum (s := i) (by have := ht.1.2; omega) (fun s hs => (h2 s hs).1) ((h2 i (by have := ht.1.2; omega)).2 ⟨ht.1.2, ht.2.1, ht.2.2.1⟩ h5)
theorem fd_s {p q vb : Int → Int} {D cnt t : Int} (hx : x = 1 ∨ x = -1) (hm : mo_ok fo go ab be fc n) (hp : po_ok fc p k n) (hq : po_ok fc q k n) (hv : pvp fo go ab be fc tg ze k n p D (fun s => vb (k * 24 + s))) (hpp : ppp fo go ab be fc tg ze k n q) (hb : bt_ok fo go ab be fc tg ze k n x p q vb) (ht : (0 ≤ t ∧ t < n) ∧ tg t = 0 ∧ ze (k * 24 + t) = 0 ∧ st1 fo go ab be fc k x q vb t) (h : fd_ok fo go ab be fc tg ze k n x p cnt) : fd_ok fo go ab be fc tg ze k n x q (cnt + 1) := by
  have hn := mo_n hm
  have small : ∀ r : Int → Int, po_ok fc r k n → ∀ s, s < n.toNat → (fun s : Nat => (r (k * 24 + s)).toNat) s < 256 := fun r hr s hs => by
    have h1 := po_e hr (s := s) (by omega) (by omega)
    have h2 := mo_f hm (s := s) (by omega) (by omega)
    dsimp only
    omega
  obtain ⟨l, h1, h2, h3, h4⟩ := h
  refine ⟨cdr (fun s => (p (k * 24 + s)).toNat) n.toNat :: l, by rw [List.length_cons]; omega, List.nodup_cons.mpr ⟨fun hmem => ?_, h2⟩, fun r hr => ?_, fun r hr => ?_⟩
  · obtain ⟨q1, D1, V1, e1, e2, e3, e4⟩ := h4 _ hmem
    have e5 := cdr_in (small p hp) (small q1 e2) e1
    have e6 := e4 D1 V1 (pvp_c e3 (fun s hs => by
      have b1 := e5 s (by omega)
      have b2 := po_e hp (s := s) (by omega) hs
      have b3 := po_e e2 (s := s) (by omega) hs
      skip
      omega))
    rw [Int.sub_self, Int.mul_zero] at e6
    exact absurd e6 (Int.lt_irrefl 0)
  · rcases List.mem_cons.mp hr with e | e
    · rw [e]
      exact Nat.lt_of_lt_of_le (cdr_lt (small p hp)) (Nat.pow_le_pow_right (by decide) (by omega))
    · exact h3 r e
  · rcases List.mem_cons.mp hr with e | e
    · exact ⟨p, D, _, e, hp, hv, fun C W hW => bt_u hx hm hp hq hv hpp hb ht hW⟩
    · obtain ⟨q1, D1, V1, e1, e2, e3, e4⟩ := h4 r e
      refine ⟨q1, D1, V1, e1, e2, e3, fun C W hW => ?_⟩
      exact in_tr e3.1 hv.1 hW.1 (e4 D _ hv) (bt_u hx hm hp hq hv hpp hb ht hW)
/-- how more is better is judged -/
def hx_ok (fo go ab be fc tg ze : Int → Int) (k n x : Int) : Prop := x = 1 ∨ (x = -1 ∧ ∀ po : Int → Int, po_ok fc po k n → ppp fo go ab be fc tg ze k n po)
/-- before a round: the policy leaves, and is new -/
def fz_ok (fo go ab be fc tg ze : Int → Int) (k n x : Int) (po vb : Int → Int) (h cnt : Int) : Prop := ∃ _ : Unit, po_ok fc po k n ∧ (h = 1 → ppp fo go ab be fc tg ze k n po ∧ fd_ok fo go ab be fc tg ze k n x po cnt) ∧ (h = 0 → vv_ok fo go ab be fc po tg ze k n vb)
/-- within a round -/
def sv_ok (fo go ab be fc tg ze : Int → Int) (k n x : Int) (po vb : Int → Int) (s h cnt : Int) : Prop := ∃ p : Int → Int, po_ok fc p k n ∧ po_ok fc po k n ∧ ppp fo go ab be fc tg ze k n p ∧ vv_ok fo go ab be fc p tg ze k n vb ∧ fd_ok fo go ab be fc tg ze k n x p cnt ∧ (h = 0 → po = p) ∧ (h = 1 → ∃ t : Int, (0 ≤ t ∧ t < n) ∧ tg t = 0 ∧ ze (k * 24 + t) = 0 ∧ st1 fo go ab be fc k x po vb t) ∧ bt_ok fo go ab be fc tg ze k n x p po vb ∧ ∀ t : Int, s ≤ t → t < n → po (k * 24 + t) = p (k * 24 + t)
theorem vv_p {po vb : Int → Int} (h : vv_ok fo go ab be fc po tg ze k n vb) : pvp fo go ab be fc tg ze k n po (vb (48 + k)) (fun s => vb (k * 24 + s)) := h.elim fun _ h => h.1
theorem fz_0 {po vb : Int → Int} (hp : po_ok fc po k n) (hq : ppp fo go ab be fc tg ze k n po) : fz_ok fo go ab be fc tg ze k n x po vb 1 0 := ⟨(), hp, fun _ => ⟨hq, fd_0⟩, fun h => absurd h (by omega)⟩
theorem sv_0 {po va vb : Int → Int} {h cnt : Int} (hf : fz_ok fo go ab be fc tg ze k n x po va h cnt) (hh : h = 1) (hv : vv_ok fo go ab be fc po tg ze k n vb) : sv_ok fo go ab be fc tg ze k n x po vb 0 0 cnt := hf.elim fun _ hf => ⟨po, hf.1, hf.1, (hf.2.1 hh).1, hv, (hf.2.1 hh).2, fun _ => rfl, fun e => absurd e (by omega), fun _ _ _ _ _ => Or.inl rfl, fun _ _ _ => rfl⟩
theorem fz_e {po vb : Int → Int} {s h cnt : Int} (hs : sv_ok fo go ab be fc tg ze k n x po vb s h cnt) (hx : hx_ok fo go ab be fc tg ze k n x) (hm : mo_ok fo go ab be fc n) : fz_ok fo go ab be fc tg ze k n x po vb h (cnt + 1) := by
  obtain ⟨p, h1, h2, h3, h4, h5, h6, h7, h8, h9⟩ := hs
  have hpp : ppp fo go ab be fc tg ze k n po := by
    rcases hx with e | e
    · subst e
      exact bt_p hm h1 h2 (vv_p h4) h3 h8
    · exact e.2 po h2
  refine ⟨(), h2, fun e => ⟨hpp, ?_⟩, fun e => ?_⟩
  · obtain ⟨t, ht⟩ := h7 e
    exact fd_s (by rcases hx with q | q; exact Or.inl q; exact Or.inr q.1) hm h1 h2 (vv_p h4) hpp h8 ht h5
  · rw [h6 e]; exact h4
theorem st1_k {po va vb : Int → Int} {t : Int} (h : st1 fo go ab be fc k x po va t) (hm : mo_ok fo go ab be fc n) (hp : po_ok fc po k n) (ht : 0 ≤ t ∧ t < n) (hk : ∀ t : Int, 0 ≤ t → t < n → vb (k * 24 + t) = va (k * 24 + t)) : st1 fo go ab be fc k x po vb t := by
  have h3 := po_e hp ht.1 ht.2
  have h4 := mo_c hm (s := t) (c := fc t + po (k * 24 + t)) ht.1 ht.2 (by omega) (by omega)
  unfold st1 at h ⊢
  rw [wS_k h4 hk, hk t ht.1 ht.2]
  exact h
theorem vv_k {po va vb : Int → Int} (h : vv_ok fo go ab be fc po tg ze k n va) (hk : ∀ q : Int, 0 ≤ q → q < 50 → vb q = va q) (hk1 : 0 ≤ k ∧ k ≤ 1) (hn : n ≤ 24) : vv_ok fo go ab be fc po tg ze k n vb := h.elim fun _ h => by
  have e : vb (48 + k) = va (48 + k) := hk _ (by omega) (by omega)
  have e2 : ∀ t : Int, 0 ≤ t → t < n → vb (k * 24 + t) = va (k * 24 + t) := fun t h1 h2 => hk _ (by omega) (by omega)
  refine ⟨(), ⟨?_, fun s hs => ⟨fun hu => ?_, fun hu => ⟨fun ht => ?_, fun ht => ?_⟩⟩⟩, fun t h1 h2 => ?_, ?_⟩
  · rw [e]; exact h.1.1
  · have h3 := (h.1.2 s hs).1 hu
    dsimp only at h3 ⊢
    rw [e2 s (by omega) hu.1, h3]
    exact sm_eq (fun t ht => by rw [e2 t (by omega) (by omega)])
  · have h3 := ((h.1.2 s hs).2 hu).1 ht
    dsimp only at h3 ⊢
    rw [e2 s (by omega) (by omega), e]; exact h3
  · have h3 := ((h.1.2 s hs).2 hu).2 ht
    dsimp only at h3 ⊢
    rw [e2 s (by omega) (by omega)]; exact h3
  · rw [e2 t h1 h2, e]; exact h.2.1 t h1 h2
  · rw [e]; exact h.2.2
theorem sv_k {po va vb : Int → Int} {s h cnt : Int} (h0 : sv_ok fo go ab be fc tg ze k n x po va s h cnt) (hm : mo_ok fo go ab be fc n) (hk1 : 0 ≤ k ∧ k ≤ 1) (hk : ∀ q : Int, 0 ≤ q → q < 50 → vb q = va q) : sv_ok fo go ab be fc tg ze k n x po vb s h cnt := by
  have hn := mo_n hm
  obtain ⟨p, h1, h2, h3, h4, h5, h6, h7, h8, h9⟩ := h0
  have e2 : ∀ t : Int, 0 ≤ t → t < n → vb (k * 24 + t) = va (k * 24 + t) := fun t h1 h2 => hk _ (by omega) (by omega)
  refine ⟨p, h1, h2, h3, vv_k h4 hk hk1 hn.2, h5, h6, fun e => ?_, fun t q1 q2 q3 q4 => ?_, h9⟩
  · obtain ⟨t, ht⟩ := h7 e
    exact ⟨t, ht.1, ht.2.1, ht.2.2.1, st1_k ht.2.2.2 hm h2 ht.1 e2⟩
  · rcases h8 t q1 q2 q3 q4 with q | q
    · exact Or.inl q
    · exact Or.inr (st1_k q hm h2 ⟨q1, q2⟩ e2)
theorem sv_u {po va : Int → Int} {s h cnt q y : Int} (hq : 50 ≤ q) (hm : mo_ok fo go ab be fc n) (hk1 : 0 ≤ k ∧ k ≤ 1) (h0 : sv_ok fo go ab be fc tg ze k n x po va s h cnt) : sv_ok fo go ab be fc tg ze k n x po (hw_up va q y) s h cnt := sv_k h0 hm hk1 (fun r h1 h2 => hw_up_n (by omega))
theorem sv_g {po va vb : Int → Int} {s h cnt : Int} (hg : sg va vb) (hm : mo_ok fo go ab be fc n) (hk1 : 0 ≤ k ∧ k ≤ 1) (h0 : sv_ok fo go ab be fc tg ze k n x po va s h cnt) : sv_ok fo go ab be fc tg ze k n x po vb s h cnt := sv_k h0 hm hk1 (fun r h1 h2 => sg_e hg (by omega))
theorem sv_n {po vb : Int → Int} {s h cnt p : Int} (h0 : sv_ok fo go ab be fc tg ze k n x po vb s h cnt) (hp : s ≤ p) : sv_ok fo go ab be fc tg ze k n x po vb p h cnt := by
  obtain ⟨p, h1, h2, h3, h4, h5, h6, h7, h8, h9⟩ := h0
  exact ⟨p, h1, h2, h3, h4, h5, h6, h7, h8, fun t q1 q2 => h9 t (by omega) q2⟩
theorem sv_c {po vb : Int → Int} {s h cnt p b y : Int} (h0 : sv_ok fo go ab be fc tg ze k n x po vb s h cnt) (hs : 0 ≤ s ∧ s < n) (hk1 : 0 ≤ k ∧ k ≤ 1) (hn : n ≤ 24) (h1 : tg s = 0) (h2 : ze (k * 24 + s) = 0) (hb : fc s ≤ b ∧ b < fc (s + 1)) (hy : y = b - fc s) (hst : 0 < x * (wS fo go ab be k vb b - Lq fo be b * vb (k * 24 + s))) (hp : p = s + 1) : sv_ok fo go ab be fc tg ze k n x (hw_up po (k * 24 + s) y) vb p 1 cnt := by
  subst hp
  subst hy
  obtain ⟨p, q1, q2, q3, q4, q5, q6, q7, q8, q9⟩ := h0
  have hs1 : st1 fo go ab be fc k x (hw_up po (k * 24 + s) (b - fc s)) vb s := by
    unfold st1
    rw [hw_up_s, show fc s + (b - fc s) = b by omega]
    exact hst
  refine ⟨p, q1, ⟨(), fun t e1 e2 => ?_⟩, q3, q4, q5, fun e => absurd e (by omega), fun _ => ⟨s, hs, h1, h2, hs1⟩, fun t e1 e2 e3 e4 => ?_, fun t e1 e2 => ?_⟩
  · by_cases e : t = s
    · subst e
      rw [hw_up_s]
      omega
    · rw [hw_up_n (by omega)]; exact po_e q2 e1 e2
  · by_cases e : t = s
    · subst e; exact Or.inr hs1
    · unfold st1
      rw [hw_up_n (by omega)]
      exact q8 t e1 e2 e3 e4
  · rw [hw_up_n (by omega)]; exact q9 t (by omega) e2
/-- what a state's own choice is worth -/
theorem sv_w {po vb : Int → Int} {s h cnt : Int} (h0 : sv_ok fo go ab be fc tg ze k n x po vb s h cnt) (hm : mo_ok fo go ab be fc n) (hs : 0 ≤ s ∧ s < n) (h1 : tg s = 0) (h2 : ze (k * 24 + s) = 0) : wS fo go ab be k vb (fc s + po (k * 24 + s)) = Lq fo be (fc s + po (k * 24 + s)) * vb (k * 24 + s) := by
  obtain ⟨p, q1, q2, q3, q4, q5, q6, q7, q8, q9⟩ := h0
  rw [q9 s (Int.le_refl s) hs.2]
  obtain ⟨i, rfl⟩ := Int.eq_ofNat_of_zero_le hs.1
  have h3 := po_e q1 (s := i) (by omega) hs.2
  have h4 := mo_c hm (s := i) (c := fc i + p (k * 24 + i)) (by omega) hs.2 (by omega) (by omega)
  rw [wS_q h4]
  exact (((vv_p q4).2 i (by have := hs.2; omega)).1 ⟨hs.2, h1, h2⟩).symm
theorem sv_po {po vb : Int → Int} {s h cnt : Int} (h0 : sv_ok fo go ab be fc tg ze k n x po vb s h cnt) : po_ok fc po k n := by
  obtain ⟨p, q1, q2, q3⟩ := h0
  exact q2
theorem sv_vl {po vb : Int → Int} {s h cnt : Int} (h0 : sv_ok fo go ab be fc tg ze k n x po vb s h cnt) : vl_ok vb k n ∧ 0 ≤ cnt ∧ cnt ≤ 6277101735386680763835789423207666416102355444464034512896 := by
  obtain ⟨p, q1, q2, q3, q4, q5, q6⟩ := h0
  refine ⟨q4.elim fun _ q4 => ⟨(), fun t h1 h2 => ?_⟩, fd_l q5⟩
  have := q4.2.1 t h1 h2
  omega
theorem fz_p {po vb : Int → Int} {h cnt : Int} (h0 : fz_ok fo go ab be fc tg ze k n x po vb h cnt) (hh : h = 1) : po_ok fc po k n ∧ ppp fo go ab be fc tg ze k n po ∧ 0 ≤ cnt ∧ cnt ≤ 6277101735386680763835789423207666416102355444464034512896 := h0.elim fun _ h0 => ⟨h0.1, (h0.2.1 hh).1, fd_l (h0.2.1 hh).2⟩
theorem fz_v {po vb : Int → Int} {h cnt : Int} (h0 : fz_ok fo go ab be fc tg ze k n x po vb h cnt) (hh : h = 0) : po_ok fc po k n ∧ vv_ok fo go ab be fc po tg ze k n vb := h0.elim fun _ h0 => ⟨h0.1, h0.2.2 hh⟩
/-- of two choices the better one -/
theorem im_s {a b c p q v : Int} (hp : 0 < p) (hq : 0 < q) (h1 : 0 ≤ x * (b - p * v)) (h2 : 0 < x * (a * p - b * q)) : 0 < x * (a - q * v) := by
  have h3 := Int.mul_nonneg (Int.le_of_lt hq) h1
  have e : p * (x * (a - q * v)) = x * (a * p - b * q) + q * (x * (b - p * v)) := by grind
  rcases Int.lt_or_le 0 (x * (a - q * v)) with s | s
  · exact s
  · have := in_pn (Int.le_of_lt hp) s
    omega
end C5p
