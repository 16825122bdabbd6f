/-! the reader: where it stands; names -/
theorem pli_b {t : Int → Int} {n : Int} (hn : 0 ≤ n) : ∀ q : Nat, (∀ p : Nat, p < q → ¬ kd t n p = 1) → 0 ≤ pli t n q ∧ pli t n q ≤ n := by
  intro q
  induction q with
  | zero =>
    intro _
    have := sk_le (t := t) (r := 0) hn
    show 0 ≤ sk t n 0 0 ∧ sk t n 0 0 ≤ n
    omega
  | succ q ih =>
    intro h
    have h1 := ih (fun p hp => h p (Nat.lt_succ_of_lt hp))
    have h2 := h q (Nat.lt_succ_self q)
    have e : ((q + 1 : Nat) : Int) = (q : Int) + 1 := rfl
    rw [e, pli_s (by omega)]
    have h3 : ¬ tkd t n (pli t n q) = 1 := by
      intro z
      apply h2
      unfold kd
      split
      · rfl
      · exact z
    have h4 := tln_b (t := t) h1.1 h1.2 h3
    have h5 := sk_le (t := t) (n := n) (p := pli t n q + ln t n q) (r := 0) h4.2
    have h6 : 0 ≤ ln t n q := h4.1
    omega
/-- the reader stands at a TOKEN -/
def rdr_ok (t : Int → Int) (n made at_ : Int) (tk pl le nm : Int → Int) : Prop := ∃ _ : Unit, tks t n made tk pl le nm ∧ (kd t n (made - 1) = 0 ∨ kd t n (made - 1) = 1) ∧ 0 ≤ at_ ∧ at_ < made ∧ made ≤ 1501 ∧ 0 ≤ n ∧ n ≤ 8192 ∧ ¬ kd t n at_ = 1
theorem rdr_b {t : Int → Int} {n made a : Int} {tk pl le nm : Int → Int} (h : rdr_ok t n made a tk pl le nm) : 0 ≤ a ∧ a < made ∧ made ≤ 1501 ∧ ¬ kd t n a = 1 ∧ tk a = kd t n a ∧ a ≤ 1499 ∧ 0 ≤ n ∧ n ≤ 8192 := by
  obtain ⟨_, h1, h2, h3, h4, h5, h6, h7, h8⟩ := h
  have q := (tks_at h1 h3 h4).1
  have z : a ≤ 1499 := by
    rcases Int.lt_or_le 1499 a with g | g
    · exact absurd (if_pos (by omega)) h8
    · exact g
  exact ⟨h3, h4, h5, h8, q, z, h6, h7⟩
theorem rdr_n {t : Int → Int} {n made a r : Int} {tk pl le nm : Int → Int} (h : rdr_ok t n made a tk pl le nm) (hr : r = nm a) : kd t n a = 3 ∨ kd t n a = 4 → r = nu t n a := by
  obtain ⟨_, h1, h2, h3, h4, _⟩ := h
  rw [hr]
  exact (tks_at h1 h3 h4).2.2.2.1
theorem rdr_m {t : Int → Int} {n made a : Int} {tk pl le nm : Int → Int} (h : rdr_ok t n made a tk pl le nm) (hz : ¬ kd t n a = 0) : a + 1 < made ∧ tk (a + 1) = kd t n (a + 1) := by
  have hb := rdr_b h
  obtain ⟨_, h1, h2, h3, h4, h5, h6, h7, h8⟩ := h
  have e : a + 1 < made := by
    rcases Int.lt_or_le (a + 1) made with g | g
    · exact g
    · have e : made - 1 = a := by omega
      rw [e] at h2
      omega
  exact ⟨e, (tks_at h1 (by omega) e).1⟩
theorem rdr_s {t : Int → Int} {n made a b : Int} {tk pl le nm : Int → Int} (h : rdr_ok t n made a tk pl le nm) (hz : ¬ kd t n a = 0) (hb : b = a + 1) (hn : ¬ kd t n b = 1) : rdr_ok t n made b tk pl le nm := by
  have q := rdr_m h hz
  obtain ⟨_, h1, h2, h3, h4, h5, h6, h7, h8⟩ := h
  exact ⟨(), h1, h2, by omega, by omega, h5, h6, h7, hn⟩
theorem rdr_0 {t : Int → Int} {n made a : Int} {tk pl le nm : Int → Int} (h1 : tks t n made tk pl le nm) (h2 : kd t n (made - 1) = 0 ∨ kd t n (made - 1) = 1) (h0 : a = 0) (hm : 1 ≤ made) (h5 : made ≤ 1501) (h6 : 0 ≤ n ∧ n ≤ 8192) (hn : ¬ kd t n a = 1) : rdr_ok t n made a tk pl le nm := ⟨(), h1, h2, by omega, by omega, h5, h6.1, h6.2, hn⟩
/-- another TOKEN that was read -/
def tv_ok (t : Int → Int) (n made q : Int) : Prop := ∃ _ : Unit, 0 ≤ q ∧ q < made ∧ ¬ kd t n q = 1
theorem tv_i {t : Int → Int} {n made a : Int} {tk pl le nm : Int → Int} (h : rdr_ok t n made a tk pl le nm) : tv_ok t n made a := ⟨(), (rdr_b h).1, (rdr_b h).2.1, (rdr_b h).2.2.2.1⟩
theorem rdr_t {t : Int → Int} {n made a q : Int} {tk pl le nm : Int → Int} (h : rdr_ok t n made a tk pl le nm) (hq : tv_ok t n made q) : 0 ≤ q ∧ q < made ∧ pl q = pli t n q ∧ le q = ln t n q ∧ 0 ≤ pli t n q ∧ 0 ≤ ln t n q ∧ pli t n q + ln t n q ≤ n := by
  obtain ⟨_, h1, h2, h3, h4, h5, h6, h7, h8⟩ := h
  obtain ⟨_, q1, q2, q3⟩ := hq
  have z := tks_at h1 q1 q2
  have e : ((q.toNat : Nat) : Int) = q := Int.toNat_of_nonneg q1
  have b := pli_b (t := t) h6 q.toNat (fun p hp => ((tks_at h1 (q := (p : Int)) (by omega) (by omega)).2.2.2.2 (by omega)).2)
  rw [e] at b
  have q15 : q < 1500 := by
    rcases Int.lt_or_le q 1500 with g | g
    · exact g
    · exact absurd (if_pos g) q3
  have l := tln_b (t := t) b.1 b.2 (by rw [← kd_in q15]; exact q3)
  exact ⟨q1, q2, z.2.1, z.2.2.1 q3, b.1, l.1, l.2⟩
/-- two NAMES are the same -/
def smt (t : Int → Int) (n i j : Int) : Prop := ∃ _ : Unit, ln t n i = ln t n j ∧ ∀ k, 0 ≤ k → k < ln t n i → t (pli t n i + k) = t (pli t n j + k)
def smu (t : Int → Int) (n i j m : Int) : Prop := ∃ _ : Unit, ∀ k, 0 ≤ k → k < m → t (pli t n i + k) = t (pli t n j + k)
theorem smu_0 {t : Int → Int} {n i j : Int} : smu t n i j 0 := ⟨(), fun k h1 h2 => absurd h1 (by omega)⟩
theorem smu_s {t : Int → Int} {n i j m m' x y : Int} (h : smu t n i j m) (hx : x = pli t n i + m) (hy : y = pli t n j + m) (e : t x = t y) (hm : m' = m + 1) : smu t n i j m' := by
  subst hx hy hm
  refine ⟨(), fun k h1 h2 => ?_⟩
  by_cases q : k = m
  · rw [q]; exact e
  · exact h.elim fun _ h => h k h1 (by omega)
theorem smu_e {t : Int → Int} {n i j m : Int} (h : smu t n i j m) (hm : ln t n i ≤ m) (hl : ln t n i = ln t n j) : smt t n i j := ⟨(), hl, fun k h1 h2 => h.elim fun _ h => h k h1 (by omega)⟩
theorem smu_n {t : Int → Int} {n i j m x y : Int} (h : smt t n i j) (hx : x = pli t n i + m) (hy : y = pli t n j + m) (e : ¬ t x = t y) (h0 : 0 ≤ m) (h1 : m < ln t n i) : False := by
  subst hx hy
  exact e (h.elim fun _ h => h.2 m h0 h1)
theorem smt_l {t : Int → Int} {n i j : Int} (h : smt t n i j) : ln t n i = ln t n j := h.elim fun _ h => h.1
/-- names: TOKEN, what it is (0 a constant, 1 a variable, 2 a MODULE), what it holds, a variable's TYPE -/
abbrev yN : Type := List (Int × Int × Int × Int)
noncomputable def fnd (t : Int → Int) (n j : Int) : yN → Option (Int × Int × Int)
  | [] => none
  | (tok, r, h, v) :: L => @ite _ (smt t n tok j) (Classical.propDecidable _) (some (r, h, v)) (fnd t n j L)
def nme (nt role holds ty : Int → Int) (i : Int) : Int × Int × Int × Int := (nt i, role i, holds i, if role i = 1 then ty (holds i) else 0)
def nmf (nt role holds ty : Int → Int) : Nat → yN
  | 0 => []
  | n + 1 => nmf nt role holds ty n ++ [nme nt role holds ty n]
def nmL (N : Int) (nt role holds ty : Int → Int) : yN := nmf nt role holds ty N.toNat
theorem nmf_len {nt role holds ty : Int → Int} (n : Nat) : (nmf nt role holds ty n).length = n := by
  induction n with
  | zero => rfl
  | succ n ih => unfold nmf; rw [List.length_append, ih]; rfl
theorem nmf_get {nt role holds ty : Int → Int} : ∀ (n i : Nat), i < n → (nmf nt role holds ty n)[i]? = some (nme nt role holds ty i) := by
  intro n
  induction n with
  | zero => intro i h; exact absurd h (Nat.not_lt_zero i)
  | succ n ih =>
    intro i h
    unfold nmf
    by_cases e : i < n
    · rw [List.getElem?_append_left (by rw [nmf_len]; exact e)]
      exact ih i e
    · have e2 : i = n := by omega
      subst e2
      rw [List.getElem?_append_right (by rw [nmf_len]; exact Nat.le_refl _), nmf_len, Nat.sub_self]
      rfl
theorem nmf_eq {nt role holds ty nt' role' holds' ty' : Int → Int} : ∀ (n : Nat), (∀ i : Nat, i < n → nme nt' role' holds' ty' i = nme nt role holds ty i) → nmf nt' role' holds' ty' n = nmf nt role holds ty n := by
  intro n
  induction n with
  | zero => intro _; rfl
  | succ n ih =>
    intro h
    unfold nmf
    rw [h n (Nat.lt_succ_self n), ih (fun i hi => h i (Nat.lt_succ_of_lt hi))]
/-- names that were given: their TOKENS stand, a variable's number is one -/
def nv_ok (t : Int → Int) (n made N V : Int) (nt role holds : Int → Int) : Prop := ∃ _ : Unit, 0 ≤ N ∧ ∀ i, 0 ≤ i → i < N → tv_ok t n made (nt i) ∧ 0 ≤ role i ∧ role i ≤ 2 ∧ (role i = 1 → 0 ≤ holds i ∧ holds i < V)
theorem nv_at {t : Int → Int} {n made N V i : Int} {nt role holds : Int → Int} (h : nv_ok t n made N V nt role holds) (h0 : 0 ≤ i) (h1 : i < N) : tv_ok t n made (nt i) ∧ 0 ≤ role i ∧ role i ≤ 2 ∧ (role i = 1 → 0 ≤ holds i ∧ holds i < V) := h.elim fun _ h => h.2 i h0 h1
theorem nv_0 {t : Int → Int} {n made V : Int} {nt role holds : Int → Int} : nv_ok t n made 0 V nt role holds := ⟨(), Int.le_refl 0, fun i h1 h2 => absurd h1 (by omega)⟩
theorem nv_le {t : Int → Int} {n made N V V' : Int} {nt role holds : Int → Int} (h : nv_ok t n made N V nt role holds) (hv : V ≤ V') : nv_ok t n made N V' nt role holds := h.elim fun _ h => ⟨(), h.1, fun i h1 h2 => by
  have q := h.2 i h1 h2
  exact ⟨q.1, q.2.1, q.2.2.1, fun z => by have := q.2.2.2 z; omega⟩⟩
theorem nv_push {t : Int → Int} {n made N N' V tok r x : Int} {nt role holds : Int → Int} (h : nv_ok t n made N V nt role holds) (ht : tv_ok t n made tok) (hr : 0 ≤ r ∧ r ≤ 2 ∧ (r = 1 → 0 ≤ x ∧ x < V)) (hN : N' = N + 1) : nv_ok t n made N' V (hw_up nt N tok) (hw_up role N r) (hw_up holds N x) := by
  have h00 := h.elim fun _ h => h.1
  subst hN
  refine ⟨(), by omega, fun i h1 h2 => ?_⟩
  by_cases e : i = N
  · subst e
    rw [hw_up_s, hw_up_s, hw_up_s]
    exact ⟨ht, hr.1, hr.2.1, hr.2.2⟩
  · rw [hw_up_n e, hw_up_n e, hw_up_n e]
    exact nv_at h h1 (by omega)
theorem nm_push {t : Int → Int} {n made N N' V tok r x : Int} {nt role holds ty : Int → Int} (h : nv_ok t n made N V nt role holds) (hN : N' = N + 1) : nmL N' (hw_up nt N tok) (hw_up role N r) (hw_up holds N x) ty = nmL N nt role holds ty ++ [(tok, r, x, if r = 1 then ty x else 0)] := by
  have h00 := h.elim fun _ h => h.1
  subst hN
  unfold nmL
  rw [show (N + 1).toNat = N.toNat + 1 by omega]
  show nmf _ _ _ _ N.toNat ++ [nme _ _ _ _ (N.toNat : Nat)] = _
  rw [Int.toNat_of_nonneg h00]
  have e1 : nme (hw_up nt N tok) (hw_up role N r) (hw_up holds N x) ty N = (tok, r, x, if r = 1 then ty x else 0) := by
    unfold nme
    rw [hw_up_s, hw_up_s, hw_up_s]
  rw [e1]
  refine congrArg (fun z => z ++ _) (nmf_eq _ (fun i hi => ?_))
  have e : ¬ (i : Int) = N := by omega
  unfold nme
  rw [hw_up_n e, hw_up_n e, hw_up_n e]
/-- a TYPE of a variable that has no name yet -/
theorem nm_ty {t : Int → Int} {n made N V v x : Int} {nt role holds ty : Int → Int} (h : nv_ok t n made N V nt role holds) (hv : V ≤ v) : nmL N nt role holds (hw_up ty v x) = nmL N nt role holds ty := by
  unfold nmL
  refine nmf_eq _ (fun i hi => ?_)
  have h00 := h.elim fun _ h => h.1
  have q := nv_at h (i := (i : Int)) (by omega) (by omega)
  unfold nme
  by_cases e : role i = 1
  · have := q.2.2.2 e
    rw [if_pos e, if_pos e, hw_up_n (by omega)]
  · rw [if_neg e, if_neg e]
def fn_i (t : Int → Int) (n x N i : Int) (nt role holds ty : Int → Int) : Prop := ∃ _ : Unit, fnd t n x (nmL N nt role holds ty) = fnd t n x ((nmL N nt role holds ty).drop i.toNat)
theorem fn_0 {t : Int → Int} {n x N : Int} {nt role holds ty : Int → Int} : fn_i t n x N 0 nt role holds ty := ⟨(), rfl⟩
theorem fn_d {t : Int → Int} {n x N i : Int} {nt role holds ty : Int → Int} (h : fn_i t n x N i nt role holds ty) (h0 : 0 ≤ i) (h1 : i < N) : fnd t n x (nmL N nt role holds ty) = @ite _ (smt t n (nt i) x) (Classical.propDecidable _) (some (role i, holds i, if role i = 1 then ty (holds i) else 0)) (fnd t n x ((nmL N nt role holds ty).drop (i + 1).toNat)) := by
  obtain ⟨_, h⟩ := h
  rw [h]
  have e : ((i.toNat : Nat) : Int) = i := Int.toNat_of_nonneg h0
  have g := nmf_get (nt := nt) (role := role) (holds := holds) (ty := ty) N.toNat i.toNat (by omega)
  rw [e] at g
  have l : i.toNat < (nmL N nt role holds ty).length := (List.getElem?_eq_some_iff.mp g).1
  have g2 : (nmL N nt role holds ty)[i.toNat] = nme nt role holds ty i := (List.getElem?_eq_some_iff.mp g).2
  rw [List.drop_eq_getElem_cons l, g2, show (i + 1).toNat = i.toNat + 1 by omega]
  rfl
theorem fn_hit {t : Int → Int} {n x N i : Int} {nt role holds ty : Int → Int} (h : fn_i t n x N i nt role holds ty) (hs : smt t n (nt i) x) (h0 : 0 ≤ i) (h1 : i < N) : fnd t n x (nmL N nt role holds ty) = some (role i, holds i, if role i = 1 then ty (holds i) else 0) := by
  rw [fn_d h h0 h1]
  exact if_pos hs
theorem fn_s {t : Int → Int} {n x N i i' : Int} {nt role holds ty : Int → Int} (h : fn_i t n x N i nt role holds ty) (hs : ¬ smt t n (nt i) x) (h0 : 0 ≤ i) (h1 : i < N) (hi : i' = i + 1) : fn_i t n x N i' nt role holds ty := by
  subst hi
  refine ⟨(), ?_⟩
  rw [fn_d h h0 h1]
  exact if_neg hs
theorem fn_e {t : Int → Int} {n x N i : Int} {nt role holds ty : Int → Int} (h : fn_i t n x N i nt role holds ty) (h1 : N ≤ i) : fnd t n x (nmL N nt role holds ty) = none := by
  obtain ⟨_, h⟩ := h
  rw [h, List.drop_eq_nil_of_le (by unfold nmL; rw [nmf_len]; omega)]
  rfl
/-! one TOKEN on; a TOKEN that is due -/
def ad (k : Int → Int) (j : Int) : Option Int := if k (j + 1) = 1 then none else some (j + 1)
def tke (k : Int → Int) (x j : Int) : Option Int := if k j = x then ad k j else none
theorem ad_s {k : Int → Int} {j b : Int} (hb : b = j + 1) (h : ¬ k b = 1) : ad k j = some b := by subst hb; exact if_neg h
theorem ad_n {k : Int → Int} {j b : Int} (hb : b = j + 1) (h : k b = 1) : ad k j = none := by subst hb; exact if_pos h
theorem ad_i {k : Int → Int} {j b : Int} (h : ad k j = some b) : b = j + 1 ∧ ¬ k b = 1 := by
  unfold ad at h
  split at h
  · cases h
  · rename_i q
    injection h with h
    subst h
    exact ⟨rfl, q⟩
theorem tke_s {k : Int → Int} {x j b : Int} (hx : k j = x) (h : ad k j = some b) : tke k x j = some b := by unfold tke; rw [if_pos hx]; exact h
theorem tke_n {k : Int → Int} {x j : Int} (hx : k j = x) (h : ad k j = none) : tke k x j = none := by unfold tke; rw [if_pos hx]; exact h
theorem tke_w {k : Int → Int} {x j : Int} (hx : ¬ k j = x) : tke k x j = none := if_neg hx
theorem tke_i {k : Int → Int} {x j b : Int} (h : tke k x j = some b) : k j = x ∧ b = j + 1 ∧ ¬ k b = 1 := by
  unfold tke at h
  split at h
  · rename_i q
    exact ⟨q, ad_i h⟩
  · cases h
/-- what a TOKEN is as an operand -/
noncomputable def odl (t : Int → Int) (n : Int) (L : yN) (vk j : Int) : Option (Int × Int × Int) := if kd t n j = 3 then some (3, nu t n j, 1) else if kd t n j = 13 then some (3, 1, 2) else if kd t n j = 14 then some (3, 0, 2)
  else if kd t n j = 2 then (match fnd t n j L with
    | none => none
    | some (r, h, v) => if r = 0 then some (3, h, 1) else if r = 1 ∧ ¬ vk = 0 then some (2, h, v) else none)
  else none
/-- a name that is not given yet -/
noncomputable def nwn (t : Int → Int) (n : Int) (L : yN) (j : Int) : Option Int := if kd t n j = 2 ∧ fnd t n j L = none then ad (kd t n) j else none
theorem nwn_s {t : Int → Int} {n j b : Int} {L : yN} (h : kd t n j = 2) (hf : fnd t n j L = none) (ha : ad (kd t n) j = some b) : nwn t n L j = some b := by unfold nwn; rw [if_pos ⟨h, hf⟩]; exact ha
theorem nwn_n {t : Int → Int} {n j : Int} {L : yN} (h : kd t n j = 2) (hf : fnd t n j L = none) (ha : ad (kd t n) j = none) : nwn t n L j = none := by unfold nwn; rw [if_pos ⟨h, hf⟩]; exact ha
theorem nwn_k {t : Int → Int} {n j : Int} {L : yN} (h : ¬ kd t n j = 2) : nwn t n L j = none := if_neg (fun z => h z.1)
theorem nwn_f {t : Int → Int} {n j : Int} {L : yN} {x : Int × Int × Int} (hf : fnd t n j L = some x) : nwn t n L j = none := if_neg (fun z => by rw [hf] at z; cases z.2)
/-- a TOKEN that is looked at -/
def tqq_ok (t : Int → Int) (n made a : Int) (tk : Int → Int) : Prop := ∃ _ : Unit, 0 ≤ a ∧ a < made ∧ tk a = kd t n a
theorem tq_b {t : Int → Int} {n made a : Int} {tk : Int → Int} (h : tqq_ok t n made a tk) : 0 ≤ a ∧ a < made ∧ tk a = kd t n a := h.elim fun _ h => h
theorem rdr_q {t : Int → Int} {n made a : Int} {tk pl le nm : Int → Int} (h : rdr_ok t n made a tk pl le nm) : tqq_ok t n made a tk := ⟨(), (rdr_b h).1, (rdr_b h).2.1, (rdr_b h).2.2.2.2.1⟩
theorem rdr_q1 {t : Int → Int} {n made a b : Int} {tk pl le nm : Int → Int} (h : rdr_ok t n made a tk pl le nm) (hz : ¬ kd t n a = 0) (hb : b = a + 1) : tqq_ok t n made b tk := by
  subst hb
  exact ⟨(), by have := (rdr_b h).1; omega, (rdr_m h hz).1, (rdr_m h hz).2⟩
