/-! the model's calls, as the law makes them -/
def lw_M (f er : Int) (g : Int → Int) (Do : Option dT) (Yo : Option qY) (S : mm_S) : Prop := ∃ Z, hm_I f er g Do Yo Z ∧ hw_RS w4_T Z S
theorem w4_no {b : Nat} (h : b < 1654 ∨ 3296 ≤ b) : ¬ w4_ob b = true := fun e => by
  have := w4_in_ob e
  omega
theorem lw_own1 : w4_T.2.2.1 1654 ∧ w4_T.2.1 1654 = (2, 0) ∧ (2 : Nat) < 1000000 := ⟨rfl, rfl, by decide⟩
theorem lw_v1 : hw_v w4_T (hw_R 2 0) (.ref 1654) := ⟨1654, rfl, Or.inl lw_own1⟩
theorem lw_rk1 {f er : Int} {g : Int → Int} {Do : Option dT} {Yo : Option qY} {S : mm_S} {as : List Value} (h : lw_M f er g Do Yo S) : mm_rok pg_TT false 12 (.ref 1654 :: as) S = true := by
  obtain ⟨Z, -, h⟩ := h
  obtain ⟨h1, h2⟩ := h.2 1654 (show w4_ob 1654 = true by rfl)
  obtain ⟨vs, h3, -⟩ : ∃ vs, S.2.2 1654 = .inr (12, vs) ∧ True := by
    have e : hw_sh w4_T 1654 = hm_KT 2 := rfl
    rw [e] at h2
    obtain ⟨vs, h3, -⟩ := h2
    exact ⟨vs, h3, True.intro⟩
  unfold mm_rok
  dsimp only
  rw [h3, decide_eq_true h1]
  rfl
theorem lw_rk2 {f : Int} {g : Int → Int} {Do : Option dT} {Yo : Option qY} {S : mm_S} {as : List Value} (h : lw_B f g Do Yo S) : mm_rok pg_TT false 0 (.ref 0 :: as) S = true := by
  obtain ⟨⟨Z, -, h⟩, -⟩ := h
  exact lw_rk0 h
theorem lw_r32 (x : Int32) : -2147483648 ≤ x.toInt ∧ x.toInt ≤ 2147483647 := hw_i32 x
theorem lw_r64 (x : Int64) : -9223372036854775808 ≤ x.toInt ∧ x.toInt ≤ 9223372036854775807 := hw_i64 x
theorem lw_m1 {f er : Int} {g : Int → Int} {Do : Option dT} {Yo : Option qY} {S S1 : mm_S} (h : lw_M f er g Do Yo S) (hR : lw_R S S1) (hb : S1.1 ≤ 5000) : lw_M f er g Do Yo S1 := by
  obtain ⟨Z, hZ, h⟩ := h
  refine ⟨Z, hZ, lw_RS h hR.1 (Nat.le_trans hb (by decide)) (fun a ha => ?_)⟩
  have := w4_in_ob ha
  exact hR.2.2.2 a this.1 (by omega)
theorem lw_b2 {f : Int} {g : Int → Int} {Do : Option dT} {Yo : Option qY} {S1 S2 : mm_S} (h : lw_B f g Do Yo S1) (he : hw_el w4_T S1 S2) (hb : S1.1 ≤ 5000) : lw_B f g Do Yo S2 := by
  obtain ⟨⟨Z, hZ, h⟩, ⟨e, hO⟩, h3⟩ := h
  obtain ⟨e1, e2, e3⟩ := he
  refine ⟨⟨Z, hZ, lw_RS h (by omega) (Nat.le_trans (show S2.1 ≤ 5000 by omega) (by decide)) (fun a ha => e3 a (w4_no ?_))⟩, ⟨e, (e3 3296 (w4_no (by omega))).trans hO⟩, by omega⟩
  have := w3_in_ob ha
  omega
theorem lw_rm {S : mm_S} (h1 : S.1 ≤ 5000) (h2 : S.2.1 ≤ 600000) : hw_room pg_TT S := ⟨Nat.le_trans (show S.1 + 1 ≤ 5001 by omega) (by decide), Nat.le_trans (show S.2.1 + 6 ≤ 600006 by omega) (by decide)⟩
/-- between calls: k were made -/
def lw_J (k : Nat) (S : mm_S) : Prop := ∃ (f er : Int) (g : Int → Int) (Do : Option dT) (Yo : Option qY), lw_B f g Do Yo S ∧ lw_M f er g Do Yo S ∧ S.1 ≤ 3297 + k ∧ S.2.1 ≤ 529432 + 6 * k
theorem lw_fi {k : Nat} {f er : Int} {g : Int → Int} {Do : Option dT} {Yo : Option qY} {S S1 S2 : mm_S} (hB : lw_B f g Do Yo S1) (hR : lw_R S S1) (he : hw_el w4_T S1 S2) (hM : lw_M f er g Do Yo S2) (h1 : S.1 ≤ 3297 + k) (h2 : S.2.1 ≤ 529432 + 6 * k) (hk : k ≤ 511) : lw_J (k + 1) S2 := by
  obtain ⟨r1, r2, r3, -⟩ := hR
  refine ⟨f, er, g, Do, Yo, lw_b2 hB he (by omega), hM, ?_, ?_⟩
  · rw [he.1]; omega
  · rw [he.2.1]; omega
section LI
variable {scr : Nat × (Nat → Int32)} {d f pc nx tg : Nat} {Q : mm_O → mm_S → Prop} {L : mm_L} {r : List Value} {S : mm_S}
theorem lw_ia {j : Int32} (hc : mm_code pg_G f pc = some (.iaload, nx, tg)) (ht : mm_thr pg_G f pc = none) (hj : 0 ≤ j.toInt ∧ j.toInt < (scr.1 : Int)) (h : lw_W scr d f Q (nx, L, .int (scr.2 j.toNatClampNeg) :: r, S)) : lw_W scr d f Q (pc, L, .int j :: .ref mm_big :: r, S) := by
  refine lw_st hc rfl ht ?_ h
  have e1 : mm_ia scr nx L (.int j :: .ref mm_big :: r) S = some (nx, L, .int (scr.2 j.toNatClampNeg) :: r, S) := by
    unfold mm_ia
    (try dsimp only)
    rw [if_pos rfl]
    refine if_pos ?_
    unfold mm_inb
    rw [decide_eq_true hj.1, decide_eq_true hj.2]
    rfl
  show (match mm_ia scr nx L (.int j :: .ref mm_big :: r) S with
    | some k => some k
    | none => _) = _
  rw [e1]
theorem lw_ja {e : Nat → Int64} (hO : S.2.2 3296 = .inl (1, 1, .inr (.inl e))) (hS : 3297 ≤ S.1) (hc : mm_code pg_G f pc = some (.laload, nx, tg)) (ht : mm_thr pg_G f pc = none) (h : lw_W scr d f Q (nx, L, .long (e 0) :: r, S)) : lw_W scr d f Q (pc, L, .int 0 :: .ref 3296 :: r, S) := by
  refine lw_st hc rfl ht ?_ h
  have e1 : mm_ja nx L (.int 0 :: .ref 3296 :: r) S = some (nx, L, .long (e 0) :: r, S) := by
    unfold mm_ja
    (try dsimp only)
    rw [hO]
    (try dsimp only)
    exact (if_pos ⟨(show (3296 : Nat) < S.1 by omega), by decide⟩).trans rfl
  show (match mm_ja nx L (.int 0 :: .ref 3296 :: r) S with
    | some k => some k
    | none => _) = _
  rw [e1]
theorem lw_bl {p1 p2 p3 p4 g1 g2 g3 : Nat} {v : Int32} {o1 o2 : Int} (c0 : mm_code pg_G f pc = some (.ifCond .eq o1, p1, p3)) (c1 : mm_code pg_G f p1 = some (.iconst 1, p2, g1)) (c2 : mm_code pg_G f p2 = some (.goto o2, g2, p4)) (c3 : mm_code pg_G f p3 = some (.iconst 0, p4, g3)) (t0 : mm_thr pg_G f pc = none) (t1 : mm_thr pg_G f p1 = none) (t2 : mm_thr pg_G f p2 = none) (t3 : mm_thr pg_G f p3 = none) (h : ∀ b : Int32, lw_W scr d f Q (p4, L, .int b :: r, S)) : lw_W scr d f Q (pc, L, .int v :: r, S) := by
  refine lw_if c0 t0 (fun _ => ?_) (fun _ => ?_)
  · exact lw_st c3 rfl t3 (k := (p4, L, .int _ :: r, S)) rfl (h _)
  · refine lw_st c1 rfl t1 (k := (p2, L, .int _ :: r, S)) rfl ?_
    exact lw_st c2 rfl t2 (k := (p4, L, .int _ :: r, S)) rfl (h _)
theorem lw_ix {i : Int32} {k n : Nat} {c : Int} (hi : i.toInt = 6 * (k : Int)) (hk : k ≤ 511) (hl : 6 * k + 6 ≤ n) (h0 : 0 ≤ c) (h5 : c ≤ 5) : 0 ≤ (i + Int32.ofInt c).toInt ∧ (i + Int32.ofInt c).toInt < (n : Int) := by
  have e : (Int32.ofInt c).toInt = c := by
    rw [Int32.toInt_ofInt]
    exact hw_b32 ⟨by omega, by omega⟩
  have a := hw_add32 i (Int32.ofInt c) ⟨by omega, by omega⟩
  omega
theorem lw_i0 {i : Int32} {k n : Nat} (hi : i.toInt = 6 * (k : Int)) (hl : 6 * k + 6 ≤ n) : 0 ≤ i.toInt ∧ i.toInt < (n : Int) := by omega
theorem lw_eq {x y : Int32} (h : x.toInt = y.toInt) : x = y := Int32.toInt_inj.mp h
theorem lw_lc {x y : Int64} (h : x.toInt = y.toInt) : lg_cmp x y = 0 := by
  have e := Int64.toInt_inj.mp h
  subst e
  unfold lg_cmp
  rw [if_neg (fun q : x > x => absurd (Int64.lt_iff_toInt_lt.mp q) (by omega)), if_pos rfl]
end LI
theorem lm_thrown {scr : Nat × (Nat → Int32)} {f er : Int} {g : Int → Int} {Do : Option dT} {Yo : Option qY} {S : mm_S} {Q : mm_O → mm_S → Prop}  (hM : lw_M f er g Do Yo S) (hr : hw_room pg_TT S) (hQ : ∀ v S', v.toInt = er → lw_M f er g Do Yo S' → hw_el w4_T S S' → Q (.inl (some (.int v))) S') : mm_ex pg_G pg_TT scr 1000 187 [.ref 1654] S Q := by
  obtain ⟨Z, hZ, hR⟩ := hM
  refine r_thrown (d := 999) (K := fun r Z' => r = some (hw_I er) ∧ hm_I f er g Do Yo Z') (E := fun _ _ => False) w4_HU hZ (fun Z' h => ⟨rfl, h⟩) [.ref 1654] S _ ⟨_, _, rfl, lw_v1, rfl⟩ hR hr ?_ (fun _ _ _ h => h.elim)
  intro r v Z' S' hk hv hR' he
  obtain ⟨rfl, hI⟩ := hk
  obtain ⟨u, rfl, y, rfl, hy⟩ := hv
  exact hQ y S' hy ⟨Z', hI, hR'⟩ he
theorem lm_wrong {scr : Nat × (Nat → Int32)} {f er : Int} {g : Int → Int} {Do : Option dT} {Yo : Option qY} {S : mm_S} {Q : mm_O → mm_S → Prop}  (hM : lw_M f er g Do Yo S) (hr : hw_room pg_TT S) (hQ : ∀ v e S', lw_M f e g Do Yo S' → hw_el w4_T S S' → Q (.inl (some (.int v))) S') : mm_ex pg_G pg_TT scr 1000 190 [.ref 1654] S Q := by
  obtain ⟨Z, hZ, hR⟩ := hM
  refine r_wrong (d := 999) (K := fun r Z' => (∃ x, r = some (hw_I x)) ∧ ∃ e, hm_I f e g Do Yo Z') (E := fun _ _ => False) w4_HU hZ (fun r e Z' h => ⟨⟨r, rfl⟩, e, h⟩) [.ref 1654] S _ ⟨_, _, rfl, lw_v1, rfl⟩ hR hr ?_ (fun _ _ _ h => h.elim)
  intro r v Z' S' hk hv hR' he
  obtain ⟨⟨x, rfl⟩, e, hI⟩ := hk
  obtain ⟨u, rfl, y, rfl, -⟩ := hv
  exact hQ y e S' ⟨Z', hI, hR'⟩ he
theorem lm_feed {scr : Nat × (Nat → Int32)} {f er : Int} {g : Int → Int} {Do : Option dT} {Yo : Option qY} {S : mm_S} {Q : mm_O → mm_S → Prop} {a0 : Int32} {a1 : Int32} {a2 : Int32} {a3 : Int32} {a4 : Int32} (hM : lw_M f er g Do Yo S) (hr : hw_room pg_TT S) (hQ : f ≤ 8180 → ∀ v S', v.toInt = f + 20 → lw_M (f + 20) 0 (fg g f a0.toInt a1.toInt a2.toInt a3.toInt a4.toInt) Do Yo S' → hw_el w4_T S S' → Q (.inl (some (.int v))) S') (hT : 8180 < f → ∀ v S', lw_M f 1 g Do Yo S' → hw_el w4_T S S' → Q (.inl (some (.int v))) S') : mm_ex pg_G pg_TT scr 1000 188 [.ref 1654, .int a0, .int a1, .int a2, .int a3, .int a4] S Q := by
  obtain ⟨Z, hZ, hR⟩ := hM
  refine r_feed (a := a0.toInt) (b := a1.toInt) (c := a2.toInt) (p := a3.toInt) (q := a4.toInt) (d := 998) (K := fun r Z' => (f ≤ 8180 ∧ r = some (hw_I (f + 20)) ∧ hm_I (f + 20) 0 (fg g f a0.toInt a1.toInt a2.toInt a3.toInt a4.toInt) Do Yo Z') ∨ (8180 < f ∧ r = some (hw_I 0) ∧ hm_I f 1 g Do Yo Z')) (E := fun _ _ => False) w4_HU hZ (fun h Z' h1 => Or.inl ⟨h, rfl, h1⟩) (fun h Z' h1 => Or.inr ⟨h, rfl, h1⟩) [.ref 1654, .int a0, .int a1, .int a2, .int a3, .int a4] S _ ⟨_, _, rfl, lw_v1, _, _, rfl, ⟨a0, rfl, rfl⟩, _, _, rfl, ⟨a1, rfl, rfl⟩, _, _, rfl, ⟨a2, rfl, rfl⟩, _, _, rfl, ⟨a3, rfl, rfl⟩, _, _, rfl, ⟨a4, rfl, rfl⟩, rfl⟩ hR hr ?_ (fun _ _ _ h => h.elim)
  intro r v Z' S' hk hv hR' he
  rcases hk with ⟨hf, rfl, hI⟩ | ⟨hf, rfl, hI⟩
  · obtain ⟨u, rfl, y, rfl, hy⟩ := hv
    exact hQ hf y S' hy ⟨Z', hI, hR'⟩ he
  · obtain ⟨u, rfl, y, rfl, hy⟩ := hv
    exact hT hf y S' ⟨Z', hI, hR'⟩ he
theorem lm_bits {scr : Nat × (Nat → Int32)} {f er : Int} {g : Int → Int} {Do : Option dT} {Yo : Option qY} {S : mm_S} {Q : mm_O → mm_S → Prop} {a0 : Int32} (hM : lw_M f er g Do Yo S) (hr : hw_room pg_TT S) (hQ : ∀ v e S', lw_M f e g Do Yo S' → hw_el w4_T S S' → Q (.inl (some (.int v))) S') : mm_ex pg_G pg_TT scr 1000 277 [.ref 1654, .int a0] S Q := by
  obtain ⟨Z, hZ, hR⟩ := hM
  refine r_bits (b := a0.toInt) (d := 998) (K := fun r Z' => (∃ x, r = some (hw_I x)) ∧ ∃ e, hm_I f e g Do Yo Z') (E := fun _ _ => False) w4_HU hZ (fun r e Z' h => ⟨⟨r, rfl⟩, e, h⟩) [.ref 1654, .int a0] S _ ⟨_, _, rfl, lw_v1, _, _, rfl, ⟨a0, rfl, rfl⟩, rfl⟩ hR hr ?_ (fun _ _ _ h => h.elim)
  intro r v Z' S' hk hv hR' he
  obtain ⟨⟨x, rfl⟩, e, hI⟩ := hk
  obtain ⟨u, rfl, y, rfl, -⟩ := hv
  exact hQ y e S' ⟨Z', hI, hR'⟩ he
theorem lm_part {scr : Nat × (Nat → Int32)} {f er : Int} {g : Int → Int} {Do : Option dT} {Yo : Option qY} {S : mm_S} {Q : mm_O → mm_S → Prop} {a0 : Int32} {a1 : Int32} (hM : lw_M f er g Do Yo S) (hr : hw_room pg_TT S) (hQ : ∀ v e S', lw_M f e g Do Yo S' → hw_el w4_T S S' → Q (.inl (some (.int v))) S') : mm_ex pg_G pg_TT scr 1000 278 [.ref 1654, .int a0, .int a1] S Q := by
  obtain ⟨Z, hZ, hR⟩ := hM
  refine r_part (b := a0.toInt) (k := a1.toInt) (d := 998) (K := fun r Z' => (∃ x, r = some (hw_I x)) ∧ ∃ e, hm_I f e g Do Yo Z') (E := fun _ _ => False) w4_HU (lw_r32 a1) hZ (fun r e Z' h => ⟨⟨r, rfl⟩, e, h⟩) [.ref 1654, .int a0, .int a1] S _ ⟨_, _, rfl, lw_v1, _, _, rfl, ⟨a0, rfl, rfl⟩, _, _, rfl, ⟨a1, rfl, rfl⟩, rfl⟩ hR hr ?_ (fun _ _ _ h => h.elim)
  intro r v Z' S' hk hv hR' he
  obtain ⟨⟨x, rfl⟩, e, hI⟩ := hk
  obtain ⟨u, rfl, y, rfl, -⟩ := hv
  exact hQ y e S' ⟨Z', hI, hR'⟩ he
theorem lm_count {scr : Nat × (Nat → Int32)} {f er : Int} {g : Int → Int} {Do : Option dT} {Yo : Option qY} {S : mm_S} {Q : mm_O → mm_S → Prop} {a0 : Int32} (hM : lw_M f er g Do Yo S) (hr : hw_room pg_TT S) (hQ : ∀ v e S', lw_M f e g Do Yo S' → hw_el w4_T S S' → Q (.inl (some (.int v))) S') : mm_ex pg_G pg_TT scr 1000 280 [.ref 1654, .int a0] S Q := by
  obtain ⟨Z, hZ, hR⟩ := hM
  refine r_count (x := a0.toInt) (d := 998) (K := fun r Z' => (∃ x, r = some (hw_I x)) ∧ ∃ e, hm_I f e g Do Yo Z') (E := fun _ _ => False) w4_HU hZ (fun r e Z' h => ⟨⟨r, rfl⟩, e, h⟩) [.ref 1654, .int a0] S _ ⟨_, _, rfl, lw_v1, _, _, rfl, ⟨a0, rfl, rfl⟩, rfl⟩ hR hr ?_ (fun _ _ _ h => h.elim)
  intro r v Z' S' hk hv hR' he
  obtain ⟨⟨x, rfl⟩, e, hI⟩ := hk
  obtain ⟨u, rfl, y, rfl, -⟩ := hv
  exact hQ y e S' ⟨Z', hI, hR'⟩ he
theorem lm_state {scr : Nat × (Nat → Int32)} {f er : Int} {g : Int → Int} {Do : Option dT} {Yo : Option qY} {S : mm_S} {Q : mm_O → mm_S → Prop} {a0 : Int32} {a1 : Int32} {a2 : Int32} (hM : lw_M f er g Do Yo S) (hr : hw_room pg_TT S) (hQ : ∀ v e S', lw_M f e g Do Yo S' → hw_el w4_T S S' → Q (.inl (some (.int v))) S') : mm_ex pg_G pg_TT scr 1000 275 [.ref 1654, .int a0, .int a1, .int a2] S Q := by
  obtain ⟨Z, hZ, hR⟩ := hM
  refine r_state (s := a0.toInt) (x := a1.toInt) (c := a2.toInt) (d := 998) (K := fun r Z' => (∃ x, r = some (hw_I x)) ∧ ∃ e, hm_I f e g Do Yo Z') (E := fun _ _ => False) w4_HU hZ (fun r e Z' h => ⟨⟨r, rfl⟩, e, h⟩) [.ref 1654, .int a0, .int a1, .int a2] S _ ⟨_, _, rfl, lw_v1, _, _, rfl, ⟨a0, rfl, rfl⟩, _, _, rfl, ⟨a1, rfl, rfl⟩, _, _, rfl, ⟨a2, rfl, rfl⟩, rfl⟩ hR hr ?_ (fun _ _ _ h => h.elim)
  intro r v Z' S' hk hv hR' he
  obtain ⟨⟨x, rfl⟩, e, hI⟩ := hk
  obtain ⟨u, rfl, y, rfl, -⟩ := hv
  exact hQ y e S' ⟨Z', hI, hR'⟩ he
theorem lm_outcome {scr : Nat × (Nat → Int32)} {f er : Int} {g : Int → Int} {Do : Option dT} {Yo : Option qY} {S : mm_S} {Q : mm_O → mm_S → Prop} {a0 : Int32} {a1 : Int32} {a2 : Int32} (hM : lw_M f er g Do Yo S) (hr : hw_room pg_TT S) (hQ : ∀ v e S', lw_M f e g Do Yo S' → hw_el w4_T S S' → Q (.inl (some (.int v))) S') : mm_ex pg_G pg_TT scr 1000 276 [.ref 1654, .int a0, .int a1, .int a2] S Q := by
  obtain ⟨Z, hZ, hR⟩ := hM
  refine r_outcome (s := a0.toInt) (c := a1.toInt) (o := a2.toInt) (d := 997) (K := fun r Z' => (∃ x, r = some (hw_I x)) ∧ ∃ e, hm_I f e g Do Yo Z') (E := fun _ _ => False) w4_HU (lw_r32 a2) hZ (fun r e Z' h => ⟨⟨r, rfl⟩, e, h⟩) [.ref 1654, .int a0, .int a1, .int a2] S _ ⟨_, _, rfl, lw_v1, _, _, rfl, ⟨a0, rfl, rfl⟩, _, _, rfl, ⟨a1, rfl, rfl⟩, _, _, rfl, ⟨a2, rfl, rfl⟩, rfl⟩ hR hr ?_ (fun _ _ _ h => h.elim)
  intro r v Z' S' hk hv hR' he
  obtain ⟨⟨x, rfl⟩, e, hI⟩ := hk
  obtain ⟨u, rfl, y, rfl, -⟩ := hv
  exact hQ y e S' ⟨Z', hI, hR'⟩ he
theorem lm_solve {scr : Nat × (Nat → Int32)} {f er : Int} {g : Int → Int} {Do : Option dT} {Yo : Option qY} {S : mm_S} {Q : mm_O → mm_S → Prop} {a0 : Int32} (hM : lw_M f er g Do Yo S) (hr : hw_room pg_TT S) (hQ : ∀ v e S', lw_M f e g Do Yo S' → hw_el w4_T S S' → Q (.inl (some (.int v))) S') : mm_ex pg_G pg_TT scr 1000 258 [.ref 1654, .int a0] S Q := by
  obtain ⟨Z, hZ, hR⟩ := hM
  refine r_solve (b := a0.toInt) (d := 991) (K := fun r Z' => (∃ x, r = some (hw_I x)) ∧ ∃ e, hm_I f e g Do Yo Z') (E := fun _ _ => False) w4_HU hZ (fun r e Z' h => ⟨⟨r, rfl⟩, e, h⟩) [.ref 1654, .int a0] S _ ⟨_, _, rfl, lw_v1, _, _, rfl, ⟨a0, rfl, rfl⟩, rfl⟩ hR hr ?_ (fun _ _ _ h => h.elim)
  intro r v Z' S' hk hv hR' he
  obtain ⟨⟨x, rfl⟩, e, hI⟩ := hk
  obtain ⟨u, rfl, y, rfl, -⟩ := hv
  exact hQ y e S' ⟨Z', hI, hR'⟩ he
theorem lm_value {scr : Nat × (Nat → Int32)} {f er : Int} {g : Int → Int} {Do : Option dT} {Yo : Option qY} {S : mm_S} {Q : mm_O → mm_S → Prop} {a0 : Int32} {a1 : Int32} (hM : lw_M f er g Do Yo S) (hr : hw_room pg_TT S) (hQ : ∀ v e S', lw_M f e g Do Yo S' → hw_el w4_T S S' → Q (.inl (some (.int v))) S') : mm_ex pg_G pg_TT scr 1000 269 [.ref 1654, .int a0, .int a1] S Q := by
  obtain ⟨Z, hZ, hR⟩ := hM
  refine r_value (b := a0.toInt) (s := a1.toInt) (d := 994) (K := fun r Z' => (∃ x, r = some (hw_I x)) ∧ ∃ e, hm_I f e g Do Yo Z') (E := fun _ _ => False) w4_HU hZ (fun r e Z' h => ⟨⟨r, rfl⟩, e, h⟩) [.ref 1654, .int a0, .int a1] S _ ⟨_, _, rfl, lw_v1, _, _, rfl, ⟨a0, rfl, rfl⟩, _, _, rfl, ⟨a1, rfl, rfl⟩, rfl⟩ hR hr ?_ (fun _ _ _ h => h.elim)
  intro r v Z' S' hk hv hR' he
  obtain ⟨⟨x, rfl⟩, e, hI⟩ := hk
  obtain ⟨u, rfl, y, rfl, -⟩ := hv
  exact hQ y e S' ⟨Z', hI, hR'⟩ he
theorem lm_claim {scr : Nat × (Nat → Int32)} {f er : Int} {g : Int → Int} {Do : Option dT} {Yo : Option qY} {S : mm_S} {Q : mm_O → mm_S → Prop} {a0 : Int32} {a1 : Int64} {a2 : Int64} (hM : lw_M f er g Do Yo S) (hr : hw_room pg_TT S) (hQ : ∀ e S', lw_M f e g Do Yo S' → hw_el w4_T S S' → Q (.inl none) S') : mm_ex pg_G pg_TT scr 1000 271 [.ref 1654, .int a0, .long a1, .long a2] S Q := by
  obtain ⟨Z, hZ, hR⟩ := hM
  refine r_claim (s := a0.toInt) (a := a1.toInt) (b := a2.toInt) (d := 998) (K := fun r Z' => r = none ∧ ∃ e, hm_I f e g Do Yo Z') (E := fun _ _ => False) w4_HU (lw_r64 a1) (lw_r64 a2) hZ (fun e Z' h => ⟨rfl, e, h⟩) [.ref 1654, .int a0, .long a1, .long a2] S _ ⟨_, _, rfl, lw_v1, _, _, rfl, ⟨a0, rfl, rfl⟩, _, _, rfl, ⟨a1, rfl, rfl⟩, _, _, rfl, ⟨a2, rfl, rfl⟩, rfl⟩ hR hr ?_ (fun _ _ _ h => h.elim)
  intro r v Z' S' hk hv hR' he
  obtain ⟨rfl, e, hI⟩ := hk
  have hv : v = none := hv
  subst hv
  exact hQ e S' ⟨Z', hI, hR'⟩ he
theorem lm_claimResult {scr : Nat × (Nat → Int32)} {f er : Int} {g : Int → Int} {Do : Option dT} {Yo : Option qY} {S : mm_S} {Q : mm_O → mm_S → Prop} {a0 : Int32} (hM : lw_M f er g Do Yo S) (hr : hw_room pg_TT S) (hQ : ∀ e S', lw_M f e g Do Yo S' → hw_el w4_T S S' → Q (.inl none) S') : mm_ex pg_G pg_TT scr 1000 272 [.ref 1654, .int a0] S Q := by
  obtain ⟨Z, hZ, hR⟩ := hM
  refine r_claimResult (s := a0.toInt) (d := 998) (K := fun r Z' => r = none ∧ ∃ e, hm_I f e g Do Yo Z') (E := fun _ _ => False) w4_HU hZ (fun e Z' h => ⟨rfl, e, h⟩) [.ref 1654, .int a0] S _ ⟨_, _, rfl, lw_v1, _, _, rfl, ⟨a0, rfl, rfl⟩, rfl⟩ hR hr ?_ (fun _ _ _ h => h.elim)
  intro r v Z' S' hk hv hR' he
  obtain ⟨rfl, e, hI⟩ := hk
  have hv : v = none := hv
  subst hv
  exact hQ e S' ⟨Z', hI, hR'⟩ he
theorem lm_check {scr : Nat × (Nat → Int32)} {f er : Int} {g : Int → Int} {Do : Option dT} {Yo : Option qY} {S : mm_S} {Q : mm_O → mm_S → Prop} {a0 : Int32} (hM : lw_M f er g Do Yo S) (hr : hw_room pg_TT S) (hQ : ∀ v e S', lw_M f e g Do Yo S' → hw_el w4_T S S' → Q (.inl (some (.int v))) S') : mm_ex pg_G pg_TT scr 1000 274 [.ref 1654, .int a0] S Q := by
  obtain ⟨Z, hZ, hR⟩ := hM
  refine r_check (b := a0.toInt) (d := 991) (K := fun r Z' => (∃ x, r = some (hw_I x)) ∧ ∃ e, hm_I f e g Do Yo Z') (E := fun _ _ => False) w4_HU hZ (fun r e Z' h => ⟨⟨r, rfl⟩, e, h⟩) [.ref 1654, .int a0] S _ ⟨_, _, rfl, lw_v1, _, _, rfl, ⟨a0, rfl, rfl⟩, rfl⟩ hR hr ?_ (fun _ _ _ h => h.elim)
  intro r v Z' S' hk hv hR' he
  obtain ⟨⟨x, rfl⟩, e, hI⟩ := hk
  obtain ⟨u, rfl, y, rfl, -⟩ := hv
  exact hQ y e S' ⟨Z', hI, hR'⟩ he
theorem lm_within {scr : Nat × (Nat → Int32)} {f er : Int} {g : Int → Int} {Do : Option dT} {Yo : Option qY} {S : mm_S} {Q : mm_O → mm_S → Prop} {a0 : Int32} {a1 : Int32} {a2 : Int32} (hM : lw_M f er g Do Yo S) (hr : hw_room pg_TT S) (hQ : ∀ v e S', lw_M f e g Do Yo S' → hw_el w4_T S S' → Q (.inl (some (.int v))) S') : mm_ex pg_G pg_TT scr 1000 270 [.ref 1654, .int a0, .int a1, .int a2] S Q := by
  obtain ⟨Z, hZ, hR⟩ := hM
  refine r_within (b := a0.toInt) (s := a1.toInt) (q := a2.toInt) (d := 994) (K := fun r Z' => (∃ x, r = some (hw_I x)) ∧ ∃ e, hm_I f e g Do Yo Z') (E := fun _ _ => False) w4_HU hZ (fun r e Z' h => ⟨⟨r, rfl⟩, e, h⟩) [.ref 1654, .int a0, .int a1, .int a2] S _ ⟨_, _, rfl, lw_v1, _, _, rfl, ⟨a0, rfl, rfl⟩, _, _, rfl, ⟨a1, rfl, rfl⟩, _, _, rfl, ⟨a2, rfl, rfl⟩, rfl⟩ hR hr ?_ (fun _ _ _ h => h.elim)
  intro r v Z' S' hk hv hR' he
  obtain ⟨⟨x, rfl⟩, e, hI⟩ := hk
  obtain ⟨u, rfl, y, rfl, -⟩ := hv
  exact hQ y e S' ⟨Z', hI, hR'⟩ he
theorem lm_explore {scr : Nat × (Nat → Int32)} {f er : Int} {g : Int → Int} {Do : Option dT} {Yo : Option qY} {S : mm_S} {Q : mm_O → mm_S → Prop}  (hM : lw_M f er g Do Yo S) (hr : hw_room pg_TT S) (hQ0 : Do = none → ∀ v S', lw_M f 1 g Do Yo S' → hw_el w4_T S S' → Q (.inl (some (.int v))) S') (hQ : ∀ Dq Yq v S', Do = some Dq → qEx Dq = .inr Yq → v.toInt = (Yq.1.1.length : Int) → lw_M f 0 g Do (some Yq) S' → hw_el w4_T S S' → Q (.inl (some (.int v))) S') (hQ1 : ∀ Dq c v S', Do = some Dq → qEx Dq = .inl c → lw_M f c g Do none S' → hw_el w4_T S S' → Q (.inl (some (.int v))) S') : mm_ex pg_G pg_TT scr 1000 237 [.ref 1654] S Q := by
  obtain ⟨Z, hZ, hR⟩ := hM
  refine r_explore (d := 990) (K := fun r Z' => (r = some (hw_I 0) ∧ Do = none ∧ hm_I f 1 g Do Yo Z') ∨ (∃ Dq Yq, r = some (hw_I (Yq.1.1.length : Int)) ∧ Do = some Dq ∧ qEx Dq = .inr Yq ∧ hm_I f 0 g Do (some Yq) Z') ∨ (∃ Dq c, r = some (hw_I 0) ∧ Do = some Dq ∧ qEx Dq = .inl c ∧ hm_I f c g Do none Z')) (E := fun _ _ => False) w4_HU hZ (fun h Z' h1 => Or.inl ⟨rfl, h, h1⟩) (fun Dq Yq Z' h1 h2 h3 => Or.inr (Or.inl ⟨Dq, Yq, rfl, h1, h2, h3⟩)) (fun Dq c Z' h1 h2 h3 => Or.inr (Or.inr ⟨Dq, c, rfl, h1, h2, h3⟩)) [.ref 1654] S _ ⟨_, _, rfl, lw_v1, rfl⟩ hR hr ?_ (fun _ _ _ h => h.elim)
  intro r v Z' S' hk hv hR' he
  rcases hk with ⟨rfl, hd, hI⟩ | ⟨Dq, Yq, rfl, hd, hx, hI⟩ | ⟨Dq, c, rfl, hd, hx, hI⟩
  · obtain ⟨u, rfl, y, rfl, -⟩ := hv
    exact hQ0 hd y S' ⟨Z', hI, hR'⟩ he
  · obtain ⟨u, rfl, y, rfl, hy⟩ := hv
    exact hQ Dq Yq y S' hd hx hy ⟨Z', hI, hR'⟩ he
  · obtain ⟨u, rfl, y, rfl, -⟩ := hv
    exact hQ1 Dq c y S' hd hx ⟨Z', hI, hR'⟩ he
theorem lm_end {scr : Nat × (Nat → Int32)} {f er : Int} {g : Int → Int} {Do : Option dT} {Yo : Option qY} {S : mm_S} {Q : mm_O → mm_S → Prop} {a0 : Int32} (hM : lw_M f er g Do Yo S) (hr : hw_room pg_TT S) (hQ0 : ¬ (0 ≤ a0.toInt ∧ a0.toInt ≤ 8192 ∧ a0.toInt ≤ f) → ∀ v S', lw_M f 1 g Do Yo S' → hw_el w4_T S S' → Q (.inl (some (.int v))) S') (hQ1 : (0 ≤ a0.toInt ∧ a0.toInt ≤ 8192 ∧ a0.toInt ≤ f) → pText g a0.toInt = none → ∀ v S', lw_M 0 2 g none none S' → hw_el w4_T S S' → Q (.inl (some (.int v))) S') (hQ2 : (0 ≤ a0.toInt ∧ a0.toInt ≤ 8192 ∧ a0.toInt ≤ f) → ∀ Dq r v S', pText g a0.toInt = some Dq → Dq.1 = r - 1 → v.toInt = r → lw_M 0 0 g (some Dq) none S' → hw_el w4_T S S' → Q (.inl (some (.int v))) S') : mm_ex pg_G pg_TT scr 1000 191 [.ref 1654, .int a0] S Q := by
  obtain ⟨Z, hZ, hR⟩ := hM
  refine r_end (q := a0.toInt) (d := 530) (K := fun r Z' => (r = some (hw_I 0) ∧ ¬ (0 ≤ a0.toInt ∧ a0.toInt ≤ 8192 ∧ a0.toInt ≤ f) ∧ hm_I f 1 g Do Yo Z') ∨ (r = some (hw_I 0) ∧ (0 ≤ a0.toInt ∧ a0.toInt ≤ 8192 ∧ a0.toInt ≤ f) ∧ pText g a0.toInt = none ∧ hm_I 0 2 g none none Z') ∨ (∃ x Dq, r = some (hw_I x) ∧ (0 ≤ a0.toInt ∧ a0.toInt ≤ 8192 ∧ a0.toInt ≤ f) ∧ pText g a0.toInt = some Dq ∧ Dq.1 = x - 1 ∧ hm_I 0 0 g (some Dq) none Z')) (E := fun _ _ => False) w4_HU hZ (fun h Z' h1 => Or.inl ⟨rfl, by omega, h1⟩) (fun h1 h2 h3 h4 Z' h5 => Or.inr (Or.inl ⟨rfl, ⟨h1, h2, h3⟩, h4, h5⟩)) (fun h1 h2 h3 Dq r Z' h4 h5 h6 => Or.inr (Or.inr ⟨r, Dq, rfl, ⟨h1, h2, h3⟩, h4, h5, h6⟩)) [.ref 1654, .int a0] S _ ⟨_, _, rfl, lw_v1, _, _, rfl, ⟨a0, rfl, rfl⟩, rfl⟩ hR hr ?_ (fun _ _ _ h => h.elim)
  intro r v Z' S' hk hv hR' he
  rcases hk with ⟨rfl, hf, hI⟩ | ⟨rfl, hf, hp, hI⟩ | ⟨x, Dq, rfl, hf, hp, hd, hI⟩
  · obtain ⟨u, rfl, y, rfl, -⟩ := hv
    exact hQ0 hf y S' ⟨Z', hI, hR'⟩ he
  · obtain ⟨u, rfl, y, rfl, -⟩ := hv
    exact hQ1 hf hp y S' ⟨Z', hI, hR'⟩ he
  · obtain ⟨u, rfl, y, rfl, hy⟩ := hv
    exact hQ2 hf Dq x y S' hp hd hy ⟨Z', hI, hR'⟩ he
theorem lm_countF {scr : Nat × (Nat → Int32)} {f er : Int} {g : Int → Int} {Do : Option dT} {Yo : Option qY} {S : mm_S} {Q : mm_O → mm_S → Prop} {a0 : Int32} (hM : lw_M f er g Do Yo S) (hr : hw_room pg_TT S) (hQ0 : 0 ≤ a0.toInt → a0.toInt ≤ 7 → ∀ v S', v.toInt = qcnt Do Yo a0.toInt → lw_M f 0 g Do Yo S' → hw_el w4_T S S' → Q (.inl (some (.int v))) S') (hQ1 : (a0.toInt < 0 ∨ 7 < a0.toInt) → ∀ v S', lw_M f 1 g Do Yo S' → hw_el w4_T S S' → Q (.inl (some (.int v))) S') : mm_ex pg_G pg_TT scr 1000 280 [.ref 1654, .int a0] S Q := by
  obtain ⟨Z, hZ, hR⟩ := hM
  refine r_countF (x := a0.toInt) (d := 998) (K := fun r Z' => (r = some (hw_I (qcnt Do Yo a0.toInt)) ∧ (0 ≤ a0.toInt ∧ a0.toInt ≤ 7) ∧ hm_I f 0 g Do Yo Z') ∨ (r = some (hw_I 0) ∧ (a0.toInt < 0 ∨ 7 < a0.toInt) ∧ hm_I f 1 g Do Yo Z')) (E := fun _ _ => False) w4_HU hZ (fun h1 h2 Z' h => Or.inl ⟨rfl, ⟨h1, h2⟩, h⟩) (fun h1 Z' h => Or.inr ⟨rfl, h1, h⟩) [.ref 1654, .int a0] S _ ⟨_, _, rfl, lw_v1, _, _, rfl, ⟨a0, rfl, rfl⟩, rfl⟩ hR hr ?_ (fun _ _ _ h => h.elim)
  intro r v Z' S' hk hv hR' he
  rcases hk with ⟨rfl, hf, hI⟩ | ⟨rfl, hf, hI⟩
  · obtain ⟨u, rfl, y, rfl, hy⟩ := hv
    exact hQ0 hf.1 hf.2 y S' hy ⟨Z', hI, hR'⟩ he
  · obtain ⟨u, rfl, y, rfl, -⟩ := hv
    exact hQ1 hf y S' ⟨Z', hI, hR'⟩ he
theorem lm_claimF {scr : Nat × (Nat → Int32)} {f er : Int} {g : Int → Int} {Do : Option dT} {Yo : Option qY} {S : mm_S} {Q : mm_O → mm_S → Prop} {a0 : Int32} {a1 : Int64} {a2 : Int64} (hM : lw_M f er g Do Yo S) (hr : hw_room pg_TT S) (hQ0 : 0 < a2.toInt → 0 ≤ a1.toInt → (∃ Y, Yo = some Y ∧ 0 ≤ a0.toInt ∧ a0.toInt < (Y.1.1.length : Int)) → ∀ S', lw_M f 0 g Do Yo S' → hw_el w4_T S S' → Q (.inl none) S') (hQ1 : (a2.toInt ≤ 0 ∨ a1.toInt < 0) → ∀ S', lw_M f 1 g Do Yo S' → hw_el w4_T S S' → Q (.inl none) S') (hQ2 : 0 < a2.toInt → 0 ≤ a1.toInt → Yo = none → ∀ S', lw_M f 2 g Do Yo S' → hw_el w4_T S S' → Q (.inl none) S') (hQ3 : 0 < a2.toInt → 0 ≤ a1.toInt → (∃ Y, Yo = some Y ∧ (a0.toInt < 0 ∨ (Y.1.1.length : Int) ≤ a0.toInt)) → ∀ S', lw_M f 3 g Do Yo S' → hw_el w4_T S S' → Q (.inl none) S') : mm_ex pg_G pg_TT scr 1000 271 [.ref 1654, .int a0, .long a1, .long a2] S Q := by
  obtain ⟨Z, hZ, hR⟩ := hM
  refine r_claimF (s := a0.toInt) (a := a1.toInt) (b := a2.toInt) (d := 998) (K := fun r Z' => (r = none ∧ (0 < a2.toInt ∧ 0 ≤ a1.toInt ∧ (∃ Y, Yo = some Y ∧ 0 ≤ a0.toInt ∧ a0.toInt < (Y.1.1.length : Int))) ∧ hm_I f 0 g Do Yo Z') ∨ (r = none ∧ (a2.toInt ≤ 0 ∨ a1.toInt < 0) ∧ hm_I f 1 g Do Yo Z') ∨ (r = none ∧ (0 < a2.toInt ∧ 0 ≤ a1.toInt ∧ Yo = none) ∧ hm_I f 2 g Do Yo Z') ∨ (r = none ∧ (0 < a2.toInt ∧ 0 ≤ a1.toInt ∧ (∃ Y, Yo = some Y ∧ (a0.toInt < 0 ∨ (Y.1.1.length : Int) ≤ a0.toInt))) ∧ hm_I f 3 g Do Yo Z')) (E := fun _ _ => False) w4_HU (lw_r64 a1) (lw_r64 a2) hZ (fun h1 h2 h3 Z' h => Or.inl ⟨rfl, ⟨h1, h2, h3⟩, h⟩) (fun h1 Z' h => Or.inr (Or.inl ⟨rfl, h1, h⟩)) (fun h1 h2 h3 Z' h => Or.inr (Or.inr (Or.inl ⟨rfl, ⟨h1, h2, h3⟩, h⟩))) (fun h1 h2 h3 Z' h => Or.inr (Or.inr (Or.inr ⟨rfl, ⟨h1, h2, h3⟩, h⟩))) [.ref 1654, .int a0, .long a1, .long a2] S _ ⟨_, _, rfl, lw_v1, _, _, rfl, ⟨a0, rfl, rfl⟩, _, _, rfl, ⟨a1, rfl, rfl⟩, _, _, rfl, ⟨a2, rfl, rfl⟩, rfl⟩ hR hr ?_ (fun _ _ _ h => h.elim)
  intro r v Z' S' hk hv hR' he
  have e : r = none := by rcases hk with h | h | h | h <;> exact h.1
  subst e
  have hv : v = none := hv
  subst hv
  rcases hk with ⟨_, hf, hI⟩ | ⟨_, hf, hI⟩ | ⟨_, hf, hI⟩ | ⟨_, hf, hI⟩
  · exact hQ0 hf.1 hf.2.1 hf.2.2 S' ⟨Z', hI, hR'⟩ he
  · exact hQ1 hf S' ⟨Z', hI, hR'⟩ he
  · exact hQ2 hf.1 hf.2.1 hf.2.2 S' ⟨Z', hI, hR'⟩ he
  · exact hQ3 hf.1 hf.2.1 hf.2.2 S' ⟨Z', hI, hR'⟩ he
theorem lm_outcomeF {scr : Nat × (Nat → Int32)} {f er : Int} {g : Int → Int} {Do : Option dT} {Yo : Option qY} {S : mm_S} {Q : mm_O → mm_S → Prop} {a0 : Int32} {a1 : Int32} {a2 : Int32} (hM : lw_M f er g Do Yo S) (hr : hw_room pg_TT S) (hQ0 : ∀ Y, Yo = some Y → oin Y a0.toInt a1.toInt a2.toInt → ∀ v S', v.toInt = oto Y a0.toInt a1.toInt a2.toInt → lw_M f 0 g Do Yo S' → hw_el w4_T S S' → Q (.inl (some (.int v))) S') (hQ1 : Yo = none → ∀ v S', lw_M f 1 g Do Yo S' → hw_el w4_T S S' → Q (.inl (some (.int v))) S') (hQ2 : ∀ Y, Yo = some Y → ¬ oin Y a0.toInt a1.toInt a2.toInt → ∀ v S', lw_M f 2 g Do Yo S' → hw_el w4_T S S' → Q (.inl (some (.int v))) S') : mm_ex pg_G pg_TT scr 1000 276 [.ref 1654, .int a0, .int a1, .int a2] S Q := by
  obtain ⟨Z, hZ, hR⟩ := hM
  refine r_outcomeF (s := a0.toInt) (c := a1.toInt) (o := a2.toInt) (d := 997) (K := fun r Z' => (∃ Y, r = some (hw_I (oto Y a0.toInt a1.toInt a2.toInt)) ∧ Yo = some Y ∧ oin Y a0.toInt a1.toInt a2.toInt ∧ hm_I f 0 g Do Yo Z') ∨ (r = some (hw_I 0) ∧ Yo = none ∧ hm_I f 1 g Do Yo Z') ∨ (∃ Y, r = some (hw_I 0) ∧ Yo = some Y ∧ ¬ oin Y a0.toInt a1.toInt a2.toInt ∧ hm_I f 2 g Do Yo Z')) (E := fun _ _ => False) w4_HU (lw_r32 a2) hZ (fun Y h1 h2 Z' h => Or.inl ⟨Y, rfl, h1, h2, h⟩) (fun h1 Z' h => Or.inr (Or.inl ⟨rfl, h1, h⟩)) (fun Y h1 h2 Z' h => Or.inr (Or.inr ⟨Y, rfl, h1, h2, h⟩)) [.ref 1654, .int a0, .int a1, .int a2] S _ ⟨_, _, rfl, lw_v1, _, _, rfl, ⟨a0, rfl, rfl⟩, _, _, rfl, ⟨a1, rfl, rfl⟩, _, _, rfl, ⟨a2, rfl, rfl⟩, rfl⟩ hR hr ?_ (fun _ _ _ h => h.elim)
  intro r v Z' S' hk hv hR' he
  rcases hk with ⟨Y, rfl, hY, hf, hI⟩ | ⟨rfl, hf, hI⟩ | ⟨Y, rfl, hY, hf, hI⟩
  · obtain ⟨u, rfl, y, rfl, hy⟩ := hv
    exact hQ0 Y hY hf y S' hy ⟨Z', hI, hR'⟩ he
  · obtain ⟨u, rfl, y, rfl, -⟩ := hv
    exact hQ1 hf y S' ⟨Z', hI, hR'⟩ he
  · obtain ⟨u, rfl, y, rfl, -⟩ := hv
    exact hQ2 Y hY hf y S' ⟨Z', hI, hR'⟩ he
theorem lc_wrong {scr : Nat × (Nat → Int32)} {f : Int} {g : Int → Int} {Do : Option dT} {Yo : Option qY} {S : mm_S} {Q : mm_O → mm_S → Prop}  (hB : lw_B f g Do Yo S) (hr : hw_room pg_TT S) (hQ : ∀ v S', lw_B f g Do Yo S' → lw_R S S' → Q (.inl (some (.int v))) S') : mm_ex pg_G pg_TT scr 1000 15 [.ref 0] S Q := by
  obtain ⟨⟨Z, hI, hR⟩, ⟨e, hO⟩, h3⟩ := hB
  refine q_wrong (d := 999) (K := fun r Z' => (∃ x, r = some (hw_I x)) ∧ hv_I f g Do Yo Z') (E := fun _ _ => False) w3_HU hI (fun r Z' h => ⟨⟨r, rfl⟩, h⟩) [.ref 0] S _ ⟨_, _, rfl, lw_v0, rfl⟩ hR hr ?_ (fun _ _ _ h => h.elim)
  intro r v Z' S' hk hv hR' he
  obtain ⟨⟨x, rfl⟩, hI'⟩ := hk
  obtain ⟨u, rfl, y, rfl, -⟩ := hv
  have D := lw_dn hI' hR' he hO h3
  exact hQ y S' D.1 D.2
theorem lc_bits {scr : Nat × (Nat → Int32)} {f : Int} {g : Int → Int} {Do : Option dT} {Yo : Option qY} {S : mm_S} {Q : mm_O → mm_S → Prop} {a0 : Int32} (hB : lw_B f g Do Yo S) (hr : hw_room pg_TT S) (hQ : ∀ v S', lw_B f g Do Yo S' → lw_R S S' → Q (.inl (some (.int v))) S') : mm_ex pg_G pg_TT scr 1000 16 [.ref 0, .int a0] S Q := by
  obtain ⟨⟨Z, hI, hR⟩, ⟨e, hO⟩, h3⟩ := hB
  refine q_bits (x := a0.toInt) (d := 997) (K := fun r Z' => (∃ x, r = some (hw_I x)) ∧ hv_I f g Do Yo Z') (E := fun _ _ => False) w3_HU hI (fun r Z' h => ⟨⟨r, rfl⟩, h⟩) [.ref 0, .int a0] S _ ⟨_, _, rfl, lw_v0, _, _, rfl, ⟨a0, rfl, rfl⟩, rfl⟩ hR hr ?_ (fun _ _ _ h => h.elim)
  intro r v Z' S' hk hv hR' he
  obtain ⟨⟨x, rfl⟩, hI'⟩ := hk
  obtain ⟨u, rfl, y, rfl, -⟩ := hv
  have D := lw_dn hI' hR' he hO h3
  exact hQ y S' D.1 D.2
