/-! two abstract states of one memory -/
section SM
variable {T : hw_T} {Z Z2 : hw_Z} {S : mm_S}
theorem hw_af_u {kk n n2 : Nat} {e : mm_E} {g g2 : Int → Int} (h : hw_af kk n e g) (h2 : hw_af kk n2 e g2) : ∀ i : Nat, i < n → g i = g2 i := by
  rcases h with ⟨c, f, e1, h⟩ | ⟨c, f, e1, h⟩
  · rcases h2 with ⟨c2, f2, e2, h2⟩ | ⟨c2, f2, e2, h2⟩
    · rw [e1] at e2
      have e3 := Sum.inl.inj e2
      have q2 : n = n2 := congrArg (fun x => x.2.1) e3
      have q4 : f = f2 := Sum.inl.inj (congrArg (fun x => x.2.2) e3)
      subst q2 q4
      intro i hi
      rw [h i hi, h2 i hi]
    · omega
  · rcases h2 with ⟨c2, f2, e2, h2⟩ | ⟨c2, f2, e2, h2⟩
    · omega
    · rw [e1] at e2
      have e3 := Sum.inl.inj e2
      have q2 : n = n2 := congrArg (fun x => x.2.1) e3
      have q4 : f = f2 := Sum.inl.inj (Sum.inr.inj (congrArg (fun x => x.2.2) e3))
      subst q2 q4
      intro i hi
      rw [h i hi, h2 i hi]
theorem hw_same {a kk n j : Nat} {b : Option (Int × Int × Int)} (h1 : hw_RS T Z S) (h2 : hw_RS T Z2 S) (ha : T.2.2.1 a) (hs : hw_sh T a = .inr (kk, some n, .inl (some (.inl j), b))) : ∃ g g2, Z.2.1[j]? = some g ∧ Z2.2.1[j]? = some g2 ∧ ∀ i : Int, 0 ≤ i → i < n → g i = g2 i := by
  have c1 := (h1.2 a ha).2
  have c2 := (h2.2 a ha).2
  rw [hs] at c1 c2
  obtain ⟨n1, g, e1, f1, t1, -⟩ := c1
  obtain ⟨n2, g2, e2, f2, t2, -⟩ := c2
  refine ⟨g, g2, t1, t2, fun i i0 i1 => ?_⟩
  have e1 : (n1 : Int) = n := e1
  have q := hw_af_u f1 f2 i.toNat (by omega)
  rw [show ((i.toNat : Nat) : Int) = i by omega] at q
  exact q
theorem hw_samef {a c k j : Nat} {fs : List hw_F} {b : hw_B} (h1 : hw_RS T Z S) (h2 : hw_RS T Z2 S) (ha : T.2.2.1 a) (hs : hw_sh T a = .inl (c, fs)) (hf : fs[k]? = some (.inl (some (.inl j), b))) : Z.1[j]? = Z2.1[j]? := by
  have c1 := (h1.2 a ha).2
  have c2 := (h2.2 a ha).2
  rw [hs] at c1 c2
  obtain ⟨vs, e1, -, q1⟩ := c1
  obtain ⟨vs2, e2, -, q2⟩ := c2
  rw [e1] at e2
  have e3 : vs = vs2 := congrArg (fun x => x.2) (Sum.inr.inj e2)
  subst e3
  obtain ⟨v, v1, x, v2, v3, -⟩ := q1 k _ hf
  obtain ⟨v', w1, x', w2, w3, -⟩ := q2 k _ hf
  rw [v1] at w1
  have e4 : v = v' := Option.some.inj w1
  subst e4
  rw [v2] at w2
  have e5 : x = x' := Value.int.inj w2
  subst e5
  have v3 : Z.1[j]? = some x.toInt := v3
  have w3 : Z2.1[j]? = some x.toInt := w3
  rw [v3, w3]
theorem hw_refc {a c k q : Nat} {o : hw_N} {fs : List hw_F} (h1 : hw_RS T Z S) (ha : T.2.2.1 a) (hs : hw_sh T a = .inl (c, fs)) (hf : fs[k]? = some (.inr (.inr (q, o)))) (hk : q < 1000000) : ∃ b, T.2.2.1 b ∧ T.2.1 b = (q, hw_ix o (T.2.1 a).2) := by
  have c1 := (h1.2 a ha).2
  rw [hs] at c1
  obtain ⟨vs, e1, -, q1⟩ := c1
  obtain ⟨v, v1, v2⟩ := q1 k _ hf
  have v2 : hw_v T (.inr (.inr (q, hw_ix o (T.2.1 a).2))) v := v2
  obtain ⟨b, -, h | h | h⟩ := v2
  · exact ⟨b, h.1, h.2.1⟩
  · exact absurd h.1 (by show ¬ q = 1000000; omega)
  · exact absurd h.1 (by show ¬ q = 1000001; omega)
end SM
section JS
variable {scr : Nat × (Nat → Int32)} {T : hw_T} {d gm : Nat} {args : List hw_V} {Z : hw_Z} {K K1 K2 : Option hw_V → hw_Z → Prop} {E E1 E2 : Nat → hw_Z → Prop}
theorem jS (h1 : hw_C pg_G pg_TT scr T d gm args Z K1 E1) (h2 : hw_C pg_G pg_TT scr T d gm args Z K2 E2) (hK : ∀ as S r1 r2 v Z' Z2' S', hw_st T args as → hw_RS T Z S → K1 r1 Z' → K2 r2 Z2' → hw_vo T r1 v → hw_vo T r2 v → hw_RS T Z' S' → hw_RS T Z2' S' → K r1 Z') (hE : ∀ ec Z' Z2', E1 ec Z' → E2 ec Z2' → E ec Z') : hw_C pg_G pg_TT scr T d gm args Z K E := by
  intro as S Q hst hR hr q1 q2
  have A := jC h1 hst hR hr
  have B := jC h2 hst hR hr
  refine mm_ex_mono d gm as S _ _ (fun o S' hj => ?_) (mm_ex_and d gm as S _ _ A B)
  obtain ⟨a, b⟩ := hj
  rcases a with ⟨r, v, Z', e1, a1, a2, a3, a4⟩ | ⟨ec, Z', S0, e1, e2, a1, a2, a3⟩
  · subst e1
    rcases b with ⟨r', v', Z'', e1, b1, b2, b3, b4⟩ | ⟨ec', Z'', S0', e1, e2, b1, b2, b3⟩
    · injection e1 with e1
      subst e1
      exact q1 r v Z' S' (hK as S r r' v Z' Z'' S' hst hR a1 b1 a2 b2 a3 b3) a2 a3 a4
    · cases e1
  · subst e1 e2
    rcases b with ⟨r', v', Z'', e1, b1, b2, b3, b4⟩ | ⟨ec', Z'', S0', e1, e2, b1, b2, b3⟩
    · cases e1
    · injection e1 with e1
      injection e1 with e1 e3
      subst e1
      exact q2 ec Z' S0 (hE ec Z' Z'' a1 b1) a2 a3
end JS
/-! a description, by what its arrays hold in their rooms -/
section MG
variable {cd cd' gu gu' up up' st st' cm cm' ca ca' lo lo' hi hi' fi fi' : Int → Int} {cs cn vn md an tg k p : Int}
theorem uC_g {f g : Int → Int} {a b : Int} (h0 : 0 ≤ a) (hb : b % 2 = 0) (h : ∀ q, 0 ≤ q → q < b → g q = f q) : uC g a b = uC f a b := by
  unfold uC yCo
  refine yCf_eq _ (fun i hi => ?_)
  unfold mop mwi
  rw [h _ (by omega) (by omega), h _ (by omega) (by omega)]
  exact ⟨rfl, rfl⟩
theorem mcd_g {f g : Int → Int} {e : Int} {C : yC} (h : mcd f cs e C) (hs : ∀ q, 0 ≤ q → q < cs → g q = f q) : mcd g cs e C := by
  obtain ⟨b, ⟨b1, b2, b3, b4, b5⟩, b6, b7, b8⟩ := h
  refine ⟨b, ⟨b1, b2, b3, b4, b5⟩, b6, ?_, ?_⟩
  · rw [hs b (by omega) (by omega)]
    exact b7
  · rw [uC_g b1 b4 (fun q q0 q1 => hs q q0 (by omega))]
    exact b8
theorem mUs_g {f g : Int → Int} {U : dU} (h : mUs f cs st p U) (hs : ∀ q, 0 ≤ q → q < cs → g q = f q) : mUs g cs st p U := ⟨fun j v C hj => ⟨(h.1 j v C hj).1, mcd_g (h.1 j v C hj).2 hs⟩, h.2.1, h.2.2⟩
theorem mK_g {c : dC} (h : mK cd cs gu up st cm ca k c) (k0 : 0 ≤ k) (k1 : k < 40) (eg : ∀ i, 0 ≤ i → i < 40 → gu' i = gu i) (eu : ∀ i, 0 ≤ i → i < 40 → up' i = up i) (es : ∀ i, 0 ≤ i → i < 1920 → st' i = st i) (ec : ∀ i, 0 ≤ i → i < 40 → cm' i = cm i) (ea : ∀ i, 0 ≤ i → i < 40 → ca' i = ca i) : mK cd cs gu' up' st' cm' ca' k c := by
  obtain ⟨a1, a2, a3, a4, a5, a6⟩ := h
  refine ⟨by rw [ec k k0 k1]; exact a1, by rw [ea k k0 k1]; exact a2, by rw [eg k k0 k1]; exact a3, by rw [eu k k0 k1]; exact a4, by rw [eu k k0 k1]; exact a5, fun u U hu => mUs_st (a6 u U hu) (fun v v0 v1 => es _ ?_ ?_)⟩
  · omega
  · have l := (List.getElem?_eq_some_iff.mp hu).1
    omega
theorem mD_g {D : dT} (h : mD D cd gu up st cm ca lo hi fi cn vn md an tg) (hd : dOK D) (ed : ∀ i, 0 ≤ i → i < 8000 → cd' i = cd i) (eg : ∀ i, 0 ≤ i → i < 40 → gu' i = gu i) (eu : ∀ i, 0 ≤ i → i < 40 → up' i = up i) (es : ∀ i, 0 ≤ i → i < 1920 → st' i = st i) (ec : ∀ i, 0 ≤ i → i < 40 → cm' i = cm i) (ea : ∀ i, 0 ≤ i → i < 40 → ca' i = ca i) (el : ∀ i, 0 ≤ i → i < 8 → lo' i = lo i) (eh : ∀ i, 0 ≤ i → i < 8 → hi' i = hi i) (ef : ∀ i, 0 ≤ i → i < 8 → fi' i = fi i) : mD D cd' gu' up' st' cm' ca' lo' hi' fi' cn vn md an tg := by
  obtain ⟨cs, ⟨_, h1, h2, h3, h4⟩, h5, h6, h7, h8⟩ := h
  obtain ⟨_, d1, d2, _⟩ := hd
  have hs : ∀ q, 0 ≤ q → q < cs → cd' q = cd q := fun i i0 i1 => ed i i0 (by omega)
  refine ⟨cs, ⟨(), fun k c hk => ?_, h2, cVs_f _ _ h3 (fun i i0 i1 => ⟨el i i0 (by omega), eh i i0 (by omega), ef i i0 (by omega)⟩), h4⟩, h5, h6, mcd_g h7 hs, h8⟩
  have l := (List.getElem?_eq_some_iff.mp hk).1
  obtain ⟨a1, a2, a3, a4, a5, a6⟩ := h1 k c hk
  exact mK_g ⟨a1, a2, mcd_g a3 hs, a4, a5, fun u U hu => mUs_g (a6 u U hu) hs⟩ (by omega) (by omega) eg eu es ec ea
end MG
