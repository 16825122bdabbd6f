/-! the law's wrappers -/
theorem lw_feed {scr : Nat × (Nat → Int32)} {f : Int} {g : Int → Int} {Do : Option dT} {Yo : Option qY} {S : mm_S} {Q : mm_O → mm_S → Prop} {a0 : Int32} {a1 : Int32} {a2 : Int32} {a3 : Int32} {a4 : Int32} (hB : lw_B f g Do Yo S) (hr : hw_room pg_TT S) (hQ : f ≤ 8180 → ∀ S' e, lw_B (f + 20) (fg g f a0.toInt a1.toInt a2.toInt a3.toInt a4.toInt) Do Yo S' → lw_R S S' → S'.2.2 3296 = .inl (1, 1, .inr (.inl e)) → (e 0).toInt = f + 20 → Q (.inl (some (.int 0))) S') (hT : 8180 < f → ∀ S', lw_B f g Do Yo S' → lw_R S S' → Q (.inl (some (.int 1))) S') : mm_ex pg_G pg_TT scr 1000 20 [.ref 0, .int a0, .int a1, .int a2, .int a3, .int a4, .ref 3296] S Q := by
  obtain ⟨⟨Z, hI, hR⟩, ⟨e, hO⟩, h3⟩ := hB
  refine ⟨rfl, ?_⟩
  show lw_W scr 999 20 Q (0, [some (.ref 0), some (.int a0), some (.int a1), some (.int a2), some (.int a3), some (.int a4), some (.ref 3296), none], [], S)
  refine lw_st (i := .aload 6) (nx := 2) (tg := 0) rfl rfl rfl rfl ?_
  refine lw_st (i := .iconst 0) (nx := 3) (tg := 0) rfl rfl rfl rfl ?_
  refine lw_st (i := .aload_n 0) (nx := 4) (tg := 0) rfl rfl rfl rfl ?_
  refine lw_st (i := .iload_n 1) (nx := 5) (tg := 0) rfl rfl rfl rfl ?_
  refine lw_st (i := .iload_n 2) (nx := 6) (tg := 0) rfl rfl rfl rfl ?_
  refine lw_st (i := .iload_n 3) (nx := 7) (tg := 0) rfl rfl rfl rfl ?_
  refine lw_st (i := .iload 4) (nx := 9) (tg := 0) rfl rfl rfl rfl ?_
  refine lw_st (i := .iload 5) (nx := 11) (tg := 0) rfl rfl rfl rfl ?_
  refine lw_iv (x := 7) (g := 20) (nx := 14) (tg := 0) rfl rfl rfl rfl (lw_lim hr) (Nat.le_of_ble_eq_true rfl) (Nat.le_of_ble_eq_true rfl) (lw_rk0 hR) ?_
  refine q_feed (x := a0.toInt) (y := a1.toInt) (t := a2.toInt) (u := a3.toInt) (v := a4.toInt) (d := 997) (K := fun r Z' => r = some (hw_I (f + 20)) ∧ f ≤ 8180 ∧ hv_I (f + 20) (fg g f a0.toInt a1.toInt a2.toInt a3.toInt a4.toInt) Do Yo Z') (E := fun c Z' => c = 17 ∧ 8180 < f ∧ hv_I f g Do Yo Z') w3_HU hI (fun Z' h1 h2 => ⟨rfl, h1, h2⟩) (fun h1 Z' h2 => ⟨rfl, h1, h2⟩) [.ref 0, .int a0, .int a1, .int a2, .int a3, .int a4] S _ ?_ hR hr ?_ ?_
  · exact ⟨_, _, rfl, lw_v0, _, _, rfl, ⟨a0, rfl, rfl⟩, _, _, rfl, ⟨a1, rfl, rfl⟩, _, _, rfl, ⟨a2, rfl, rfl⟩, _, _, rfl, ⟨a3, rfl, rfl⟩, _, _, rfl, ⟨a4, rfl, rfl⟩, rfl⟩
  · intro r v Z' S' hk hv hR' he
    obtain ⟨rfl, hf, hI'⟩ := hk
    obtain ⟨u, rfl, y, rfl, hy⟩ := hv
    show lw_W scr 999 20 Q (14, [some (.ref 0), some (.int a0), some (.int a1), some (.int a2), some (.int a3), some (.int a4), some (.ref 3296), none], [.int y, .int 0, .ref 3296], S')
    refine lw_st (i := .i2l) (nx := 15) (tg := 0) rfl rfl rfl rfl ?_
    refine lw_js (nx := 16) (tg := 0) (lw_o1 hO he) (by have := he.1; omega) rfl rfl ?_
    refine lw_st (i := .goto 7) (nx := 19) (tg := 23) rfl rfl rfl rfl ?_
    refine lw_st (i := .iconst 0) (nx := 24) (tg := 0) rfl rfl rfl rfl ?_
    refine lw_rt (nx := 25) (tg := 0) rfl ⟨_, rfl, rfl⟩ ?_
    exact hQ hf _ _ (lw_dr hI' hR' he h3).1 (lw_dr hI' hR' he h3).2 lw_us (lw_fe hy)
  · intro ec Z' S' hk hR' he
    obtain ⟨rfl, hf, hI'⟩ := hk
    have D := lw_dt (ec := 17) hI' hR' he hO h3 hr
    refine lw_ph (h := 19) (by decide) lw_ha ?_
    refine lw_st (i := .astore 7) (nx := 21) (tg := 0) rfl rfl rfl rfl ?_
    refine lw_st (i := .iconst 1) (nx := 22) (tg := 0) rfl rfl rfl rfl ?_
    refine lw_rt (nx := 23) (tg := 0) rfl ⟨_, rfl, rfl⟩ ?_
    exact hT hf _ D.1 D.2
theorem lw_end {scr : Nat × (Nat → Int32)} {f : Int} {g : Int → Int} {Do : Option dT} {Yo : Option qY} {S : mm_S} {Q : mm_O → mm_S → Prop} {a0 : Int32} (hB : lw_B f g Do Yo S) (hr : hw_room pg_TT S) (hQ : (0 ≤ a0.toInt ∧ a0.toInt ≤ 8192 ∧ a0.toInt ≤ f) → ∀ S' e Dq r, pText g a0.toInt = some Dq → Dq.1 = r - 1 → lw_B 0 g (some Dq) none S' → lw_R S S' → S'.2.2 3296 = .inl (1, 1, .inr (.inl e)) → (e 0).toInt = r → Q (.inl (some (.int 0))) S') (hT1 : ¬ (0 ≤ a0.toInt ∧ a0.toInt ≤ 8192 ∧ a0.toInt ≤ f) → ∀ S', lw_B f g Do Yo S' → lw_R S S' → Q (.inl (some (.int 1))) S') (hT2 : (0 ≤ a0.toInt ∧ a0.toInt ≤ 8192 ∧ a0.toInt ≤ f) → pText g a0.toInt = none → ∀ S', lw_B 0 g none none S' → lw_R S S' → Q (.inl (some (.int 2))) S') : mm_ex pg_G pg_TT scr 1000 24 [.ref 0, .int a0, .ref 3296] S Q := by
  obtain ⟨⟨Z, hI, hR⟩, ⟨e, hO⟩, h3⟩ := hB
  refine ⟨rfl, ?_⟩
  show lw_W scr 999 24 Q (0, [some (.ref 0), some (.int a0), some (.ref 3296), none], [], S)
  refine lw_st (i := .aload_n 2) (nx := 1) (tg := 0) rfl rfl rfl rfl ?_
  refine lw_st (i := .iconst 0) (nx := 2) (tg := 0) rfl rfl rfl rfl ?_
  refine lw_st (i := .aload_n 0) (nx := 3) (tg := 0) rfl rfl rfl rfl ?_
  refine lw_st (i := .iload_n 1) (nx := 4) (tg := 0) rfl rfl rfl rfl ?_
  refine lw_iv (x := 15) (g := 24) (nx := 7) (tg := 0) rfl rfl rfl rfl (lw_lim hr) (Nat.le_of_ble_eq_true rfl) (Nat.le_of_ble_eq_true rfl) (lw_rk0 hR) ?_
  refine q_end (m := a0.toInt) (d := 988) (K := fun r Z' => ∃ x Dq, r = some (hw_I x) ∧ (0 ≤ a0.toInt ∧ a0.toInt ≤ 8192 ∧ a0.toInt ≤ f) ∧ pText g a0.toInt = some Dq ∧ Dq.1 = x - 1 ∧ hv_I 0 g (some Dq) none Z') (E := fun c Z' => (c = 15 ∧ (0 ≤ a0.toInt ∧ a0.toInt ≤ 8192 ∧ a0.toInt ≤ f) ∧ pText g a0.toInt = none ∧ hv_I 0 g none none Z') ∨ (c = 17 ∧ ¬ (0 ≤ a0.toInt ∧ a0.toInt ≤ 8192 ∧ a0.toInt ≤ f) ∧ hv_I f g Do Yo Z')) w3_HU hI (fun Dq r Z' h1 h2 h3 h4 h5 h6 => ⟨r, Dq, rfl, ⟨h1, h2, h3⟩, h4, h5, h6⟩) (fun h1 Z' h2 => Or.inr ⟨rfl, by omega, h2⟩) (fun h1 h2 h3 h4 Z' h5 => Or.inl ⟨rfl, ⟨h1, h2, h3⟩, h4, h5⟩) [.ref 0, .int a0] S _ ?_ hR hr ?_ ?_
  · exact ⟨_, _, rfl, lw_v0, _, _, rfl, ⟨a0, rfl, rfl⟩, rfl⟩
  · intro r v Z' S' hk hv hR' he
    obtain ⟨x, Dq, rfl, hf, hp, hd, hI'⟩ := hk
    obtain ⟨u, rfl, y, rfl, hy⟩ := hv
    show lw_W scr 999 24 Q (7, [some (.ref 0), some (.int a0), some (.ref 3296), none], [.int y, .int 0, .ref 3296], S')
    refine lw_st (i := .i2l) (nx := 8) (tg := 0) rfl rfl rfl rfl ?_
    refine lw_js (nx := 9) (tg := 0) (lw_o1 hO he) (by have := he.1; omega) rfl rfl ?_
    refine lw_st (i := .goto 9) (nx := 12) (tg := 18) rfl rfl rfl rfl ?_
    refine lw_st (i := .iconst 0) (nx := 19) (tg := 0) rfl rfl rfl rfl ?_
    refine lw_rt (nx := 20) (tg := 0) rfl ⟨_, rfl, rfl⟩ ?_
    exact hQ hf _ _ Dq x hp hd (lw_dr hI' hR' he h3).1 (lw_dr hI' hR' he h3).2 lw_us (lw_fe hy)
  · intro ec Z' S' hk hR' he
    rcases hk with ⟨rfl, hf, hp, hI'⟩ | ⟨rfl, hf, hI'⟩
    · have D := lw_dt (ec := 15) hI' hR' he hO h3 hr
      refine lw_ph (h := 15) (by decide) lw_ha ?_
      refine lw_st (i := .astore_n 3) (nx := 16) (tg := 0) rfl rfl rfl rfl ?_
      refine lw_st (i := .iconst 2) (nx := 17) (tg := 0) rfl rfl rfl rfl ?_
      refine lw_rt (nx := 18) (tg := 0) rfl ⟨_, rfl, rfl⟩ ?_
      exact hT2 hf hp _ D.1 D.2
    · have D := lw_dt (ec := 17) hI' hR' he hO h3 hr
      refine lw_ph (h := 12) (by decide) lw_ha ?_
      refine lw_st (i := .astore_n 3) (nx := 13) (tg := 0) rfl rfl rfl rfl ?_
      refine lw_st (i := .iconst 1) (nx := 14) (tg := 0) rfl rfl rfl rfl ?_
      refine lw_rt (nx := 15) (tg := 0) rfl ⟨_, rfl, rfl⟩ ?_
      exact hT1 hf _ D.1 D.2
theorem lw_explore {scr : Nat × (Nat → Int32)} {f : Int} {g : Int → Int} {Do : Option dT} {Yo : Option qY} {S : mm_S} {Q : mm_O → mm_S → Prop}  (hB : lw_B f g Do Yo S) (hr : hw_room pg_TT S) (hQ : ∀ Dq Yq S' e, Do = some Dq → qEx Dq = .inr Yq → lw_B f g Do (some Yq) S' → lw_R S S' → S'.2.2 3296 = .inl (1, 1, .inr (.inl e)) → (e 0).toInt = (Yq.1.1.length : Int) → Q (.inl (some (.int 0))) S') (hT1 : Do = none → ∀ S', lw_B f g Do Yo S' → lw_R S S' → Q (.inl (some (.int 1))) S') (hT2 : ∀ Dq S', Do = some Dq → qEx Dq = .inl 2 → lw_B f g Do none S' → lw_R S S' → Q (.inl (some (.int 2))) S') (hT3 : ∀ Dq S', Do = some Dq → qEx Dq = .inl 3 → lw_B f g Do none S' → lw_R S S' → Q (.inl (some (.int 3))) S') : mm_ex pg_G pg_TT scr 1000 97 [.ref 0, .ref 3296] S Q := by
  obtain ⟨⟨Z, hI, hR⟩, ⟨e, hO⟩, h3⟩ := hB
  refine ⟨rfl, ?_⟩
  show lw_W scr 999 97 Q (0, [some (.ref 0), some (.ref 3296), none], [], S)
  refine lw_st (i := .aload_n 1) (nx := 1) (tg := 0) rfl rfl rfl rfl ?_
  refine lw_st (i := .iconst 0) (nx := 2) (tg := 0) rfl rfl rfl rfl ?_
  refine lw_st (i := .aload_n 0) (nx := 3) (tg := 0) rfl rfl rfl rfl ?_
  refine lw_iv (x := 21) (g := 97) (nx := 6) (tg := 0) rfl rfl rfl rfl (lw_lim hr) (Nat.le_of_ble_eq_true rfl) (Nat.le_of_ble_eq_true rfl) (lw_rk0 hR) ?_
  refine q_explore (d := 990) (K := fun r Z' => ∃ Dq Yq, r = some (hw_I (Yq.1.1.length : Int)) ∧ Do = some Dq ∧ qEx Dq = .inr Yq ∧ hv_I f g Do (some Yq) Z') (E := fun c Z' => (c = 14 ∧ ∃ Dq, Do = some Dq ∧ qEx Dq = .inl 2 ∧ hv_I f g Do none Z') ∨ (c = 16 ∧ Do = none ∧ hv_I f g Do Yo Z') ∨ (c = 18 ∧ ∃ Dq, Do = some Dq ∧ qEx Dq = .inl 3 ∧ hv_I f g Do none Z')) w3_HU hI (fun Dq Yq Z' h1 h2 h3 => ⟨Dq, Yq, rfl, h1, h2, h3⟩) (fun h1 Z' h2 => Or.inr (Or.inl ⟨rfl, h1, h2⟩)) (fun Dq Z' h1 h2 h3 => Or.inl ⟨rfl, Dq, h1, h2, h3⟩) (fun Dq Z' h1 h2 h3 => Or.inr (Or.inr ⟨rfl, Dq, h1, h2, h3⟩)) [.ref 0] S _ ?_ hR hr ?_ ?_
  · exact ⟨_, _, rfl, lw_v0, rfl⟩
  · intro r v Z' S' hk hv hR' he
    obtain ⟨Dq, Yq, rfl, hD, hX, hI'⟩ := hk
    obtain ⟨u, rfl, y, rfl, hy⟩ := hv
    show lw_W scr 999 97 Q (6, [some (.ref 0), some (.ref 3296), none], [.int y, .int 0, .ref 3296], S')
    refine lw_st (i := .i2l) (nx := 7) (tg := 0) rfl rfl rfl rfl ?_
    refine lw_js (nx := 8) (tg := 0) (lw_o1 hO he) (by have := he.1; omega) rfl rfl ?_
    refine lw_st (i := .goto 12) (nx := 11) (tg := 20) rfl rfl rfl rfl ?_
    refine lw_st (i := .iconst 0) (nx := 21) (tg := 0) rfl rfl rfl rfl ?_
    refine lw_rt (nx := 22) (tg := 0) rfl ⟨_, rfl, rfl⟩ ?_
    exact hQ Dq Yq _ _ hD hX (lw_dr hI' hR' he h3).1 (lw_dr hI' hR' he h3).2 lw_us (lw_fe hy)
  · intro ec Z' S' hk hR' he
    rcases hk with ⟨rfl, Dq, hD, hX, hI'⟩ | ⟨rfl, hD, hI'⟩ | ⟨rfl, Dq, hD, hX, hI'⟩
    · have D := lw_dt (ec := 14) hI' hR' he hO h3 hr
      refine lw_ph (h := 14) (by decide) lw_ha ?_
      refine lw_st (i := .astore_n 2) (nx := 15) (tg := 0) rfl rfl rfl rfl ?_
      refine lw_st (i := .iconst 2) (nx := 16) (tg := 0) rfl rfl rfl rfl ?_
      refine lw_rt (nx := 17) (tg := 0) rfl ⟨_, rfl, rfl⟩ ?_
      exact hT2 Dq _ hD hX D.1 D.2
    · have D := lw_dt (ec := 16) hI' hR' he hO h3 hr
      refine lw_ph (h := 11) (by decide) lw_ha ?_
      refine lw_st (i := .astore_n 2) (nx := 12) (tg := 0) rfl rfl rfl rfl ?_
      refine lw_st (i := .iconst 1) (nx := 13) (tg := 0) rfl rfl rfl rfl ?_
      refine lw_rt (nx := 14) (tg := 0) rfl ⟨_, rfl, rfl⟩ ?_
      exact hT1 hD _ D.1 D.2
    · have D := lw_dt (ec := 18) hI' hR' he hO h3 hr
      refine lw_ph (h := 17) (by decide) lw_ha ?_
      refine lw_st (i := .astore_n 2) (nx := 18) (tg := 0) rfl rfl rfl rfl ?_
      refine lw_st (i := .iconst 3) (nx := 19) (tg := 0) rfl rfl rfl rfl ?_
      refine lw_rt (nx := 20) (tg := 0) rfl ⟨_, rfl, rfl⟩ ?_
      exact hT3 Dq _ hD hX D.1 D.2
theorem lw_state {scr : Nat × (Nat → Int32)} {f : Int} {g : Int → Int} {Do : Option dT} {Yo : Option qY} {S : mm_S} {Q : mm_O → mm_S → Prop} {a0 : Int32} {a1 : Int32} {a2 : Int32} (hB : lw_B f g Do Yo S) (hr : hw_room pg_TT S) (hQ : ∀ v S', lw_B f g Do Yo S' → lw_R S S' → Q (.inl (some (.int v))) S') : mm_ex pg_G pg_TT scr 1000 113 [.ref 0, .int a0, .int a1, .int a2, .ref 3296] S Q := by
  obtain ⟨⟨Z, hI, hR⟩, ⟨e, hO⟩, h3⟩ := hB
  refine ⟨rfl, ?_⟩
  show lw_W scr 999 113 Q (0, [some (.ref 0), some (.int a0), some (.int a1), some (.int a2), some (.ref 3296), none], [], S)
  refine lw_st (i := .aload 4) (nx := 2) (tg := 0) rfl rfl rfl rfl ?_
  refine lw_st (i := .iconst 0) (nx := 3) (tg := 0) rfl rfl rfl rfl ?_
  refine lw_st (i := .aload_n 0) (nx := 4) (tg := 0) rfl rfl rfl rfl ?_
  refine lw_st (i := .iload_n 1) (nx := 5) (tg := 0) rfl rfl rfl rfl ?_
  refine lw_st (i := .iload_n 2) (nx := 6) (tg := 0) rfl rfl rfl rfl ?_
  refine lw_st (i := .iload_n 3) (nx := 7) (tg := 0) rfl rfl rfl rfl ?_
  refine lw_iv (x := 31) (g := 113) (nx := 10) (tg := 0) rfl rfl rfl rfl (lw_lim hr) (Nat.le_of_ble_eq_true rfl) (Nat.le_of_ble_eq_true rfl) (lw_rk0 hR) ?_
  refine q_state (s := a0.toInt) (x := a1.toInt) (k := a2.toInt) (d := 997) (K := fun r Z' => (∃ x, r = some (hw_I x)) ∧ hv_I f g Do Yo Z') (E := fun c Z' => (c = 15 ∨ c = 16 ∨ c = 17) ∧ hv_I f g Do Yo Z') w3_HU hI (fun r Z' h => ⟨⟨r, rfl⟩, h⟩) (fun c Z' h1 h2 => ⟨h1, h2⟩) [.ref 0, .int a0, .int a1, .int a2] S _ ?_ hR hr ?_ ?_
  · exact ⟨_, _, rfl, lw_v0, _, _, rfl, ⟨a0, rfl, rfl⟩, _, _, rfl, ⟨a1, rfl, rfl⟩, _, _, rfl, ⟨a2, rfl, rfl⟩, rfl⟩
  · intro r v Z' S' hk hv hR' he
    obtain ⟨⟨x, rfl⟩, hI'⟩ := hk
    obtain ⟨u, rfl, y, rfl, -⟩ := hv
    show lw_W scr 999 113 Q (10, [some (.ref 0), some (.int a0), some (.int a1), some (.int a2), some (.ref 3296), none], [.int y, .int 0, .ref 3296], S')
    refine lw_st (i := .i2l) (nx := 11) (tg := 0) rfl rfl rfl rfl ?_
    refine lw_js (nx := 12) (tg := 0) (lw_o1 hO he) (by have := he.1; omega) rfl rfl ?_
    refine lw_st (i := .goto 15) (nx := 15) (tg := 27) rfl rfl rfl rfl ?_
    refine lw_st (i := .iconst 0) (nx := 28) (tg := 0) rfl rfl rfl rfl ?_
    refine lw_rt (nx := 29) (tg := 0) rfl ⟨_, rfl, rfl⟩ ?_
    exact hQ _ _ (lw_dr hI' hR' he h3).1 (lw_dr hI' hR' he h3).2
  · intro ec Z' S' hk hR' he
    obtain ⟨hc, hI'⟩ := hk
    rcases hc with rfl | rfl | rfl
    · have D := lw_dt (ec := 15) hI' hR' he hO h3 hr
      refine lw_ph (h := 15) (by decide) lw_ha ?_
      refine lw_st (i := .astore 5) (nx := 17) (tg := 0) rfl rfl rfl rfl ?_
      refine lw_st (i := .iconst 1) (nx := 18) (tg := 0) rfl rfl rfl rfl ?_
      refine lw_rt (nx := 19) (tg := 0) rfl ⟨_, rfl, rfl⟩ ?_
      exact hQ _ _ D.1 D.2
    · have D := lw_dt (ec := 16) hI' hR' he hO h3 hr
      refine lw_ph (h := 19) (by decide) lw_ha ?_
      refine lw_st (i := .astore 5) (nx := 21) (tg := 0) rfl rfl rfl rfl ?_
      refine lw_st (i := .iconst 2) (nx := 22) (tg := 0) rfl rfl rfl rfl ?_
      refine lw_rt (nx := 23) (tg := 0) rfl ⟨_, rfl, rfl⟩ ?_
      exact hQ _ _ D.1 D.2
    · have D := lw_dt (ec := 17) hI' hR' he hO h3 hr
      refine lw_ph (h := 23) (by decide) lw_ha ?_
      refine lw_st (i := .astore 5) (nx := 25) (tg := 0) rfl rfl rfl rfl ?_
      refine lw_st (i := .iconst 3) (nx := 26) (tg := 0) rfl rfl rfl rfl ?_
      refine lw_rt (nx := 27) (tg := 0) rfl ⟨_, rfl, rfl⟩ ?_
      exact hQ _ _ D.1 D.2
theorem lw_outcome {scr : Nat × (Nat → Int32)} {f : Int} {g : Int → Int} {Do : Option dT} {Yo : Option qY} {S : mm_S} {Q : mm_O → mm_S → Prop} {a0 : Int32} {a1 : Int32} {a2 : Int32} (hB : lw_B f g Do Yo S) (hr : hw_room pg_TT S) (hQ : ∀ v S', lw_B f g Do Yo S' → lw_R S S' → Q (.inl (some (.int v))) S') : mm_ex pg_G pg_TT scr 1000 119 [.ref 0, .int a0, .int a1, .int a2, .ref 3296] S Q := by
  obtain ⟨⟨Z, hI, hR⟩, ⟨e, hO⟩, h3⟩ := hB
  refine ⟨rfl, ?_⟩
  show lw_W scr 999 119 Q (0, [some (.ref 0), some (.int a0), some (.int a1), some (.int a2), some (.ref 3296), none], [], S)
  refine lw_st (i := .aload 4) (nx := 2) (tg := 0) rfl rfl rfl rfl ?_
  refine lw_st (i := .iconst 0) (nx := 3) (tg := 0) rfl rfl rfl rfl ?_
  refine lw_st (i := .aload_n 0) (nx := 4) (tg := 0) rfl rfl rfl rfl ?_
  refine lw_st (i := .iload_n 1) (nx := 5) (tg := 0) rfl rfl rfl rfl ?_
  refine lw_st (i := .iload_n 2) (nx := 6) (tg := 0) rfl rfl rfl rfl ?_
  refine lw_st (i := .iload_n 3) (nx := 7) (tg := 0) rfl rfl rfl rfl ?_
  refine lw_iv (x := 35) (g := 119) (nx := 10) (tg := 0) rfl rfl rfl rfl (lw_lim hr) (Nat.le_of_ble_eq_true rfl) (Nat.le_of_ble_eq_true rfl) (lw_rk0 hR) ?_
  refine q_outcome (s := a0.toInt) (c := a1.toInt) (o := a2.toInt) (d := 993) (K := fun r Z' => (∃ x, r = some (hw_I x)) ∧ hv_I f g Do Yo Z') (E := fun c Z' => (c = 16 ∨ c = 17) ∧ hv_I f g Do Yo Z') w3_HU hI (fun r Z' h => ⟨⟨r, rfl⟩, h⟩) (fun c Z' h1 h2 => ⟨h1, h2⟩) [.ref 0, .int a0, .int a1, .int a2] S _ ?_ hR hr ?_ ?_
  · exact ⟨_, _, rfl, lw_v0, _, _, rfl, ⟨a0, rfl, rfl⟩, _, _, rfl, ⟨a1, rfl, rfl⟩, _, _, rfl, ⟨a2, rfl, rfl⟩, rfl⟩
  · intro r v Z' S' hk hv hR' he
    obtain ⟨⟨x, rfl⟩, hI'⟩ := hk
    obtain ⟨u, rfl, y, rfl, -⟩ := hv
    show lw_W scr 999 119 Q (10, [some (.ref 0), some (.int a0), some (.int a1), some (.int a2), some (.ref 3296), none], [.int y, .int 0, .ref 3296], S')
    refine lw_st (i := .i2l) (nx := 11) (tg := 0) rfl rfl rfl rfl ?_
    refine lw_js (nx := 12) (tg := 0) (lw_o1 hO he) (by have := he.1; omega) rfl rfl ?_
    refine lw_st (i := .goto 11) (nx := 15) (tg := 23) rfl rfl rfl rfl ?_
    refine lw_st (i := .iconst 0) (nx := 24) (tg := 0) rfl rfl rfl rfl ?_
    refine lw_rt (nx := 25) (tg := 0) rfl ⟨_, rfl, rfl⟩ ?_
    exact hQ _ _ (lw_dr hI' hR' he h3).1 (lw_dr hI' hR' he h3).2
  · intro ec Z' S' hk hR' he
    obtain ⟨hc, hI'⟩ := hk
    rcases hc with rfl | rfl
    · have D := lw_dt (ec := 16) hI' hR' he hO h3 hr
      refine lw_ph (h := 15) (by decide) lw_ha ?_
      refine lw_st (i := .astore 5) (nx := 17) (tg := 0) rfl rfl rfl rfl ?_
      refine lw_st (i := .iconst 1) (nx := 18) (tg := 0) rfl rfl rfl rfl ?_
      refine lw_rt (nx := 19) (tg := 0) rfl ⟨_, rfl, rfl⟩ ?_
      exact hQ _ _ D.1 D.2
    · have D := lw_dt (ec := 17) hI' hR' he hO h3 hr
      refine lw_ph (h := 19) (by decide) lw_ha ?_
      refine lw_st (i := .astore 5) (nx := 21) (tg := 0) rfl rfl rfl rfl ?_
      refine lw_st (i := .iconst 2) (nx := 22) (tg := 0) rfl rfl rfl rfl ?_
      refine lw_rt (nx := 23) (tg := 0) rfl ⟨_, rfl, rfl⟩ ?_
      exact hQ _ _ D.1 D.2
theorem lw_solve {scr : Nat × (Nat → Int32)} {f : Int} {g : Int → Int} {Do : Option dT} {Yo : Option qY} {S : mm_S} {Q : mm_O → mm_S → Prop} {a0 : Int32} (hB : lw_B f g Do Yo S) (hr : hw_room pg_TT S) (hQ : ∀ v S', lw_B f g Do Yo S' → lw_R S S' → Q (.inl (some (.int v))) S') : mm_ex pg_G pg_TT scr 1000 138 [.ref 0, .int a0, .ref 3296] S Q := by
  obtain ⟨⟨Z, hI, hR⟩, ⟨e, hO⟩, h3⟩ := hB
  refine ⟨rfl, ?_⟩
  show lw_W scr 999 138 Q (0, [some (.ref 0), some (.int a0), some (.ref 3296), none], [], S)
  refine lw_st (i := .aload_n 2) (nx := 1) (tg := 0) rfl rfl rfl rfl ?_
  refine lw_st (i := .iconst 0) (nx := 2) (tg := 0) rfl rfl rfl rfl ?_
  refine lw_st (i := .aload_n 0) (nx := 3) (tg := 0) rfl rfl rfl rfl ?_
  refine lw_st (i := .iload_n 1) (nx := 4) (tg := 0) rfl rfl rfl rfl ?_
  refine lw_iv (x := 38) (g := 138) (nx := 7) (tg := 0) rfl rfl rfl rfl (lw_lim hr) (Nat.le_of_ble_eq_true rfl) (Nat.le_of_ble_eq_true rfl) (lw_rk0 hR) ?_
  refine q_solve (x := a0.toInt) (d := 991) (K := fun r Z' => (∃ x, r = some (hw_I x)) ∧ hv_I f g Do Yo Z') (E := fun c Z' => (c = 16) ∧ hv_I f g Do Yo Z') w3_HU hI (fun r Z' h => ⟨⟨r, rfl⟩, h⟩) (fun c Z' h1 h2 => ⟨h1, h2⟩) [.ref 0, .int a0] S _ ?_ hR hr ?_ ?_
  · exact ⟨_, _, rfl, lw_v0, _, _, rfl, ⟨a0, rfl, rfl⟩, rfl⟩
  · intro r v Z' S' hk hv hR' he
    obtain ⟨⟨x, rfl⟩, hI'⟩ := hk
    obtain ⟨u, rfl, y, rfl, -⟩ := hv
    show lw_W scr 999 138 Q (7, [some (.ref 0), some (.int a0), some (.ref 3296), none], [.int y, .int 0, .ref 3296], S')
    refine lw_st (i := .i2l) (nx := 8) (tg := 0) rfl rfl rfl rfl ?_
    refine lw_js (nx := 9) (tg := 0) (lw_o1 hO he) (by have := he.1; omega) rfl rfl ?_
    refine lw_st (i := .goto 6) (nx := 12) (tg := 15) rfl rfl rfl rfl ?_
    refine lw_st (i := .iconst 0) (nx := 16) (tg := 0) rfl rfl rfl rfl ?_
    refine lw_rt (nx := 17) (tg := 0) rfl ⟨_, rfl, rfl⟩ ?_
    exact hQ _ _ (lw_dr hI' hR' he h3).1 (lw_dr hI' hR' he h3).2
  · intro ec Z' S' hk hR' he
    obtain ⟨hc, hI'⟩ := hk
    subst hc
    have D := lw_dt (ec := 16) hI' hR' he hO h3 hr
    refine lw_ph (h := 12) (by decide) lw_ha ?_
    refine lw_st (i := .astore_n 3) (nx := 13) (tg := 0) rfl rfl rfl rfl ?_
    refine lw_st (i := .iconst 1) (nx := 14) (tg := 0) rfl rfl rfl rfl ?_
    refine lw_rt (nx := 15) (tg := 0) rfl ⟨_, rfl, rfl⟩ ?_
    exact hQ _ _ D.1 D.2
theorem lw_value {scr : Nat × (Nat → Int32)} {f : Int} {g : Int → Int} {Do : Option dT} {Yo : Option qY} {S : mm_S} {Q : mm_O → mm_S → Prop} {a0 : Int32} {a1 : Int32} (hB : lw_B f g Do Yo S) (hr : hw_room pg_TT S) (hQ : ∀ v S', lw_B f g Do Yo S' → lw_R S S' → Q (.inl (some (.int v))) S') : mm_ex pg_G pg_TT scr 1000 161 [.ref 0, .int a0, .int a1, .ref 3296] S Q := by
  obtain ⟨⟨Z, hI, hR⟩, ⟨e, hO⟩, h3⟩ := hB
  refine ⟨rfl, ?_⟩
  show lw_W scr 999 161 Q (0, [some (.ref 0), some (.int a0), some (.int a1), some (.ref 3296), none], [], S)
  refine lw_st (i := .aload_n 3) (nx := 1) (tg := 0) rfl rfl rfl rfl ?_
  refine lw_st (i := .iconst 0) (nx := 2) (tg := 0) rfl rfl rfl rfl ?_
  refine lw_st (i := .aload_n 0) (nx := 3) (tg := 0) rfl rfl rfl rfl ?_
  refine lw_st (i := .iload_n 1) (nx := 4) (tg := 0) rfl rfl rfl rfl ?_
  refine lw_st (i := .iload_n 2) (nx := 5) (tg := 0) rfl rfl rfl rfl ?_
  refine lw_iv (x := 42) (g := 161) (nx := 8) (tg := 0) rfl rfl rfl rfl (lw_lim hr) (Nat.le_of_ble_eq_true rfl) (Nat.le_of_ble_eq_true rfl) (lw_rk0 hR) ?_
  refine q_value (x := a0.toInt) (s := a1.toInt) (d := 993) (K := fun r Z' => (∃ x, r = some (hw_I x)) ∧ hv_I f g Do Yo Z') (E := fun c Z' => (c = 16 ∨ c = 17) ∧ hv_I f g Do Yo Z') w3_HU hI (fun r Z' h => ⟨⟨r, rfl⟩, h⟩) (fun c Z' h1 h2 => ⟨h1, h2⟩) [.ref 0, .int a0, .int a1] S _ ?_ hR hr ?_ ?_
  · exact ⟨_, _, rfl, lw_v0, _, _, rfl, ⟨a0, rfl, rfl⟩, _, _, rfl, ⟨a1, rfl, rfl⟩, rfl⟩
  · intro r v Z' S' hk hv hR' he
    obtain ⟨⟨x, rfl⟩, hI'⟩ := hk
    obtain ⟨u, rfl, y, rfl, -⟩ := hv
    show lw_W scr 999 161 Q (8, [some (.ref 0), some (.int a0), some (.int a1), some (.ref 3296), none], [.int y, .int 0, .ref 3296], S')
    refine lw_if (nx := 11) (tg := 15) rfl rfl (fun _ => ?_) (fun _ => ?_)
    · skip
      refine lw_st (i := .lconst 0) (nx := 16) (tg := 0) rfl rfl rfl rfl ?_
      refine lw_js (nx := 17) (tg := 0) (lw_o1 hO he) (by have := he.1; omega) rfl rfl ?_
      refine lw_st (i := .goto 11) (nx := 20) (tg := 28) rfl rfl rfl rfl ?_
      refine lw_st (i := .iconst 0) (nx := 29) (tg := 0) rfl rfl rfl rfl ?_
      refine lw_rt (nx := 30) (tg := 0) rfl ⟨_, rfl, rfl⟩ ?_
      exact hQ _ _ (lw_dr hI' hR' he h3).1 (lw_dr hI' hR' he h3).2
    · skip
      refine lw_st (i := .lconst 1) (nx := 12) (tg := 0) rfl rfl rfl rfl ?_
      refine lw_st (i := .goto 4) (nx := 15) (tg := 16) rfl rfl rfl rfl ?_
      refine lw_js (nx := 17) (tg := 0) (lw_o1 hO he) (by have := he.1; omega) rfl rfl ?_
      refine lw_st (i := .goto 11) (nx := 20) (tg := 28) rfl rfl rfl rfl ?_
      refine lw_st (i := .iconst 0) (nx := 29) (tg := 0) rfl rfl rfl rfl ?_
      refine lw_rt (nx := 30) (tg := 0) rfl ⟨_, rfl, rfl⟩ ?_
      exact hQ _ _ (lw_dr hI' hR' he h3).1 (lw_dr hI' hR' he h3).2
  · intro ec Z' S' hk hR' he
    obtain ⟨hc, hI'⟩ := hk
    rcases hc with rfl | rfl
    · have D := lw_dt (ec := 16) hI' hR' he hO h3 hr
      refine lw_ph (h := 20) (by decide) lw_ha ?_
      refine lw_st (i := .astore 4) (nx := 22) (tg := 0) rfl rfl rfl rfl ?_
      refine lw_st (i := .iconst 1) (nx := 23) (tg := 0) rfl rfl rfl rfl ?_
      refine lw_rt (nx := 24) (tg := 0) rfl ⟨_, rfl, rfl⟩ ?_
      exact hQ _ _ D.1 D.2
    · have D := lw_dt (ec := 17) hI' hR' he hO h3 hr
      refine lw_ph (h := 24) (by decide) lw_ha ?_
      refine lw_st (i := .astore 4) (nx := 26) (tg := 0) rfl rfl rfl rfl ?_
      refine lw_st (i := .iconst 2) (nx := 27) (tg := 0) rfl rfl rfl rfl ?_
      refine lw_rt (nx := 28) (tg := 0) rfl ⟨_, rfl, rfl⟩ ?_
      exact hQ _ _ D.1 D.2
theorem lw_within {scr : Nat × (Nat → Int32)} {f : Int} {g : Int → Int} {Do : Option dT} {Yo : Option qY} {S : mm_S} {Q : mm_O → mm_S → Prop} {a0 : Int32} {a1 : Int32} {a2 : Int32} (hB : lw_B f g Do Yo S) (hr : hw_room pg_TT S) (hQ : ∀ v S', lw_B f g Do Yo S' → lw_R S S' → Q (.inl (some (.int v))) S') : mm_ex pg_G pg_TT scr 1000 165 [.ref 0, .int a0, .int a1, .int a2, .ref 3296] S Q := by
  obtain ⟨⟨Z, hI, hR⟩, ⟨e, hO⟩, h3⟩ := hB
  refine ⟨rfl, ?_⟩
  show lw_W scr 999 165 Q (0, [some (.ref 0), some (.int a0), some (.int a1), some (.int a2), some (.ref 3296), none], [], S)
  refine lw_st (i := .aload 4) (nx := 2) (tg := 0) rfl rfl rfl rfl ?_
  refine lw_st (i := .iconst 0) (nx := 3) (tg := 0) rfl rfl rfl rfl ?_
  refine lw_st (i := .aload_n 0) (nx := 4) (tg := 0) rfl rfl rfl rfl ?_
  refine lw_st (i := .iload_n 1) (nx := 5) (tg := 0) rfl rfl rfl rfl ?_
  refine lw_st (i := .iload_n 2) (nx := 6) (tg := 0) rfl rfl rfl rfl ?_
  refine lw_st (i := .iload_n 3) (nx := 7) (tg := 0) rfl rfl rfl rfl ?_
  refine lw_iv (x := 46) (g := 165) (nx := 10) (tg := 0) rfl rfl rfl rfl (lw_lim hr) (Nat.le_of_ble_eq_true rfl) (Nat.le_of_ble_eq_true rfl) (lw_rk0 hR) ?_
  refine q_within (x := a0.toInt) (s := a1.toInt) (m := a2.toInt) (d := 992) (K := fun r Z' => (∃ x, r = some (hw_I x)) ∧ hv_I f g Do Yo Z') (E := fun c Z' => (c = 15 ∨ c = 16 ∨ c = 17) ∧ hv_I f g Do Yo Z') w3_HU hI (fun r Z' h => ⟨⟨r, rfl⟩, h⟩) (fun c Z' h1 h2 => ⟨h1, h2⟩) [.ref 0, .int a0, .int a1, .int a2] S _ ?_ hR hr ?_ ?_
  · exact ⟨_, _, rfl, lw_v0, _, _, rfl, ⟨a0, rfl, rfl⟩, _, _, rfl, ⟨a1, rfl, rfl⟩, _, _, rfl, ⟨a2, rfl, rfl⟩, rfl⟩
  · intro r v Z' S' hk hv hR' he
    obtain ⟨⟨x, rfl⟩, hI'⟩ := hk
    obtain ⟨u, rfl, y, rfl, -⟩ := hv
    show lw_W scr 999 165 Q (10, [some (.ref 0), some (.int a0), some (.int a1), some (.int a2), some (.ref 3296), none], [.int y, .int 0, .ref 3296], S')
    refine lw_if (nx := 13) (tg := 17) rfl rfl (fun _ => ?_) (fun _ => ?_)
    · skip
      refine lw_st (i := .lconst 0) (nx := 18) (tg := 0) rfl rfl rfl rfl ?_
      refine lw_js (nx := 19) (tg := 0) (lw_o1 hO he) (by have := he.1; omega) rfl rfl ?_
      refine lw_st (i := .goto 15) (nx := 22) (tg := 34) rfl rfl rfl rfl ?_
      refine lw_st (i := .iconst 0) (nx := 35) (tg := 0) rfl rfl rfl rfl ?_
      refine lw_rt (nx := 36) (tg := 0) rfl ⟨_, rfl, rfl⟩ ?_
      exact hQ _ _ (lw_dr hI' hR' he h3).1 (lw_dr hI' hR' he h3).2
    · skip
      refine lw_st (i := .lconst 1) (nx := 14) (tg := 0) rfl rfl rfl rfl ?_
      refine lw_st (i := .goto 4) (nx := 17) (tg := 18) rfl rfl rfl rfl ?_
      refine lw_js (nx := 19) (tg := 0) (lw_o1 hO he) (by have := he.1; omega) rfl rfl ?_
      refine lw_st (i := .goto 15) (nx := 22) (tg := 34) rfl rfl rfl rfl ?_
      refine lw_st (i := .iconst 0) (nx := 35) (tg := 0) rfl rfl rfl rfl ?_
      refine lw_rt (nx := 36) (tg := 0) rfl ⟨_, rfl, rfl⟩ ?_
      exact hQ _ _ (lw_dr hI' hR' he h3).1 (lw_dr hI' hR' he h3).2
  · intro ec Z' S' hk hR' he
    obtain ⟨hc, hI'⟩ := hk
    rcases hc with rfl | rfl | rfl
    · have D := lw_dt (ec := 15) hI' hR' he hO h3 hr
      refine lw_ph (h := 22) (by decide) lw_ha ?_
      refine lw_st (i := .astore 5) (nx := 24) (tg := 0) rfl rfl rfl rfl ?_
      refine lw_st (i := .iconst 1) (nx := 25) (tg := 0) rfl rfl rfl rfl ?_
      refine lw_rt (nx := 26) (tg := 0) rfl ⟨_, rfl, rfl⟩ ?_
      exact hQ _ _ D.1 D.2
    · have D := lw_dt (ec := 16) hI' hR' he hO h3 hr
      refine lw_ph (h := 26) (by decide) lw_ha ?_
      refine lw_st (i := .astore 5) (nx := 28) (tg := 0) rfl rfl rfl rfl ?_
      refine lw_st (i := .iconst 2) (nx := 29) (tg := 0) rfl rfl rfl rfl ?_
      refine lw_rt (nx := 30) (tg := 0) rfl ⟨_, rfl, rfl⟩ ?_
      exact hQ _ _ D.1 D.2
    · have D := lw_dt (ec := 17) hI' hR' he hO h3 hr
      refine lw_ph (h := 30) (by decide) lw_ha ?_
      refine lw_st (i := .astore 5) (nx := 32) (tg := 0) rfl rfl rfl rfl ?_
      refine lw_st (i := .iconst 3) (nx := 33) (tg := 0) rfl rfl rfl rfl ?_
      refine lw_rt (nx := 34) (tg := 0) rfl ⟨_, rfl, rfl⟩ ?_
      exact hQ _ _ D.1 D.2
theorem lw_claim {scr : Nat × (Nat → Int32)} {f : Int} {g : Int → Int} {Do : Option dT} {Yo : Option qY} {S : mm_S} {Q : mm_O → mm_S → Prop} {a0 : Int32} {a1 : Int64} {a2 : Int64} (hB : lw_B f g Do Yo S) (hr : hw_room pg_TT S) (hQ : ∀ v S', lw_B f g Do Yo S' → lw_R S S' → Q (.inl (some (.int v))) S') : mm_ex pg_G pg_TT scr 1000 171 [.ref 0, .int a0, .long a1, .long a2] S Q := by
  obtain ⟨⟨Z, hI, hR⟩, ⟨e, hO⟩, h3⟩ := hB
  refine ⟨rfl, ?_⟩
  show lw_W scr 999 171 Q (0, [some (.ref 0), some (.int a0), some (.long a1), none, some (.long a2), none, none], [], S)
  refine lw_st (i := .aload_n 0) (nx := 1) (tg := 0) rfl rfl rfl rfl ?_
  refine lw_st (i := .iload_n 1) (nx := 2) (tg := 0) rfl rfl rfl rfl ?_
  refine lw_st (i := .lload_n 2) (nx := 3) (tg := 0) rfl rfl rfl rfl ?_
  refine lw_st (i := .lload 4) (nx := 5) (tg := 0) rfl rfl rfl rfl ?_
  refine lw_iv (x := 50) (g := 171) (nx := 8) (tg := 0) rfl rfl rfl rfl (lw_lim hr) (Nat.le_of_ble_eq_true rfl) (Nat.le_of_ble_eq_true rfl) (lw_rk0 hR) ?_
  refine q_claim (s := a0.toInt) (x := a1.toInt) (y := a2.toInt) (d := 996) (K := fun r Z' => r = none ∧ hv_I f g Do Yo Z') (E := fun c Z' => (c = 15 ∨ c = 16 ∨ c = 17) ∧ hv_I f g Do Yo Z') w3_HU hI (fun Z' h => ⟨rfl, h⟩) (fun c Z' h1 h2 => ⟨h1, h2⟩) [.ref 0, .int a0, .long a1, .long a2] S _ ?_ hR hr ?_ ?_
  · exact ⟨_, _, rfl, lw_v0, _, _, rfl, ⟨a0, rfl, rfl⟩, _, _, rfl, ⟨a1, rfl, rfl⟩, _, _, rfl, ⟨a2, rfl, rfl⟩, rfl⟩
  · intro r v Z' S' hk hv hR' he
    obtain ⟨rfl, hI'⟩ := hk
    have hv : v = none := hv
    subst hv
    have D := lw_dn hI' hR' he hO h3
    show lw_W scr 999 171 Q (8, [some (.ref 0), some (.int a0), some (.long a1), none, some (.long a2), none, none], [], S')
    refine lw_st (i := .goto 15) (nx := 11) (tg := 23) rfl rfl rfl rfl ?_
    refine lw_st (i := .iconst 0) (nx := 24) (tg := 0) rfl rfl rfl rfl ?_
    exact lw_rt (nx := 25) (tg := 0) rfl ⟨_, rfl, rfl⟩ (hQ _ _ D.1 D.2)
  · intro ec Z' S' hk hR' he
    obtain ⟨hc, hI'⟩ := hk
    rcases hc with rfl | rfl | rfl
    · have D := lw_dt (ec := 15) hI' hR' he hO h3 hr
      refine lw_ph (h := 11) (by decide) lw_ha ?_
      refine lw_st (i := .astore 6) (nx := 13) (tg := 0) rfl rfl rfl rfl ?_
      refine lw_st (i := .iconst 1) (nx := 14) (tg := 0) rfl rfl rfl rfl ?_
      refine lw_rt (nx := 15) (tg := 0) rfl ⟨_, rfl, rfl⟩ ?_
      exact hQ _ _ D.1 D.2
    · have D := lw_dt (ec := 16) hI' hR' he hO h3 hr
      refine lw_ph (h := 15) (by decide) lw_ha ?_
      refine lw_st (i := .astore 6) (nx := 17) (tg := 0) rfl rfl rfl rfl ?_
      refine lw_st (i := .iconst 2) (nx := 18) (tg := 0) rfl rfl rfl rfl ?_
      refine lw_rt (nx := 19) (tg := 0) rfl ⟨_, rfl, rfl⟩ ?_
      exact hQ _ _ D.1 D.2
    · have D := lw_dt (ec := 17) hI' hR' he hO h3 hr
      refine lw_ph (h := 19) (by decide) lw_ha ?_
      refine lw_st (i := .astore 6) (nx := 21) (tg := 0) rfl rfl rfl rfl ?_
      refine lw_st (i := .iconst 3) (nx := 22) (tg := 0) rfl rfl rfl rfl ?_
      refine lw_rt (nx := 23) (tg := 0) rfl ⟨_, rfl, rfl⟩ ?_
      exact hQ _ _ D.1 D.2
theorem lw_claimResult {scr : Nat × (Nat → Int32)} {f : Int} {g : Int → Int} {Do : Option dT} {Yo : Option qY} {S : mm_S} {Q : mm_O → mm_S → Prop} {a0 : Int32} (hB : lw_B f g Do Yo S) (hr : hw_room pg_TT S) (hQ : ∀ v S', lw_B f g Do Yo S' → lw_R S S' → Q (.inl (some (.int v))) S') : mm_ex pg_G pg_TT scr 1000 173 [.ref 0, .int a0] S Q := by
  obtain ⟨⟨Z, hI, hR⟩, ⟨e, hO⟩, h3⟩ := hB
  refine ⟨rfl, ?_⟩
  show lw_W scr 999 173 Q (0, [some (.ref 0), some (.int a0), none], [], S)
  refine lw_st (i := .aload_n 0) (nx := 1) (tg := 0) rfl rfl rfl rfl ?_
  refine lw_st (i := .iload_n 1) (nx := 2) (tg := 0) rfl rfl rfl rfl ?_
  refine lw_iv (x := 54) (g := 173) (nx := 5) (tg := 0) rfl rfl rfl rfl (lw_lim hr) (Nat.le_of_ble_eq_true rfl) (Nat.le_of_ble_eq_true rfl) (lw_rk0 hR) ?_
  refine q_claimResult (s := a0.toInt) (d := 996) (K := fun r Z' => r = none ∧ hv_I f g Do Yo Z') (E := fun c Z' => (c = 16 ∨ c = 17 ∨ c = 18) ∧ hv_I f g Do Yo Z') w3_HU hI (fun Z' h => ⟨rfl, h⟩) (fun c Z' h1 h2 => ⟨h1, h2⟩) [.ref 0, .int a0] S _ ?_ hR hr ?_ ?_
  · exact ⟨_, _, rfl, lw_v0, _, _, rfl, ⟨a0, rfl, rfl⟩, rfl⟩
  · intro r v Z' S' hk hv hR' he
    obtain ⟨rfl, hI'⟩ := hk
    have hv : v = none := hv
    subst hv
    have D := lw_dn hI' hR' he hO h3
    show lw_W scr 999 173 Q (5, [some (.ref 0), some (.int a0), none], [], S')
    refine lw_st (i := .goto 12) (nx := 8) (tg := 17) rfl rfl rfl rfl ?_
    refine lw_st (i := .iconst 0) (nx := 18) (tg := 0) rfl rfl rfl rfl ?_
    exact lw_rt (nx := 19) (tg := 0) rfl ⟨_, rfl, rfl⟩ (hQ _ _ D.1 D.2)
  · intro ec Z' S' hk hR' he
    obtain ⟨hc, hI'⟩ := hk
    rcases hc with rfl | rfl | rfl
    · have D := lw_dt (ec := 16) hI' hR' he hO h3 hr
      refine lw_ph (h := 8) (by decide) lw_ha ?_
      refine lw_st (i := .astore_n 2) (nx := 9) (tg := 0) rfl rfl rfl rfl ?_
      refine lw_st (i := .iconst 1) (nx := 10) (tg := 0) rfl rfl rfl rfl ?_
      refine lw_rt (nx := 11) (tg := 0) rfl ⟨_, rfl, rfl⟩ ?_
      exact hQ _ _ D.1 D.2
    · have D := lw_dt (ec := 17) hI' hR' he hO h3 hr
      refine lw_ph (h := 11) (by decide) lw_ha ?_
      refine lw_st (i := .astore_n 2) (nx := 12) (tg := 0) rfl rfl rfl rfl ?_
      refine lw_st (i := .iconst 2) (nx := 13) (tg := 0) rfl rfl rfl rfl ?_
      refine lw_rt (nx := 14) (tg := 0) rfl ⟨_, rfl, rfl⟩ ?_
      exact hQ _ _ D.1 D.2
    · have D := lw_dt (ec := 18) hI' hR' he hO h3 hr
      refine lw_ph (h := 14) (by decide) lw_ha ?_
      refine lw_st (i := .astore_n 2) (nx := 15) (tg := 0) rfl rfl rfl rfl ?_
      refine lw_st (i := .iconst 3) (nx := 16) (tg := 0) rfl rfl rfl rfl ?_
      refine lw_rt (nx := 17) (tg := 0) rfl ⟨_, rfl, rfl⟩ ?_
      exact hQ _ _ D.1 D.2
theorem lw_check {scr : Nat × (Nat → Int32)} {f : Int} {g : Int → Int} {Do : Option dT} {Yo : Option qY} {S : mm_S} {Q : mm_O → mm_S → Prop} {a0 : Int32} (hB : lw_B f g Do Yo S) (hr : hw_room pg_TT S) (hQ : ∀ v S', lw_B f g Do Yo S' → lw_R S S' → Q (.inl (some (.int v))) S') : mm_ex pg_G pg_TT scr 1000 175 [.ref 0, .int a0, .ref 3296] S Q := by
  obtain ⟨⟨Z, hI, hR⟩, ⟨e, hO⟩, h3⟩ := hB
  refine ⟨rfl, ?_⟩
  show lw_W scr 999 175 Q (0, [some (.ref 0), some (.int a0), some (.ref 3296), none], [], S)
  refine lw_st (i := .aload_n 2) (nx := 1) (tg := 0) rfl rfl rfl rfl ?_
  refine lw_st (i := .iconst 0) (nx := 2) (tg := 0) rfl rfl rfl rfl ?_
  refine lw_st (i := .aload_n 0) (nx := 3) (tg := 0) rfl rfl rfl rfl ?_
  refine lw_st (i := .iload_n 1) (nx := 4) (tg := 0) rfl rfl rfl rfl ?_
  refine lw_iv (x := 58) (g := 175) (nx := 7) (tg := 0) rfl rfl rfl rfl (lw_lim hr) (Nat.le_of_ble_eq_true rfl) (Nat.le_of_ble_eq_true rfl) (lw_rk0 hR) ?_
  refine q_check (x := a0.toInt) (d := 991) (K := fun r Z' => (∃ x, r = some (hw_I x)) ∧ hv_I f g Do Yo Z') (E := fun c Z' => (c = 16) ∧ hv_I f g Do Yo Z') w3_HU hI (fun r Z' h => ⟨⟨r, rfl⟩, h⟩) (fun c Z' h1 h2 => ⟨h1, h2⟩) [.ref 0, .int a0] S _ ?_ hR hr ?_ ?_
  · exact ⟨_, _, rfl, lw_v0, _, _, rfl, ⟨a0, rfl, rfl⟩, rfl⟩
  · intro r v Z' S' hk hv hR' he
    obtain ⟨⟨x, rfl⟩, hI'⟩ := hk
    obtain ⟨u, rfl, y, rfl, -⟩ := hv
    show lw_W scr 999 175 Q (7, [some (.ref 0), some (.int a0), some (.ref 3296), none], [.int y, .int 0, .ref 3296], S')
    refine lw_if (nx := 10) (tg := 14) rfl rfl (fun _ => ?_) (fun _ => ?_)
    · skip
      refine lw_st (i := .lconst 0) (nx := 15) (tg := 0) rfl rfl rfl rfl ?_
      refine lw_js (nx := 16) (tg := 0) (lw_o1 hO he) (by have := he.1; omega) rfl rfl ?_
      refine lw_st (i := .goto 6) (nx := 19) (tg := 22) rfl rfl rfl rfl ?_
      refine lw_st (i := .iconst 0) (nx := 23) (tg := 0) rfl rfl rfl rfl ?_
      refine lw_rt (nx := 24) (tg := 0) rfl ⟨_, rfl, rfl⟩ ?_
      exact hQ _ _ (lw_dr hI' hR' he h3).1 (lw_dr hI' hR' he h3).2
    · skip
      refine lw_st (i := .lconst 1) (nx := 11) (tg := 0) rfl rfl rfl rfl ?_
      refine lw_st (i := .goto 4) (nx := 14) (tg := 15) rfl rfl rfl rfl ?_
      refine lw_js (nx := 16) (tg := 0) (lw_o1 hO he) (by have := he.1; omega) rfl rfl ?_
      refine lw_st (i := .goto 6) (nx := 19) (tg := 22) rfl rfl rfl rfl ?_
      refine lw_st (i := .iconst 0) (nx := 23) (tg := 0) rfl rfl rfl rfl ?_
      refine lw_rt (nx := 24) (tg := 0) rfl ⟨_, rfl, rfl⟩ ?_
      exact hQ _ _ (lw_dr hI' hR' he h3).1 (lw_dr hI' hR' he h3).2
  · intro ec Z' S' hk hR' he
    obtain ⟨hc, hI'⟩ := hk
    subst hc
    have D := lw_dt (ec := 16) hI' hR' he hO h3 hr
    refine lw_ph (h := 19) (by decide) lw_ha ?_
    refine lw_st (i := .astore_n 3) (nx := 20) (tg := 0) rfl rfl rfl rfl ?_
    refine lw_st (i := .iconst 1) (nx := 21) (tg := 0) rfl rfl rfl rfl ?_
    refine lw_rt (nx := 22) (tg := 0) rfl ⟨_, rfl, rfl⟩ ?_
    exact hQ _ _ D.1 D.2
theorem lw_part {scr : Nat × (Nat → Int32)} {f : Int} {g : Int → Int} {Do : Option dT} {Yo : Option qY} {S : mm_S} {Q : mm_O → mm_S → Prop} {a0 : Int32} {a1 : Int32} (hB : lw_B f g Do Yo S) (hr : hw_room pg_TT S) (hQ : ∀ v S', lw_B f g Do Yo S' → lw_R S S' → Q (.inl (some (.int v))) S') : mm_ex pg_G pg_TT scr 1000 177 [.ref 0, .int a0, .int a1, .ref 3296] S Q := by
  obtain ⟨⟨Z, hI, hR⟩, ⟨e, hO⟩, h3⟩ := hB
  refine ⟨rfl, ?_⟩
  show lw_W scr 999 177 Q (0, [some (.ref 0), some (.int a0), some (.int a1), some (.ref 3296), none], [], S)
  refine lw_st (i := .aload_n 3) (nx := 1) (tg := 0) rfl rfl rfl rfl ?_
  refine lw_st (i := .iconst 0) (nx := 2) (tg := 0) rfl rfl rfl rfl ?_
  refine lw_st (i := .aload_n 0) (nx := 3) (tg := 0) rfl rfl rfl rfl ?_
  refine lw_st (i := .iload_n 1) (nx := 4) (tg := 0) rfl rfl rfl rfl ?_
  refine lw_st (i := .iload_n 2) (nx := 5) (tg := 0) rfl rfl rfl rfl ?_
  refine lw_iv (x := 62) (g := 177) (nx := 8) (tg := 0) rfl rfl rfl rfl (lw_lim hr) (Nat.le_of_ble_eq_true rfl) (Nat.le_of_ble_eq_true rfl) (lw_rk0 hR) ?_
  refine q_part (x := a0.toInt) (y := a1.toInt) (d := 997) (K := fun r Z' => (∃ x, r = some (hw_I x)) ∧ hv_I f g Do Yo Z') (E := fun c Z' => (c = 17) ∧ hv_I f g Do Yo Z') w3_HU hI (fun r Z' h => ⟨⟨r, rfl⟩, h⟩) (fun c Z' h1 h2 => ⟨h1, h2⟩) [.ref 0, .int a0, .int a1] S _ ?_ hR hr ?_ ?_
  · exact ⟨_, _, rfl, lw_v0, _, _, rfl, ⟨a0, rfl, rfl⟩, _, _, rfl, ⟨a1, rfl, rfl⟩, rfl⟩
  · intro r v Z' S' hk hv hR' he
    obtain ⟨⟨x, rfl⟩, hI'⟩ := hk
    obtain ⟨u, rfl, y, rfl, -⟩ := hv
    show lw_W scr 999 177 Q (8, [some (.ref 0), some (.int a0), some (.int a1), some (.ref 3296), none], [.int y, .int 0, .ref 3296], S')
    refine lw_st (i := .i2l) (nx := 9) (tg := 0) rfl rfl rfl rfl ?_
    refine lw_js (nx := 10) (tg := 0) (lw_o1 hO he) (by have := he.1; omega) rfl rfl ?_
    refine lw_st (i := .goto 7) (nx := 13) (tg := 17) rfl rfl rfl rfl ?_
    refine lw_st (i := .iconst 0) (nx := 18) (tg := 0) rfl rfl rfl rfl ?_
    refine lw_rt (nx := 19) (tg := 0) rfl ⟨_, rfl, rfl⟩ ?_
    exact hQ _ _ (lw_dr hI' hR' he h3).1 (lw_dr hI' hR' he h3).2
  · intro ec Z' S' hk hR' he
    obtain ⟨hc, hI'⟩ := hk
    subst hc
    have D := lw_dt (ec := 17) hI' hR' he hO h3 hr
    refine lw_ph (h := 13) (by decide) lw_ha ?_
    refine lw_st (i := .astore 4) (nx := 15) (tg := 0) rfl rfl rfl rfl ?_
    refine lw_st (i := .iconst 1) (nx := 16) (tg := 0) rfl rfl rfl rfl ?_
    refine lw_rt (nx := 17) (tg := 0) rfl ⟨_, rfl, rfl⟩ ?_
    exact hQ _ _ D.1 D.2
theorem lw_count {scr : Nat × (Nat → Int32)} {f : Int} {g : Int → Int} {Do : Option dT} {Yo : Option qY} {S : mm_S} {Q : mm_O → mm_S → Prop} {a0 : Int32} (hB : lw_B f g Do Yo S) (hr : hw_room pg_TT S) (hQ : ∀ v S', lw_B f g Do Yo S' → lw_R S S' → Q (.inl (some (.int v))) S') : mm_ex pg_G pg_TT scr 1000 179 [.ref 0, .int a0, .ref 3296] S Q := by
  obtain ⟨⟨Z, hI, hR⟩, ⟨e, hO⟩, h3⟩ := hB
  refine ⟨rfl, ?_⟩
  show lw_W scr 999 179 Q (0, [some (.ref 0), some (.int a0), some (.ref 3296), none], [], S)
  refine lw_st (i := .aload_n 2) (nx := 1) (tg := 0) rfl rfl rfl rfl ?_
  refine lw_st (i := .iconst 0) (nx := 2) (tg := 0) rfl rfl rfl rfl ?_
  refine lw_st (i := .aload_n 0) (nx := 3) (tg := 0) rfl rfl rfl rfl ?_
  refine lw_st (i := .iload_n 1) (nx := 4) (tg := 0) rfl rfl rfl rfl ?_
  refine lw_iv (x := 66) (g := 179) (nx := 7) (tg := 0) rfl rfl rfl rfl (lw_lim hr) (Nat.le_of_ble_eq_true rfl) (Nat.le_of_ble_eq_true rfl) (lw_rk0 hR) ?_
  refine q_count (x := a0.toInt) (d := 997) (K := fun r Z' => (∃ x, r = some (hw_I x)) ∧ hv_I f g Do Yo Z') (E := fun c Z' => (c = 15) ∧ hv_I f g Do Yo Z') w3_HU hI (fun r Z' h => ⟨⟨r, rfl⟩, h⟩) (fun c Z' h1 h2 => ⟨h1, h2⟩) [.ref 0, .int a0] S _ ?_ hR hr ?_ ?_
  · exact ⟨_, _, rfl, lw_v0, _, _, rfl, ⟨a0, rfl, rfl⟩, rfl⟩
  · intro r v Z' S' hk hv hR' he
    obtain ⟨⟨x, rfl⟩, hI'⟩ := hk
    obtain ⟨u, rfl, y, rfl, -⟩ := hv
    show lw_W scr 999 179 Q (7, [some (.ref 0), some (.int a0), some (.ref 3296), none], [.int y, .int 0, .ref 3296], S')
    refine lw_st (i := .i2l) (nx := 8) (tg := 0) rfl rfl rfl rfl ?_
    refine lw_js (nx := 9) (tg := 0) (lw_o1 hO he) (by have := he.1; omega) rfl rfl ?_
    refine lw_st (i := .goto 6) (nx := 12) (tg := 15) rfl rfl rfl rfl ?_
    refine lw_st (i := .iconst 0) (nx := 16) (tg := 0) rfl rfl rfl rfl ?_
    refine lw_rt (nx := 17) (tg := 0) rfl ⟨_, rfl, rfl⟩ ?_
    exact hQ _ _ (lw_dr hI' hR' he h3).1 (lw_dr hI' hR' he h3).2
  · intro ec Z' S' hk hR' he
    obtain ⟨hc, hI'⟩ := hk
    subst hc
    have D := lw_dt (ec := 15) hI' hR' he hO h3 hr
    refine lw_ph (h := 12) (by decide) lw_ha ?_
    refine lw_st (i := .astore_n 3) (nx := 13) (tg := 0) rfl rfl rfl rfl ?_
    refine lw_st (i := .iconst 1) (nx := 14) (tg := 0) rfl rfl rfl rfl ?_
    refine lw_rt (nx := 15) (tg := 0) rfl ⟨_, rfl, rfl⟩ ?_
    exact hQ _ _ D.1 D.2
theorem lw_countF {scr : Nat × (Nat → Int32)} {f : Int} {g : Int → Int} {Do : Option dT} {Yo : Option qY} {S : mm_S} {Q : mm_O → mm_S → Prop} {a0 : Int32} (hB : lw_B f g Do Yo S) (hr : hw_room pg_TT S) (hQ : 0 ≤ a0.toInt → a0.toInt ≤ 7 → ∀ S' e, lw_B f g Do Yo S' → lw_R S S' → S'.2.2 3296 = .inl (1, 1, .inr (.inl e)) → (e 0).toInt = qcnt Do Yo a0.toInt → Q (.inl (some (.int 0))) S') (hT1 : (a0.toInt < 0 ∨ 7 < a0.toInt) → ∀ S', lw_B f g Do Yo S' → lw_R S S' → Q (.inl (some (.int 1))) S') : mm_ex pg_G pg_TT scr 1000 179 [.ref 0, .int a0, .ref 3296] S Q := by
  obtain ⟨⟨Z, hI, hR⟩, ⟨e, hO⟩, h3⟩ := hB
  refine ⟨rfl, ?_⟩
  show lw_W scr 999 179 Q (0, [some (.ref 0), some (.int a0), some (.ref 3296), none], [], S)
  refine lw_st (i := .aload_n 2) (nx := 1) (tg := 0) rfl rfl rfl rfl ?_
  refine lw_st (i := .iconst 0) (nx := 2) (tg := 0) rfl rfl rfl rfl ?_
  refine lw_st (i := .aload_n 0) (nx := 3) (tg := 0) rfl rfl rfl rfl ?_
  refine lw_st (i := .iload_n 1) (nx := 4) (tg := 0) rfl rfl rfl rfl ?_
  refine lw_iv (x := 66) (g := 179) (nx := 7) (tg := 0) rfl rfl rfl rfl (lw_lim hr) (Nat.le_of_ble_eq_true rfl) (Nat.le_of_ble_eq_true rfl) (lw_rk0 hR) ?_
  refine q_countF (x := a0.toInt) (d := 997) (K := fun r Z' => r = some (hw_I (qcnt Do Yo a0.toInt)) ∧ (0 ≤ a0.toInt ∧ a0.toInt ≤ 7) ∧ hv_I f g Do Yo Z') (E := fun c Z' => c = 15 ∧ (a0.toInt < 0 ∨ 7 < a0.toInt) ∧ hv_I f g Do Yo Z') w3_HU hI (fun h1 h2 Z' h => ⟨rfl, ⟨h1, h2⟩, h⟩) (fun h1 Z' h => ⟨rfl, h1, h⟩) [.ref 0, .int a0] S _ ?_ hR hr ?_ ?_
  · exact ⟨_, _, rfl, lw_v0, _, _, rfl, ⟨a0, rfl, rfl⟩, rfl⟩
  · intro r v Z' S' hk hv hR' he
    obtain ⟨rfl, hf, hI'⟩ := hk
    obtain ⟨u, rfl, y, rfl, hy⟩ := hv
    show lw_W scr 999 179 Q (7, [some (.ref 0), some (.int a0), some (.ref 3296), none], [.int y, .int 0, .ref 3296], S')
    refine lw_st (i := .i2l) (nx := 8) (tg := 0) rfl rfl rfl rfl ?_
    refine lw_js (nx := 9) (tg := 0) (lw_o1 hO he) (by have := he.1; omega) rfl rfl ?_
    refine lw_st (i := .goto 6) (nx := 12) (tg := 15) rfl rfl rfl rfl ?_
    refine lw_st (i := .iconst 0) (nx := 16) (tg := 0) rfl rfl rfl rfl ?_
    refine lw_rt (nx := 17) (tg := 0) rfl ⟨_, rfl, rfl⟩ ?_
    exact hQ hf.1 hf.2 _ _ (lw_dr hI' hR' he h3).1 (lw_dr hI' hR' he h3).2 lw_us (lw_fe hy)
  · intro ec Z' S' hk hR' he
    obtain ⟨rfl, hf, hI'⟩ := hk
    have D := lw_dt (ec := 15) hI' hR' he hO h3 hr
    refine lw_ph (h := 12) (by decide) lw_ha ?_
    refine lw_st (i := .astore_n 3) (nx := 13) (tg := 0) rfl rfl rfl rfl ?_
    refine lw_st (i := .iconst 1) (nx := 14) (tg := 0) rfl rfl rfl rfl ?_
    refine lw_rt (nx := 15) (tg := 0) rfl ⟨_, rfl, rfl⟩ ?_
    exact hT1 hf _ D.1 D.2
theorem lw_claimF {scr : Nat × (Nat → Int32)} {f : Int} {g : Int → Int} {Do : Option dT} {Yo : Option qY} {S : mm_S} {Q : mm_O → mm_S → Prop} {a0 : Int32} {a1 : Int64} {a2 : Int64} (hB : lw_B f g Do Yo S) (hr : hw_room pg_TT S) (hQ : 0 < a2.toInt → 0 ≤ a1.toInt → (∃ Y, Yo = some Y ∧ 0 ≤ a0.toInt ∧ a0.toInt < (Y.1.1.length : Int)) → ∀ S', lw_B f g Do Yo S' → lw_R S S' → Q (.inl (some (.int 0))) S') (hT1 : (a2.toInt ≤ 0 ∨ a1.toInt < 0) → ∀ S', lw_B f g Do Yo S' → lw_R S S' → Q (.inl (some (.int 1))) S') (hT2 : 0 < a2.toInt → 0 ≤ a1.toInt → Yo = none → ∀ S', lw_B f g Do Yo S' → lw_R S S' → Q (.inl (some (.int 2))) S') (hT3 : 0 < a2.toInt → 0 ≤ a1.toInt → (∃ Y, Yo = some Y ∧ (a0.toInt < 0 ∨ (Y.1.1.length : Int) ≤ a0.toInt)) → ∀ S', lw_B f g Do Yo S' → lw_R S S' → Q (.inl (some (.int 3))) S') : mm_ex pg_G pg_TT scr 1000 171 [.ref 0, .int a0, .long a1, .long a2] S Q := by
  obtain ⟨⟨Z, hI, hR⟩, ⟨e, hO⟩, h3⟩ := hB
  refine ⟨rfl, ?_⟩
  show lw_W scr 999 171 Q (0, [some (.ref 0), some (.int a0), some (.long a1), none, some (.long a2), none, none], [], S)
  refine lw_st (i := .aload_n 0) (nx := 1) (tg := 0) rfl rfl rfl rfl ?_
  refine lw_st (i := .iload_n 1) (nx := 2) (tg := 0) rfl rfl rfl rfl ?_
  refine lw_st (i := .lload_n 2) (nx := 3) (tg := 0) rfl rfl rfl rfl ?_
  refine lw_st (i := .lload 4) (nx := 5) (tg := 0) rfl rfl rfl rfl ?_
  refine lw_iv (x := 50) (g := 171) (nx := 8) (tg := 0) rfl rfl rfl rfl (lw_lim hr) (Nat.le_of_ble_eq_true rfl) (Nat.le_of_ble_eq_true rfl) (lw_rk0 hR) ?_
  refine q_claimF (s := a0.toInt) (x := a1.toInt) (y := a2.toInt) (d := 996) (K := fun r Z' => r = none ∧ (0 < a2.toInt ∧ 0 ≤ a1.toInt ∧ (∃ Y, Yo = some Y ∧ 0 ≤ a0.toInt ∧ a0.toInt < (Y.1.1.length : Int))) ∧ hv_I f g Do Yo Z') (E := fun c Z' => (c = 15 ∧ (a2.toInt ≤ 0 ∨ a1.toInt < 0) ∧ hv_I f g Do Yo Z') ∨ (c = 16 ∧ (0 < a2.toInt ∧ 0 ≤ a1.toInt ∧ Yo = none) ∧ hv_I f g Do Yo Z') ∨ (c = 17 ∧ (0 < a2.toInt ∧ 0 ≤ a1.toInt ∧ (∃ Y, Yo = some Y ∧ (a0.toInt < 0 ∨ (Y.1.1.length : Int) ≤ a0.toInt))) ∧ hv_I f g Do Yo Z')) w3_HU hI (fun h1 h2 h3 Z' h => ⟨rfl, ⟨h1, h2, h3⟩, h⟩) (fun h1 Z' h => Or.inl ⟨rfl, h1, h⟩) (fun h1 h2 h3 Z' h => Or.inr (Or.inl ⟨rfl, ⟨h1, h2, h3⟩, h⟩)) (fun h1 h2 h3 Z' h => Or.inr (Or.inr ⟨rfl, ⟨h1, h2, h3⟩, h⟩)) [.ref 0, .int a0, .long a1, .long a2] S _ ?_ hR hr ?_ ?_
  · exact ⟨_, _, rfl, lw_v0, _, _, rfl, ⟨a0, rfl, rfl⟩, _, _, rfl, ⟨a1, rfl, rfl⟩, _, _, rfl, ⟨a2, rfl, rfl⟩, rfl⟩
  · intro r v Z' S' hk hv hR' he
    obtain ⟨rfl, hf, hI'⟩ := hk
    have hv : v = none := hv
    subst hv
    have D := lw_dn hI' hR' he hO h3
    show lw_W scr 999 171 Q (8, [some (.ref 0), some (.int a0), some (.long a1), none, some (.long a2), none, none], [], S')
    refine lw_st (i := .goto 15) (nx := 11) (tg := 23) rfl rfl rfl rfl ?_
    refine lw_st (i := .iconst 0) (nx := 24) (tg := 0) rfl rfl rfl rfl ?_
    refine lw_rt (nx := 25) (tg := 0) rfl ⟨_, rfl, rfl⟩ ?_
    exact hQ hf.1 hf.2.1 hf.2.2 _ D.1 D.2
  · intro ec Z' S' hk hR' he
    rcases hk with ⟨rfl, hf, hI'⟩ | ⟨rfl, hf, hI'⟩ | ⟨rfl, hf, hI'⟩
    · have D := lw_dt (ec := 15) hI' hR' he hO h3 hr
      refine lw_ph (h := 11) (by decide) lw_ha ?_
      refine lw_st (i := .astore 6) (nx := 13) (tg := 0) rfl rfl rfl rfl ?_
      refine lw_st (i := .iconst 1) (nx := 14) (tg := 0) rfl rfl rfl rfl ?_
      refine lw_rt (nx := 15) (tg := 0) rfl ⟨_, rfl, rfl⟩ ?_
      exact hT1 hf _ D.1 D.2
    · have D := lw_dt (ec := 16) hI' hR' he hO h3 hr
      refine lw_ph (h := 15) (by decide) lw_ha ?_
      refine lw_st (i := .astore 6) (nx := 17) (tg := 0) rfl rfl rfl rfl ?_
      refine lw_st (i := .iconst 2) (nx := 18) (tg := 0) rfl rfl rfl rfl ?_
      refine lw_rt (nx := 19) (tg := 0) rfl ⟨_, rfl, rfl⟩ ?_
      exact hT2 hf.1 hf.2.1 hf.2.2 _ D.1 D.2
    · have D := lw_dt (ec := 17) hI' hR' he hO h3 hr
      refine lw_ph (h := 19) (by decide) lw_ha ?_
      refine lw_st (i := .astore 6) (nx := 21) (tg := 0) rfl rfl rfl rfl ?_
      refine lw_st (i := .iconst 3) (nx := 22) (tg := 0) rfl rfl rfl rfl ?_
      refine lw_rt (nx := 23) (tg := 0) rfl ⟨_, rfl, rfl⟩ ?_
      exact hT3 hf.1 hf.2.1 hf.2.2 _ D.1 D.2
theorem lw_outcomeF {scr : Nat × (Nat → Int32)} {f : Int} {g : Int → Int} {Do : Option dT} {Yo : Option qY} {S : mm_S} {Q : mm_O → mm_S → Prop} {a0 : Int32} {a1 : Int32} {a2 : Int32} (hB : lw_B f g Do Yo S) (hr : hw_room pg_TT S) (hQ : ∀ Y, Yo = some Y → oin Y a0.toInt a1.toInt a2.toInt → ∀ S' e, lw_B f g Do Yo S' → lw_R S S' → S'.2.2 3296 = .inl (1, 1, .inr (.inl e)) → (e 0).toInt = oto Y a0.toInt a1.toInt a2.toInt → Q (.inl (some (.int 0))) S') (hT1 : Yo = none → ∀ S', lw_B f g Do Yo S' → lw_R S S' → Q (.inl (some (.int 1))) S') (hT2 : ∀ Y, Yo = some Y → ¬ oin Y a0.toInt a1.toInt a2.toInt → ∀ S', lw_B f g Do Yo S' → lw_R S S' → Q (.inl (some (.int 2))) S') : mm_ex pg_G pg_TT scr 1000 119 [.ref 0, .int a0, .int a1, .int a2, .ref 3296] S Q := by
  obtain ⟨⟨Z, hI, hR⟩, ⟨e, hO⟩, h3⟩ := hB
  refine ⟨rfl, ?_⟩
  show lw_W scr 999 119 Q (0, [some (.ref 0), some (.int a0), some (.int a1), some (.int a2), some (.ref 3296), none], [], S)
  refine lw_st (i := .aload 4) (nx := 2) (tg := 0) rfl rfl rfl rfl ?_
  refine lw_st (i := .iconst 0) (nx := 3) (tg := 0) rfl rfl rfl rfl ?_
  refine lw_st (i := .aload_n 0) (nx := 4) (tg := 0) rfl rfl rfl rfl ?_
  refine lw_st (i := .iload_n 1) (nx := 5) (tg := 0) rfl rfl rfl rfl ?_
  refine lw_st (i := .iload_n 2) (nx := 6) (tg := 0) rfl rfl rfl rfl ?_
  refine lw_st (i := .iload_n 3) (nx := 7) (tg := 0) rfl rfl rfl rfl ?_
  refine lw_iv (x := 35) (g := 119) (nx := 10) (tg := 0) rfl rfl rfl rfl (lw_lim hr) (Nat.le_of_ble_eq_true rfl) (Nat.le_of_ble_eq_true rfl) (lw_rk0 hR) ?_
  refine q_outcomeF (s := a0.toInt) (c := a1.toInt) (o := a2.toInt) (d := 993) (K := fun r Z' => ∃ Y, r = some (hw_I (oto Y a0.toInt a1.toInt a2.toInt)) ∧ Yo = some Y ∧ oin Y a0.toInt a1.toInt a2.toInt ∧ hv_I f g Do Yo Z') (E := fun c Z' => (c = 16 ∧ Yo = none ∧ hv_I f g Do Yo Z') ∨ (c = 17 ∧ (∃ Y, Yo = some Y ∧ ¬ oin Y a0.toInt a1.toInt a2.toInt) ∧ hv_I f g Do Yo Z')) w3_HU hI (fun Y h1 h2 Z' h => ⟨Y, rfl, h1, h2, h⟩) (fun h1 Z' h => Or.inl ⟨rfl, h1, h⟩) (fun Y h1 h2 Z' h => Or.inr ⟨rfl, ⟨Y, h1, h2⟩, h⟩) [.ref 0, .int a0, .int a1, .int a2] S _ ?_ hR hr ?_ ?_
  · exact ⟨_, _, rfl, lw_v0, _, _, rfl, ⟨a0, rfl, rfl⟩, _, _, rfl, ⟨a1, rfl, rfl⟩, _, _, rfl, ⟨a2, rfl, rfl⟩, rfl⟩
  · intro r v Z' S' hk hv hR' he
    obtain ⟨Y, rfl, hY, hf, hI'⟩ := hk
    obtain ⟨u, rfl, y, rfl, hy⟩ := hv
    show lw_W scr 999 119 Q (10, [some (.ref 0), some (.int a0), some (.int a1), some (.int a2), some (.ref 3296), none], [.int y, .int 0, .ref 3296], S')
    refine lw_st (i := .i2l) (nx := 11) (tg := 0) rfl rfl rfl rfl ?_
    refine lw_js (nx := 12) (tg := 0) (lw_o1 hO he) (by have := he.1; omega) rfl rfl ?_
    refine lw_st (i := .goto 11) (nx := 15) (tg := 23) rfl rfl rfl rfl ?_
    refine lw_st (i := .iconst 0) (nx := 24) (tg := 0) rfl rfl rfl rfl ?_
    refine lw_rt (nx := 25) (tg := 0) rfl ⟨_, rfl, rfl⟩ ?_
    exact hQ Y hY hf _ _ (lw_dr hI' hR' he h3).1 (lw_dr hI' hR' he h3).2 lw_us (lw_fe hy)
  · intro ec Z' S' hk hR' he
    rcases hk with ⟨rfl, hf, hI'⟩ | ⟨rfl, ⟨Y, hY, hf⟩, hI'⟩
    · have D := lw_dt (ec := 16) hI' hR' he hO h3 hr
      refine lw_ph (h := 15) (by decide) lw_ha ?_
      refine lw_st (i := .astore 5) (nx := 17) (tg := 0) rfl rfl rfl rfl ?_
      refine lw_st (i := .iconst 1) (nx := 18) (tg := 0) rfl rfl rfl rfl ?_
      refine lw_rt (nx := 19) (tg := 0) rfl ⟨_, rfl, rfl⟩ ?_
      exact hT1 hf _ D.1 D.2
    · have D := lw_dt (ec := 17) hI' hR' he hO h3 hr
      refine lw_ph (h := 19) (by decide) lw_ha ?_
      refine lw_st (i := .astore 5) (nx := 21) (tg := 0) rfl rfl rfl rfl ?_
      refine lw_st (i := .iconst 2) (nx := 22) (tg := 0) rfl rfl rfl rfl ?_
      refine lw_rt (nx := 23) (tg := 0) rfl ⟨_, rfl, rfl⟩ ?_
      exact hT2 Y hY hf _ D.1 D.2
