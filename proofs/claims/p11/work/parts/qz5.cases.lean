/-! the law's cases -/
theorem lw_hb {k : Nat} {S S1 : mm_S} (hR : lw_R S S1) (h1 : S.1 ≤ 3297 + k) (h2 : S.2.1 ≤ 529432 + 6 * k) (hk : k ≤ 511) : S1.1 ≤ 5000 ∧ S1.2.1 ≤ 600000 := by
  have q1 := hR.2.1
  have q2 := hR.2.2.1
  omega
theorem lw_hb2 {S1 S2 : mm_S} (he : hw_el w4_T S1 S2) (hb : S1.1 ≤ 5000 ∧ S1.2.1 ≤ 600000) : S2.1 ≤ 5000 ∧ S2.2.1 ≤ 600000 := by
  have q1 := he.1
  have q2 := he.2.1
  omega
theorem lk_feed {scr : Nat × (Nat → Int32)} {k : Nat} {i : Int32} {a b : Option Value} {S : mm_S} {Q : mm_O → mm_S → Prop} (hj : lw_J k S) (hk : k ≤ 511) (hi : i.toInt = 6 * (k : Int)) (hl : 6 * k + 6 ≤ scr.1) (hn : ∀ a b S', lw_J (k + 1) S' → lw_W scr 1000 281 Q (839, [some (.ref mm_big), some (.ref 0), some (.ref 1654), some (.ref 3296), some (.int i), a, b], [], S')) : lw_W scr 1000 281 Q (116, [some (.ref mm_big), some (.ref 0), some (.ref 1654), some (.ref 3296), some (.int i), a, b], [], S) := by
  obtain ⟨f, er, g, Do, Yo, hB, hM, hs1, hs2⟩ := hj
  have hr : hw_room pg_TT S := lw_rm (by omega) (by omega)
  refine lw_st (i := .aload_n 1) (nx := 117) (tg := 0) rfl rfl rfl rfl ?_
  refine lw_st (i := .aload_n 0) (nx := 118) (tg := 0) rfl rfl rfl rfl ?_
  refine lw_st (i := .iload 4) (nx := 120) (tg := 0) rfl rfl rfl rfl ?_
  refine lw_st (i := .iconst 1) (nx := 121) (tg := 0) rfl rfl rfl rfl ?_
  refine lw_st (i := .iadd) (nx := 122) (tg := 0) rfl rfl rfl rfl ?_
  refine lw_ia (nx := 123) (tg := 0) rfl rfl (lw_ix hi hk hl (by decide) (by decide)) ?_
  refine lw_st (i := .aload_n 0) (nx := 124) (tg := 0) rfl rfl rfl rfl ?_
  refine lw_st (i := .iload 4) (nx := 126) (tg := 0) rfl rfl rfl rfl ?_
  refine lw_st (i := .iconst 2) (nx := 127) (tg := 0) rfl rfl rfl rfl ?_
  refine lw_st (i := .iadd) (nx := 128) (tg := 0) rfl rfl rfl rfl ?_
  refine lw_ia (nx := 129) (tg := 0) rfl rfl (lw_ix hi hk hl (by decide) (by decide)) ?_
  refine lw_st (i := .aload_n 0) (nx := 130) (tg := 0) rfl rfl rfl rfl ?_
  refine lw_st (i := .iload 4) (nx := 132) (tg := 0) rfl rfl rfl rfl ?_
  refine lw_st (i := .iconst 3) (nx := 133) (tg := 0) rfl rfl rfl rfl ?_
  refine lw_st (i := .iadd) (nx := 134) (tg := 0) rfl rfl rfl rfl ?_
  refine lw_ia (nx := 135) (tg := 0) rfl rfl (lw_ix hi hk hl (by decide) (by decide)) ?_
  refine lw_st (i := .aload_n 0) (nx := 136) (tg := 0) rfl rfl rfl rfl ?_
  refine lw_st (i := .iload 4) (nx := 138) (tg := 0) rfl rfl rfl rfl ?_
  refine lw_st (i := .iconst 4) (nx := 139) (tg := 0) rfl rfl rfl rfl ?_
  refine lw_st (i := .iadd) (nx := 140) (tg := 0) rfl rfl rfl rfl ?_
  refine lw_ia (nx := 141) (tg := 0) rfl rfl (lw_ix hi hk hl (by decide) (by decide)) ?_
  refine lw_st (i := .aload_n 0) (nx := 142) (tg := 0) rfl rfl rfl rfl ?_
  refine lw_st (i := .iload 4) (nx := 144) (tg := 0) rfl rfl rfl rfl ?_
  refine lw_st (i := .iconst 5) (nx := 145) (tg := 0) rfl rfl rfl rfl ?_
  refine lw_st (i := .iadd) (nx := 146) (tg := 0) rfl rfl rfl rfl ?_
  refine lw_ia (nx := 147) (tg := 0) rfl rfl (lw_ix hi hk hl (by decide) (by decide)) ?_
  refine lw_st (i := .aload_n 3) (nx := 148) (tg := 0) rfl rfl rfl rfl ?_
  refine lw_is (x := 73) (g := 19) (nx := 151) (tg := 0) rfl rfl rfl (lw_lim hr) (Nat.le_of_ble_eq_true rfl) (Nat.le_of_ble_eq_true rfl) rfl ?_
  refine lw_feed hB hr (fun hf S1 e hB1 hR1 hO1 he1 => ?_) (fun hf S1 hB1 hR1 => ?_)
  · skip
    have hb1 : S1.1 ≤ 5000 ∧ S1.2.1 ≤ 600000 := by
      have q1 := hR1.2.1
      have q2 := hR1.2.2.1
      omega
    have hr1 : hw_room pg_TT S1 := lw_rm hb1.1 hb1.2
    have hM1 := lw_m1 hM hR1 hb1.1
    show lw_W scr 1000 281 Q (151, [some (.ref mm_big), some (.ref 0), some (.ref 1654), some (.ref 3296), some (.int i), a, b], [.int 0], S1)
    refine lw_st (k := (153, [some (.ref mm_big), some (.ref 0), some (.ref 1654), some (.ref 3296), some (.int i), some (.int 0), b], [], S1)) (i := .istore 5) (nx := 153) (tg := 0) rfl rfl rfl rfl ?_
    refine lw_st (i := .aload_n 2) (nx := 154) (tg := 0) rfl rfl rfl rfl ?_
    refine lw_st (i := .aload_n 0) (nx := 155) (tg := 0) rfl rfl rfl rfl ?_
    refine lw_st (i := .iload 4) (nx := 157) (tg := 0) rfl rfl rfl rfl ?_
    refine lw_st (i := .iconst 1) (nx := 158) (tg := 0) rfl rfl rfl rfl ?_
    refine lw_st (i := .iadd) (nx := 159) (tg := 0) rfl rfl rfl rfl ?_
    refine lw_ia (nx := 160) (tg := 0) rfl rfl (lw_ix hi hk hl (by decide) (by decide)) ?_
    refine lw_st (i := .aload_n 0) (nx := 161) (tg := 0) rfl rfl rfl rfl ?_
    refine lw_st (i := .iload 4) (nx := 163) (tg := 0) rfl rfl rfl rfl ?_
    refine lw_st (i := .iconst 2) (nx := 164) (tg := 0) rfl rfl rfl rfl ?_
    refine lw_st (i := .iadd) (nx := 165) (tg := 0) rfl rfl rfl rfl ?_
    refine lw_ia (nx := 166) (tg := 0) rfl rfl (lw_ix hi hk hl (by decide) (by decide)) ?_
    refine lw_st (i := .aload_n 0) (nx := 167) (tg := 0) rfl rfl rfl rfl ?_
    refine lw_st (i := .iload 4) (nx := 169) (tg := 0) rfl rfl rfl rfl ?_
    refine lw_st (i := .iconst 3) (nx := 170) (tg := 0) rfl rfl rfl rfl ?_
    refine lw_st (i := .iadd) (nx := 171) (tg := 0) rfl rfl rfl rfl ?_
    refine lw_ia (nx := 172) (tg := 0) rfl rfl (lw_ix hi hk hl (by decide) (by decide)) ?_
    refine lw_st (i := .aload_n 0) (nx := 173) (tg := 0) rfl rfl rfl rfl ?_
    refine lw_st (i := .iload 4) (nx := 175) (tg := 0) rfl rfl rfl rfl ?_
    refine lw_st (i := .iconst 4) (nx := 176) (tg := 0) rfl rfl rfl rfl ?_
    refine lw_st (i := .iadd) (nx := 177) (tg := 0) rfl rfl rfl rfl ?_
    refine lw_ia (nx := 178) (tg := 0) rfl rfl (lw_ix hi hk hl (by decide) (by decide)) ?_
    refine lw_st (i := .aload_n 0) (nx := 179) (tg := 0) rfl rfl rfl rfl ?_
    refine lw_st (i := .iload 4) (nx := 181) (tg := 0) rfl rfl rfl rfl ?_
    refine lw_st (i := .iconst 5) (nx := 182) (tg := 0) rfl rfl rfl rfl ?_
    refine lw_st (i := .iadd) (nx := 183) (tg := 0) rfl rfl rfl rfl ?_
    refine lw_ia (nx := 184) (tg := 0) rfl rfl (lw_ix hi hk hl (by decide) (by decide)) ?_
    refine lw_iv (x := 78) (g := 187) (nx := 187) (tg := 0) rfl rfl rfl rfl (lw_lim hr1) (Nat.le_of_ble_eq_true rfl) (Nat.le_of_ble_eq_true rfl) (lw_rk1 hM1) ?_
    refine lm_feed hM1 hr1 (fun _ w S2 hw hM2 he2 => ?_) (fun q => absurd hf (by omega))
    show lw_W scr 1000 281 Q (187, [some (.ref mm_big), some (.ref 0), some (.ref 1654), some (.ref 3296), some (.int i), some (.int 0), b], [.int w], S2)
    refine lw_st (k := (189, [some (.ref mm_big), some (.ref 0), some (.ref 1654), some (.ref 3296), some (.int i), some (.int 0), some (.int w)], [], S2)) (i := .istore 6) (nx := 189) (tg := 0) rfl rfl rfl rfl ?_
    refine lw_st (i := .goto 650) (nx := 192) (tg := 839) rfl rfl rfl rfl ?_
    exact hn _ _ S2 (lw_fi hB1 hR1 he2 hM2 hs1 hs2 hk)
  · skip
    have hb1 : S1.1 ≤ 5000 ∧ S1.2.1 ≤ 600000 := by
      have q1 := hR1.2.1
      have q2 := hR1.2.2.1
      omega
    have hr1 : hw_room pg_TT S1 := lw_rm hb1.1 hb1.2
    have hM1 := lw_m1 hM hR1 hb1.1
    show lw_W scr 1000 281 Q (151, [some (.ref mm_big), some (.ref 0), some (.ref 1654), some (.ref 3296), some (.int i), a, b], [.int 1], S1)
    refine lw_st (k := (153, [some (.ref mm_big), some (.ref 0), some (.ref 1654), some (.ref 3296), some (.int i), some (.int 1), b], [], S1)) (i := .istore 5) (nx := 153) (tg := 0) rfl rfl rfl rfl ?_
    refine lw_st (i := .aload_n 2) (nx := 154) (tg := 0) rfl rfl rfl rfl ?_
    refine lw_st (i := .aload_n 0) (nx := 155) (tg := 0) rfl rfl rfl rfl ?_
    refine lw_st (i := .iload 4) (nx := 157) (tg := 0) rfl rfl rfl rfl ?_
    refine lw_st (i := .iconst 1) (nx := 158) (tg := 0) rfl rfl rfl rfl ?_
    refine lw_st (i := .iadd) (nx := 159) (tg := 0) rfl rfl rfl rfl ?_
    refine lw_ia (nx := 160) (tg := 0) rfl rfl (lw_ix hi hk hl (by decide) (by decide)) ?_
    refine lw_st (i := .aload_n 0) (nx := 161) (tg := 0) rfl rfl rfl rfl ?_
    refine lw_st (i := .iload 4) (nx := 163) (tg := 0) rfl rfl rfl rfl ?_
    refine lw_st (i := .iconst 2) (nx := 164) (tg := 0) rfl rfl rfl rfl ?_
    refine lw_st (i := .iadd) (nx := 165) (tg := 0) rfl rfl rfl rfl ?_
    refine lw_ia (nx := 166) (tg := 0) rfl rfl (lw_ix hi hk hl (by decide) (by decide)) ?_
    refine lw_st (i := .aload_n 0) (nx := 167) (tg := 0) rfl rfl rfl rfl ?_
    refine lw_st (i := .iload 4) (nx := 169) (tg := 0) rfl rfl rfl rfl ?_
    refine lw_st (i := .iconst 3) (nx := 170) (tg := 0) rfl rfl rfl rfl ?_
    refine lw_st (i := .iadd) (nx := 171) (tg := 0) rfl rfl rfl rfl ?_
    refine lw_ia (nx := 172) (tg := 0) rfl rfl (lw_ix hi hk hl (by decide) (by decide)) ?_
    refine lw_st (i := .aload_n 0) (nx := 173) (tg := 0) rfl rfl rfl rfl ?_
    refine lw_st (i := .iload 4) (nx := 175) (tg := 0) rfl rfl rfl rfl ?_
    refine lw_st (i := .iconst 4) (nx := 176) (tg := 0) rfl rfl rfl rfl ?_
    refine lw_st (i := .iadd) (nx := 177) (tg := 0) rfl rfl rfl rfl ?_
    refine lw_ia (nx := 178) (tg := 0) rfl rfl (lw_ix hi hk hl (by decide) (by decide)) ?_
    refine lw_st (i := .aload_n 0) (nx := 179) (tg := 0) rfl rfl rfl rfl ?_
    refine lw_st (i := .iload 4) (nx := 181) (tg := 0) rfl rfl rfl rfl ?_
    refine lw_st (i := .iconst 5) (nx := 182) (tg := 0) rfl rfl rfl rfl ?_
    refine lw_st (i := .iadd) (nx := 183) (tg := 0) rfl rfl rfl rfl ?_
    refine lw_ia (nx := 184) (tg := 0) rfl rfl (lw_ix hi hk hl (by decide) (by decide)) ?_
    refine lw_iv (x := 78) (g := 187) (nx := 187) (tg := 0) rfl rfl rfl rfl (lw_lim hr1) (Nat.le_of_ble_eq_true rfl) (Nat.le_of_ble_eq_true rfl) (lw_rk1 hM1) ?_
    refine lm_feed hM1 hr1 (fun q => absurd hf (by omega)) (fun _ w S2 hM2 he2 => ?_)
    show lw_W scr 1000 281 Q (187, [some (.ref mm_big), some (.ref 0), some (.ref 1654), some (.ref 3296), some (.int i), some (.int 1), b], [.int w], S2)
    refine lw_st (k := (189, [some (.ref mm_big), some (.ref 0), some (.ref 1654), some (.ref 3296), some (.int i), some (.int 1), some (.int w)], [], S2)) (i := .istore 6) (nx := 189) (tg := 0) rfl rfl rfl rfl ?_
    refine lw_st (i := .goto 650) (nx := 192) (tg := 839) rfl rfl rfl rfl ?_
    exact hn _ _ S2 (lw_fi hB1 hR1 he2 hM2 hs1 hs2 hk)
theorem lk_end {scr : Nat × (Nat → Int32)} {k : Nat} {i : Int32} {a b : Option Value} {S : mm_S} {Q : mm_O → mm_S → Prop} (hj : lw_J k S) (hk : k ≤ 511) (hi : i.toInt = 6 * (k : Int)) (hl : 6 * k + 6 ≤ scr.1) (hn : ∀ a b S', lw_J (k + 1) S' → lw_W scr 1000 281 Q (839, [some (.ref mm_big), some (.ref 0), some (.ref 1654), some (.ref 3296), some (.int i), a, b], [], S')) : lw_W scr 1000 281 Q (192, [some (.ref mm_big), some (.ref 0), some (.ref 1654), some (.ref 3296), some (.int i), a, b], [], S) := by
  obtain ⟨f, er, g, Do, Yo, hB, hM, hs1, hs2⟩ := hj
  have hr : hw_room pg_TT S := lw_rm (by omega) (by omega)
  refine lw_st (i := .aload_n 1) (nx := 193) (tg := 0) rfl rfl rfl rfl ?_
  refine lw_st (i := .aload_n 0) (nx := 194) (tg := 0) rfl rfl rfl rfl ?_
  refine lw_st (i := .iload 4) (nx := 196) (tg := 0) rfl rfl rfl rfl ?_
  refine lw_st (i := .iconst 1) (nx := 197) (tg := 0) rfl rfl rfl rfl ?_
  refine lw_st (i := .iadd) (nx := 198) (tg := 0) rfl rfl rfl rfl ?_
  refine lw_ia (nx := 199) (tg := 0) rfl rfl (lw_ix hi hk hl (by decide) (by decide)) ?_
  refine lw_st (i := .aload_n 3) (nx := 200) (tg := 0) rfl rfl rfl rfl ?_
  refine lw_is (x := 79) (g := 23) (nx := 203) (tg := 0) rfl rfl rfl (lw_lim hr) (Nat.le_of_ble_eq_true rfl) (Nat.le_of_ble_eq_true rfl) rfl ?_
  refine lw_end hB hr (fun hf S1 e Dq1 r1 hp1 hd1 hB1 hR1 hO1 he1 => ?_) (fun hf S1 hB1 hR1 => ?_) (fun hf hp1 S1 hB1 hR1 => ?_)
  · skip
    have hb1 : S1.1 ≤ 5000 ∧ S1.2.1 ≤ 600000 := by
      have q1 := hR1.2.1
      have q2 := hR1.2.2.1
      omega
    have hr1 : hw_room pg_TT S1 := lw_rm hb1.1 hb1.2
    have hM1 := lw_m1 hM hR1 hb1.1
    show lw_W scr 1000 281 Q (203, [some (.ref mm_big), some (.ref 0), some (.ref 1654), some (.ref 3296), some (.int i), a, b], [.int 0], S1)
    refine lw_st (k := (205, [some (.ref mm_big), some (.ref 0), some (.ref 1654), some (.ref 3296), some (.int i), some (.int 0), b], [], S1)) (i := .istore 5) (nx := 205) (tg := 0) rfl rfl rfl rfl ?_
    refine lw_st (i := .aload_n 2) (nx := 206) (tg := 0) rfl rfl rfl rfl ?_
    refine lw_st (i := .aload_n 0) (nx := 207) (tg := 0) rfl rfl rfl rfl ?_
    refine lw_st (i := .iload 4) (nx := 209) (tg := 0) rfl rfl rfl rfl ?_
    refine lw_st (i := .iconst 1) (nx := 210) (tg := 0) rfl rfl rfl rfl ?_
    refine lw_st (i := .iadd) (nx := 211) (tg := 0) rfl rfl rfl rfl ?_
    refine lw_ia (nx := 212) (tg := 0) rfl rfl (lw_ix hi hk hl (by decide) (by decide)) ?_
    refine lw_iv (x := 82) (g := 190) (nx := 215) (tg := 0) rfl rfl rfl rfl (lw_lim hr1) (Nat.le_of_ble_eq_true rfl) (Nat.le_of_ble_eq_true rfl) (lw_rk1 hM1) ?_
    refine lm_end hM1 hr1 (fun q => absurd hf q) (fun _ hp2 => by have e := hp1.symm.trans hp2; cases e) (fun _ Dq2 r2 w S2 hp2 hd2 hw hM2 he2 => ?_)
    show lw_W scr 1000 281 Q (215, [some (.ref mm_big), some (.ref 0), some (.ref 1654), some (.ref 3296), some (.int i), some (.int 0), b], [.int w], S2)
    refine lw_st (k := (217, [some (.ref mm_big), some (.ref 0), some (.ref 1654), some (.ref 3296), some (.int i), some (.int 0), some (.int w)], [], S2)) (i := .istore 6) (nx := 217) (tg := 0) rfl rfl rfl rfl ?_
    have hr12 : Dq1 = Dq2 := by
      have e9 := hp1.symm.trans hp2
      injection e9
    subst hr12
    refine lw_st (i := .goto 622) (nx := 220) (tg := 839) rfl rfl rfl rfl ?_
    exact hn _ _ S2 (lw_fi hB1 hR1 he2 hM2 hs1 hs2 hk)
  · skip
    have hb1 : S1.1 ≤ 5000 ∧ S1.2.1 ≤ 600000 := by
      have q1 := hR1.2.1
      have q2 := hR1.2.2.1
      omega
    have hr1 : hw_room pg_TT S1 := lw_rm hb1.1 hb1.2
    have hM1 := lw_m1 hM hR1 hb1.1
    show lw_W scr 1000 281 Q (203, [some (.ref mm_big), some (.ref 0), some (.ref 1654), some (.ref 3296), some (.int i), a, b], [.int 1], S1)
    refine lw_st (k := (205, [some (.ref mm_big), some (.ref 0), some (.ref 1654), some (.ref 3296), some (.int i), some (.int 1), b], [], S1)) (i := .istore 5) (nx := 205) (tg := 0) rfl rfl rfl rfl ?_
    refine lw_st (i := .aload_n 2) (nx := 206) (tg := 0) rfl rfl rfl rfl ?_
    refine lw_st (i := .aload_n 0) (nx := 207) (tg := 0) rfl rfl rfl rfl ?_
    refine lw_st (i := .iload 4) (nx := 209) (tg := 0) rfl rfl rfl rfl ?_
    refine lw_st (i := .iconst 1) (nx := 210) (tg := 0) rfl rfl rfl rfl ?_
    refine lw_st (i := .iadd) (nx := 211) (tg := 0) rfl rfl rfl rfl ?_
    refine lw_ia (nx := 212) (tg := 0) rfl rfl (lw_ix hi hk hl (by decide) (by decide)) ?_
    refine lw_iv (x := 82) (g := 190) (nx := 215) (tg := 0) rfl rfl rfl rfl (lw_lim hr1) (Nat.le_of_ble_eq_true rfl) (Nat.le_of_ble_eq_true rfl) (lw_rk1 hM1) ?_
    refine lm_end hM1 hr1 (fun _ w S2 hM2 he2 => ?_) (fun q => absurd q hf) (fun q => absurd q hf)
    show lw_W scr 1000 281 Q (215, [some (.ref mm_big), some (.ref 0), some (.ref 1654), some (.ref 3296), some (.int i), some (.int 1), b], [.int w], S2)
    refine lw_st (k := (217, [some (.ref mm_big), some (.ref 0), some (.ref 1654), some (.ref 3296), some (.int i), some (.int 1), some (.int w)], [], S2)) (i := .istore 6) (nx := 217) (tg := 0) rfl rfl rfl rfl ?_
    refine lw_st (i := .goto 622) (nx := 220) (tg := 839) rfl rfl rfl rfl ?_
    exact hn _ _ S2 (lw_fi hB1 hR1 he2 hM2 hs1 hs2 hk)
  · skip
    have hb1 : S1.1 ≤ 5000 ∧ S1.2.1 ≤ 600000 := by
      have q1 := hR1.2.1
      have q2 := hR1.2.2.1
      omega
    have hr1 : hw_room pg_TT S1 := lw_rm hb1.1 hb1.2
    have hM1 := lw_m1 hM hR1 hb1.1
    show lw_W scr 1000 281 Q (203, [some (.ref mm_big), some (.ref 0), some (.ref 1654), some (.ref 3296), some (.int i), a, b], [.int 2], S1)
    refine lw_st (k := (205, [some (.ref mm_big), some (.ref 0), some (.ref 1654), some (.ref 3296), some (.int i), some (.int 2), b], [], S1)) (i := .istore 5) (nx := 205) (tg := 0) rfl rfl rfl rfl ?_
    refine lw_st (i := .aload_n 2) (nx := 206) (tg := 0) rfl rfl rfl rfl ?_
    refine lw_st (i := .aload_n 0) (nx := 207) (tg := 0) rfl rfl rfl rfl ?_
    refine lw_st (i := .iload 4) (nx := 209) (tg := 0) rfl rfl rfl rfl ?_
    refine lw_st (i := .iconst 1) (nx := 210) (tg := 0) rfl rfl rfl rfl ?_
    refine lw_st (i := .iadd) (nx := 211) (tg := 0) rfl rfl rfl rfl ?_
    refine lw_ia (nx := 212) (tg := 0) rfl rfl (lw_ix hi hk hl (by decide) (by decide)) ?_
    refine lw_iv (x := 82) (g := 190) (nx := 215) (tg := 0) rfl rfl rfl rfl (lw_lim hr1) (Nat.le_of_ble_eq_true rfl) (Nat.le_of_ble_eq_true rfl) (lw_rk1 hM1) ?_
    refine lm_end hM1 hr1 (fun q => absurd hf q) (fun _ _ w S2 hM2 he2 => ?_) (fun _ Dq2 r2 w S2 hp2 => by have e := hp1.symm.trans hp2; cases e)
    show lw_W scr 1000 281 Q (215, [some (.ref mm_big), some (.ref 0), some (.ref 1654), some (.ref 3296), some (.int i), some (.int 2), b], [.int w], S2)
    refine lw_st (k := (217, [some (.ref mm_big), some (.ref 0), some (.ref 1654), some (.ref 3296), some (.int i), some (.int 2), some (.int w)], [], S2)) (i := .istore 6) (nx := 217) (tg := 0) rfl rfl rfl rfl ?_
    refine lw_st (i := .goto 622) (nx := 220) (tg := 839) rfl rfl rfl rfl ?_
    exact hn _ _ S2 (lw_fi hB1 hR1 he2 hM2 hs1 hs2 hk)
theorem lk_wrong {scr : Nat × (Nat → Int32)} {k : Nat} {i : Int32} {a b : Option Value} {S : mm_S} {Q : mm_O → mm_S → Prop} (hj : lw_J k S) (hk : k ≤ 511) (hi : i.toInt = 6 * (k : Int)) (hl : 6 * k + 6 ≤ scr.1) (hn : ∀ a b S', lw_J (k + 1) S' → lw_W scr 1000 281 Q (839, [some (.ref mm_big), some (.ref 0), some (.ref 1654), some (.ref 3296), some (.int i), a, b], [], S')) : lw_W scr 1000 281 Q (220, [some (.ref mm_big), some (.ref 0), some (.ref 1654), some (.ref 3296), some (.int i), a, b], [], S) := by
  obtain ⟨f, er, g, Do, Yo, hB, hM, hs1, hs2⟩ := hj
  have hr : hw_room pg_TT S := lw_rm (by omega) (by omega)
  refine lw_st (i := .aload_n 1) (nx := 221) (tg := 0) rfl rfl rfl rfl ?_
  refine lw_iv (x := 83) (g := 14) (nx := 224) (tg := 0) rfl rfl rfl rfl (lw_lim hr) (Nat.le_of_ble_eq_true rfl) (Nat.le_of_ble_eq_true rfl) (lw_rk2 hB) ?_
  refine lc_wrong hB hr (fun v S1 hB1 hR1 => ?_)
  show lw_W scr 1000 281 Q (224, [some (.ref mm_big), some (.ref 0), some (.ref 1654), some (.ref 3296), some (.int i), a, b], [.int v], S1)
  refine lw_st (k := (225, [some (.ref mm_big), some (.ref 0), some (.ref 1654), some (.ref 3296), some (.int i), a, b], [], S1)) (i := .pop) (nx := 225) (tg := 0) rfl rfl rfl rfl ?_
  have hb1 : S1.1 ≤ 5000 ∧ S1.2.1 ≤ 600000 := by
    have q1 := hR1.2.1
    have q2 := hR1.2.2.1
    omega
  have hr1 : hw_room pg_TT S1 := lw_rm hb1.1 hb1.2
  have hM1 := lw_m1 hM hR1 hb1.1
  refine lw_st (i := .aload_n 2) (nx := 226) (tg := 0) rfl rfl rfl rfl ?_
  refine lw_iv (x := 86) (g := 189) (nx := 229) (tg := 0) rfl rfl rfl rfl (lw_lim hr1) (Nat.le_of_ble_eq_true rfl) (Nat.le_of_ble_eq_true rfl) (lw_rk1 hM1) ?_
  refine lm_wrong hM1 hr1 (fun w e2 S2 hM2 he2 => ?_)
  show lw_W scr 1000 281 Q (229, [some (.ref mm_big), some (.ref 0), some (.ref 1654), some (.ref 3296), some (.int i), a, b], [.int w], S2)
  refine lw_st (k := (230, [some (.ref mm_big), some (.ref 0), some (.ref 1654), some (.ref 3296), some (.int i), a, b], [], S2)) (i := .pop) (nx := 230) (tg := 0) rfl rfl rfl rfl ?_
  refine lw_st (i := .goto 609) (nx := 233) (tg := 839) rfl rfl rfl rfl ?_
  exact hn _ _ S2 (lw_fi hB1 hR1 he2 hM2 hs1 hs2 hk)
theorem lk_explore {scr : Nat × (Nat → Int32)} {k : Nat} {i : Int32} {a b : Option Value} {S : mm_S} {Q : mm_O → mm_S → Prop} (hj : lw_J k S) (hk : k ≤ 511) (hi : i.toInt = 6 * (k : Int)) (hl : 6 * k + 6 ≤ scr.1) (hn : ∀ a b S', lw_J (k + 1) S' → lw_W scr 1000 281 Q (839, [some (.ref mm_big), some (.ref 0), some (.ref 1654), some (.ref 3296), some (.int i), a, b], [], S')) : lw_W scr 1000 281 Q (233, [some (.ref mm_big), some (.ref 0), some (.ref 1654), some (.ref 3296), some (.int i), a, b], [], S) := by
  obtain ⟨f, er, g, Do, Yo, hB, hM, hs1, hs2⟩ := hj
  have hr : hw_room pg_TT S := lw_rm (by omega) (by omega)
  refine lw_st (i := .aload_n 1) (nx := 234) (tg := 0) rfl rfl rfl rfl ?_
  refine lw_st (i := .aload_n 3) (nx := 235) (tg := 0) rfl rfl rfl rfl ?_
  refine lw_is (x := 87) (g := 96) (nx := 238) (tg := 0) rfl rfl rfl (lw_lim hr) (Nat.le_of_ble_eq_true rfl) (Nat.le_of_ble_eq_true rfl) rfl ?_
  refine lw_explore hB hr (fun Dq1 Yq1 S1 e hd1 hx1 hB1 hR1 hO1 he1 => ?_) (fun hd1 S1 hB1 hR1 => ?_) (fun Dq1 S1 hd1 hx1 hB1 hR1 => ?_) (fun Dq1 S1 hd1 hx1 hB1 hR1 => ?_)
  · skip
    have hb1 : S1.1 ≤ 5000 ∧ S1.2.1 ≤ 600000 := by
      have q1 := hR1.2.1
      have q2 := hR1.2.2.1
      omega
    have hr1 : hw_room pg_TT S1 := lw_rm hb1.1 hb1.2
    have hM1 := lw_m1 hM hR1 hb1.1
    show lw_W scr 1000 281 Q (238, [some (.ref mm_big), some (.ref 0), some (.ref 1654), some (.ref 3296), some (.int i), a, b], [.int 0], S1)
    refine lw_st (k := (240, [some (.ref mm_big), some (.ref 0), some (.ref 1654), some (.ref 3296), some (.int i), some (.int 0), b], [], S1)) (i := .istore 5) (nx := 240) (tg := 0) rfl rfl rfl rfl ?_
    refine lw_st (i := .aload_n 2) (nx := 241) (tg := 0) rfl rfl rfl rfl ?_
    refine lw_iv (x := 90) (g := 236) (nx := 244) (tg := 0) rfl rfl rfl rfl (lw_lim hr1) (Nat.le_of_ble_eq_true rfl) (Nat.le_of_ble_eq_true rfl) (lw_rk1 hM1) ?_
    refine lm_explore hM1 hr1 (fun q => by have e9 := hd1.symm.trans q; cases e9) (fun Dq2 Yq2 w S2 hd2 hx2 hw hM2 he2 => ?_) (fun Dq2 c2 w S2 hd2 hx2 => by have e9 := hd1.symm.trans hd2; injection e9 with e9; subst e9; have e8 := hx1.symm.trans hx2; cases e8)
    show lw_W scr 1000 281 Q (244, [some (.ref mm_big), some (.ref 0), some (.ref 1654), some (.ref 3296), some (.int i), some (.int 0), b], [.int w], S2)
    refine lw_st (k := (246, [some (.ref mm_big), some (.ref 0), some (.ref 1654), some (.ref 3296), some (.int i), some (.int 0), some (.int w)], [], S2)) (i := .istore 6) (nx := 246) (tg := 0) rfl rfl rfl rfl ?_
    have hd12 : Dq1 = Dq2 := by
      have e9 := hd1.symm.trans hd2
      injection e9
    subst hd12
    have hx12 : Yq1 = Yq2 := by
      have e9 := hx1.symm.trans hx2
      injection e9
    subst hx12
    refine lw_st (i := .goto 593) (nx := 249) (tg := 839) rfl rfl rfl rfl ?_
    exact hn _ _ S2 (lw_fi hB1 hR1 he2 hM2 hs1 hs2 hk)
  · skip
    have hb1 : S1.1 ≤ 5000 ∧ S1.2.1 ≤ 600000 := by
      have q1 := hR1.2.1
      have q2 := hR1.2.2.1
      omega
    have hr1 : hw_room pg_TT S1 := lw_rm hb1.1 hb1.2
    have hM1 := lw_m1 hM hR1 hb1.1
    show lw_W scr 1000 281 Q (238, [some (.ref mm_big), some (.ref 0), some (.ref 1654), some (.ref 3296), some (.int i), a, b], [.int 1], S1)
    refine lw_st (k := (240, [some (.ref mm_big), some (.ref 0), some (.ref 1654), some (.ref 3296), some (.int i), some (.int 1), b], [], S1)) (i := .istore 5) (nx := 240) (tg := 0) rfl rfl rfl rfl ?_
    refine lw_st (i := .aload_n 2) (nx := 241) (tg := 0) rfl rfl rfl rfl ?_
    refine lw_iv (x := 90) (g := 236) (nx := 244) (tg := 0) rfl rfl rfl rfl (lw_lim hr1) (Nat.le_of_ble_eq_true rfl) (Nat.le_of_ble_eq_true rfl) (lw_rk1 hM1) ?_
    refine lm_explore hM1 hr1 (fun _ w S2 hM2 he2 => ?_) (fun Dq2 Yq2 w S2 hd2 => by have e9 := hd1.symm.trans hd2; cases e9) (fun Dq2 c2 w S2 hd2 => by have e9 := hd1.symm.trans hd2; cases e9)
    show lw_W scr 1000 281 Q (244, [some (.ref mm_big), some (.ref 0), some (.ref 1654), some (.ref 3296), some (.int i), some (.int 1), b], [.int w], S2)
    refine lw_st (k := (246, [some (.ref mm_big), some (.ref 0), some (.ref 1654), some (.ref 3296), some (.int i), some (.int 1), some (.int w)], [], S2)) (i := .istore 6) (nx := 246) (tg := 0) rfl rfl rfl rfl ?_
    refine lw_st (i := .goto 593) (nx := 249) (tg := 839) rfl rfl rfl rfl ?_
    exact hn _ _ S2 (lw_fi hB1 hR1 he2 hM2 hs1 hs2 hk)
  · skip
    have hb1 : S1.1 ≤ 5000 ∧ S1.2.1 ≤ 600000 := by
      have q1 := hR1.2.1
      have q2 := hR1.2.2.1
      omega
    have hr1 : hw_room pg_TT S1 := lw_rm hb1.1 hb1.2
    have hM1 := lw_m1 hM hR1 hb1.1
    show lw_W scr 1000 281 Q (238, [some (.ref mm_big), some (.ref 0), some (.ref 1654), some (.ref 3296), some (.int i), a, b], [.int 2], S1)
    refine lw_st (k := (240, [some (.ref mm_big), some (.ref 0), some (.ref 1654), some (.ref 3296), some (.int i), some (.int 2), b], [], S1)) (i := .istore 5) (nx := 240) (tg := 0) rfl rfl rfl rfl ?_
    refine lw_st (i := .aload_n 2) (nx := 241) (tg := 0) rfl rfl rfl rfl ?_
    refine lw_iv (x := 90) (g := 236) (nx := 244) (tg := 0) rfl rfl rfl rfl (lw_lim hr1) (Nat.le_of_ble_eq_true rfl) (Nat.le_of_ble_eq_true rfl) (lw_rk1 hM1) ?_
    refine lm_explore hM1 hr1 (fun q => by have e9 := hd1.symm.trans q; cases e9) (fun Dq2 Yq2 w S2 hd2 hx2 => by have e9 := hd1.symm.trans hd2; injection e9 with e9; subst e9; have e8 := hx1.symm.trans hx2; cases e8) (fun Dq2 c2 w S2 hd2 hx2 hM2 he2 => ?_)
    show lw_W scr 1000 281 Q (244, [some (.ref mm_big), some (.ref 0), some (.ref 1654), some (.ref 3296), some (.int i), some (.int 2), b], [.int w], S2)
    refine lw_st (k := (246, [some (.ref mm_big), some (.ref 0), some (.ref 1654), some (.ref 3296), some (.int i), some (.int 2), some (.int w)], [], S2)) (i := .istore 6) (nx := 246) (tg := 0) rfl rfl rfl rfl ?_
    have hd12 : Dq1 = Dq2 := by
      have e9 := hd1.symm.trans hd2
      injection e9
    subst hd12
    have hx12 : (2 : Int) = c2 := by
      have e9 := hx1.symm.trans hx2
      injection e9
    subst hx12
    refine lw_st (i := .goto 593) (nx := 249) (tg := 839) rfl rfl rfl rfl ?_
    exact hn _ _ S2 (lw_fi hB1 hR1 he2 hM2 hs1 hs2 hk)
  · skip
    have hb1 : S1.1 ≤ 5000 ∧ S1.2.1 ≤ 600000 := by
      have q1 := hR1.2.1
      have q2 := hR1.2.2.1
      omega
    have hr1 : hw_room pg_TT S1 := lw_rm hb1.1 hb1.2
    have hM1 := lw_m1 hM hR1 hb1.1
    show lw_W scr 1000 281 Q (238, [some (.ref mm_big), some (.ref 0), some (.ref 1654), some (.ref 3296), some (.int i), a, b], [.int 3], S1)
    refine lw_st (k := (240, [some (.ref mm_big), some (.ref 0), some (.ref 1654), some (.ref 3296), some (.int i), some (.int 3), b], [], S1)) (i := .istore 5) (nx := 240) (tg := 0) rfl rfl rfl rfl ?_
    refine lw_st (i := .aload_n 2) (nx := 241) (tg := 0) rfl rfl rfl rfl ?_
    refine lw_iv (x := 90) (g := 236) (nx := 244) (tg := 0) rfl rfl rfl rfl (lw_lim hr1) (Nat.le_of_ble_eq_true rfl) (Nat.le_of_ble_eq_true rfl) (lw_rk1 hM1) ?_
    refine lm_explore hM1 hr1 (fun q => by have e9 := hd1.symm.trans q; cases e9) (fun Dq2 Yq2 w S2 hd2 hx2 => by have e9 := hd1.symm.trans hd2; injection e9 with e9; subst e9; have e8 := hx1.symm.trans hx2; cases e8) (fun Dq2 c2 w S2 hd2 hx2 hM2 he2 => ?_)
    show lw_W scr 1000 281 Q (244, [some (.ref mm_big), some (.ref 0), some (.ref 1654), some (.ref 3296), some (.int i), some (.int 3), b], [.int w], S2)
    refine lw_st (k := (246, [some (.ref mm_big), some (.ref 0), some (.ref 1654), some (.ref 3296), some (.int i), some (.int 3), some (.int w)], [], S2)) (i := .istore 6) (nx := 246) (tg := 0) rfl rfl rfl rfl ?_
    have hd12 : Dq1 = Dq2 := by
      have e9 := hd1.symm.trans hd2
      injection e9
    subst hd12
    have hx12 : (3 : Int) = c2 := by
      have e9 := hx1.symm.trans hx2
      injection e9
    subst hx12
    refine lw_st (i := .goto 593) (nx := 249) (tg := 839) rfl rfl rfl rfl ?_
    exact hn _ _ S2 (lw_fi hB1 hR1 he2 hM2 hs1 hs2 hk)
theorem lk_state {scr : Nat × (Nat → Int32)} {k : Nat} {i : Int32} {a b : Option Value} {S : mm_S} {Q : mm_O → mm_S → Prop} (hj : lw_J k S) (hk : k ≤ 511) (hi : i.toInt = 6 * (k : Int)) (hl : 6 * k + 6 ≤ scr.1) (hn : ∀ a b S', lw_J (k + 1) S' → lw_W scr 1000 281 Q (839, [some (.ref mm_big), some (.ref 0), some (.ref 1654), some (.ref 3296), some (.int i), a, b], [], S')) : lw_W scr 1000 281 Q (249, [some (.ref mm_big), some (.ref 0), some (.ref 1654), some (.ref 3296), some (.int i), a, b], [], S) := by
  obtain ⟨f, er, g, Do, Yo, hB, hM, hs1, hs2⟩ := hj
  have hr : hw_room pg_TT S := lw_rm (by omega) (by omega)
  refine lw_st (i := .aload_n 1) (nx := 250) (tg := 0) rfl rfl rfl rfl ?_
  refine lw_st (i := .aload_n 0) (nx := 251) (tg := 0) rfl rfl rfl rfl ?_
  refine lw_st (i := .iload 4) (nx := 253) (tg := 0) rfl rfl rfl rfl ?_
  refine lw_st (i := .iconst 1) (nx := 254) (tg := 0) rfl rfl rfl rfl ?_
  refine lw_st (i := .iadd) (nx := 255) (tg := 0) rfl rfl rfl rfl ?_
  refine lw_ia (nx := 256) (tg := 0) rfl rfl (lw_ix hi hk hl (by decide) (by decide)) ?_
  refine lw_st (i := .aload_n 0) (nx := 257) (tg := 0) rfl rfl rfl rfl ?_
  refine lw_st (i := .iload 4) (nx := 259) (tg := 0) rfl rfl rfl rfl ?_
  refine lw_st (i := .iconst 2) (nx := 260) (tg := 0) rfl rfl rfl rfl ?_
  refine lw_st (i := .iadd) (nx := 261) (tg := 0) rfl rfl rfl rfl ?_
  refine lw_ia (nx := 262) (tg := 0) rfl rfl (lw_ix hi hk hl (by decide) (by decide)) ?_
  refine lw_st (i := .aload_n 0) (nx := 263) (tg := 0) rfl rfl rfl rfl ?_
  refine lw_st (i := .iload 4) (nx := 265) (tg := 0) rfl rfl rfl rfl ?_
  refine lw_st (i := .iconst 3) (nx := 266) (tg := 0) rfl rfl rfl rfl ?_
  refine lw_st (i := .iadd) (nx := 267) (tg := 0) rfl rfl rfl rfl ?_
  refine lw_ia (nx := 268) (tg := 0) rfl rfl (lw_ix hi hk hl (by decide) (by decide)) ?_
  refine lw_st (i := .aload_n 3) (nx := 269) (tg := 0) rfl rfl rfl rfl ?_
  refine lw_is (x := 91) (g := 112) (nx := 272) (tg := 0) rfl rfl rfl (lw_lim hr) (Nat.le_of_ble_eq_true rfl) (Nat.le_of_ble_eq_true rfl) rfl ?_
  refine lw_state hB hr (fun v S1 hB1 hR1 => ?_)
  have hb1 : S1.1 ≤ 5000 ∧ S1.2.1 ≤ 600000 := by
    have q1 := hR1.2.1
    have q2 := hR1.2.2.1
    omega
  have hr1 : hw_room pg_TT S1 := lw_rm hb1.1 hb1.2
  have hM1 := lw_m1 hM hR1 hb1.1
  show lw_W scr 1000 281 Q (272, [some (.ref mm_big), some (.ref 0), some (.ref 1654), some (.ref 3296), some (.int i), a, b], [.int v], S1)
  refine lw_st (k := (274, [some (.ref mm_big), some (.ref 0), some (.ref 1654), some (.ref 3296), some (.int i), some (.int v), b], [], S1)) (i := .istore 5) (nx := 274) (tg := 0) rfl rfl rfl rfl ?_
  refine lw_st (i := .aload_n 2) (nx := 275) (tg := 0) rfl rfl rfl rfl ?_
  refine lw_st (i := .aload_n 0) (nx := 276) (tg := 0) rfl rfl rfl rfl ?_
  refine lw_st (i := .iload 4) (nx := 278) (tg := 0) rfl rfl rfl rfl ?_
  refine lw_st (i := .iconst 1) (nx := 279) (tg := 0) rfl rfl rfl rfl ?_
  refine lw_st (i := .iadd) (nx := 280) (tg := 0) rfl rfl rfl rfl ?_
  refine lw_ia (nx := 281) (tg := 0) rfl rfl (lw_ix hi hk hl (by decide) (by decide)) ?_
  refine lw_st (i := .aload_n 0) (nx := 282) (tg := 0) rfl rfl rfl rfl ?_
  refine lw_st (i := .iload 4) (nx := 284) (tg := 0) rfl rfl rfl rfl ?_
  refine lw_st (i := .iconst 2) (nx := 285) (tg := 0) rfl rfl rfl rfl ?_
  refine lw_st (i := .iadd) (nx := 286) (tg := 0) rfl rfl rfl rfl ?_
  refine lw_ia (nx := 287) (tg := 0) rfl rfl (lw_ix hi hk hl (by decide) (by decide)) ?_
  refine lw_st (i := .aload_n 0) (nx := 288) (tg := 0) rfl rfl rfl rfl ?_
  refine lw_st (i := .iload 4) (nx := 290) (tg := 0) rfl rfl rfl rfl ?_
  refine lw_st (i := .iconst 3) (nx := 291) (tg := 0) rfl rfl rfl rfl ?_
  refine lw_st (i := .iadd) (nx := 292) (tg := 0) rfl rfl rfl rfl ?_
  refine lw_ia (nx := 293) (tg := 0) rfl rfl (lw_ix hi hk hl (by decide) (by decide)) ?_
  refine lw_iv (x := 94) (g := 274) (nx := 296) (tg := 0) rfl rfl rfl rfl (lw_lim hr1) (Nat.le_of_ble_eq_true rfl) (Nat.le_of_ble_eq_true rfl) (lw_rk1 hM1) ?_
  refine lm_state hM1 hr1 (fun w e2 S2 hM2 he2 => ?_)
  show lw_W scr 1000 281 Q (296, [some (.ref mm_big), some (.ref 0), some (.ref 1654), some (.ref 3296), some (.int i), some (.int v), b], [.int w], S2)
  refine lw_st (k := (298, [some (.ref mm_big), some (.ref 0), some (.ref 1654), some (.ref 3296), some (.int i), some (.int v), some (.int w)], [], S2)) (i := .istore 6) (nx := 298) (tg := 0) rfl rfl rfl rfl ?_
  refine lw_st (i := .goto 541) (nx := 301) (tg := 839) rfl rfl rfl rfl ?_
  exact hn _ _ S2 (lw_fi hB1 hR1 he2 hM2 hs1 hs2 hk)
theorem lk_outcome {scr : Nat × (Nat → Int32)} {k : Nat} {i : Int32} {a b : Option Value} {S : mm_S} {Q : mm_O → mm_S → Prop} (hj : lw_J k S) (hk : k ≤ 511) (hi : i.toInt = 6 * (k : Int)) (hl : 6 * k + 6 ≤ scr.1) (hn : ∀ a b S', lw_J (k + 1) S' → lw_W scr 1000 281 Q (839, [some (.ref mm_big), some (.ref 0), some (.ref 1654), some (.ref 3296), some (.int i), a, b], [], S')) : lw_W scr 1000 281 Q (301, [some (.ref mm_big), some (.ref 0), some (.ref 1654), some (.ref 3296), some (.int i), a, b], [], S) := by
  obtain ⟨f, er, g, Do, Yo, hB, hM, hs1, hs2⟩ := hj
  have hr : hw_room pg_TT S := lw_rm (by omega) (by omega)
  refine lw_st (i := .aload_n 1) (nx := 302) (tg := 0) rfl rfl rfl rfl ?_
  refine lw_st (i := .aload_n 0) (nx := 303) (tg := 0) rfl rfl rfl rfl ?_
  refine lw_st (i := .iload 4) (nx := 305) (tg := 0) rfl rfl rfl rfl ?_
  refine lw_st (i := .iconst 1) (nx := 306) (tg := 0) rfl rfl rfl rfl ?_
  refine lw_st (i := .iadd) (nx := 307) (tg := 0) rfl rfl rfl rfl ?_
  refine lw_ia (nx := 308) (tg := 0) rfl rfl (lw_ix hi hk hl (by decide) (by decide)) ?_
  refine lw_st (i := .aload_n 0) (nx := 309) (tg := 0) rfl rfl rfl rfl ?_
  refine lw_st (i := .iload 4) (nx := 311) (tg := 0) rfl rfl rfl rfl ?_
  refine lw_st (i := .iconst 2) (nx := 312) (tg := 0) rfl rfl rfl rfl ?_
  refine lw_st (i := .iadd) (nx := 313) (tg := 0) rfl rfl rfl rfl ?_
  refine lw_ia (nx := 314) (tg := 0) rfl rfl (lw_ix hi hk hl (by decide) (by decide)) ?_
  refine lw_st (i := .aload_n 0) (nx := 315) (tg := 0) rfl rfl rfl rfl ?_
  refine lw_st (i := .iload 4) (nx := 317) (tg := 0) rfl rfl rfl rfl ?_
  refine lw_st (i := .iconst 3) (nx := 318) (tg := 0) rfl rfl rfl rfl ?_
  refine lw_st (i := .iadd) (nx := 319) (tg := 0) rfl rfl rfl rfl ?_
  refine lw_ia (nx := 320) (tg := 0) rfl rfl (lw_ix hi hk hl (by decide) (by decide)) ?_
  refine lw_st (i := .aload_n 3) (nx := 321) (tg := 0) rfl rfl rfl rfl ?_
  refine lw_is (x := 95) (g := 118) (nx := 324) (tg := 0) rfl rfl rfl (lw_lim hr) (Nat.le_of_ble_eq_true rfl) (Nat.le_of_ble_eq_true rfl) rfl ?_
  refine lw_outcome hB hr (fun v S1 hB1 hR1 => ?_)
  have hb1 : S1.1 ≤ 5000 ∧ S1.2.1 ≤ 600000 := by
    have q1 := hR1.2.1
    have q2 := hR1.2.2.1
    omega
  have hr1 : hw_room pg_TT S1 := lw_rm hb1.1 hb1.2
  have hM1 := lw_m1 hM hR1 hb1.1
  show lw_W scr 1000 281 Q (324, [some (.ref mm_big), some (.ref 0), some (.ref 1654), some (.ref 3296), some (.int i), a, b], [.int v], S1)
  refine lw_st (k := (326, [some (.ref mm_big), some (.ref 0), some (.ref 1654), some (.ref 3296), some (.int i), some (.int v), b], [], S1)) (i := .istore 5) (nx := 326) (tg := 0) rfl rfl rfl rfl ?_
  refine lw_st (i := .aload_n 2) (nx := 327) (tg := 0) rfl rfl rfl rfl ?_
  refine lw_st (i := .aload_n 0) (nx := 328) (tg := 0) rfl rfl rfl rfl ?_
  refine lw_st (i := .iload 4) (nx := 330) (tg := 0) rfl rfl rfl rfl ?_
  refine lw_st (i := .iconst 1) (nx := 331) (tg := 0) rfl rfl rfl rfl ?_
  refine lw_st (i := .iadd) (nx := 332) (tg := 0) rfl rfl rfl rfl ?_
  refine lw_ia (nx := 333) (tg := 0) rfl rfl (lw_ix hi hk hl (by decide) (by decide)) ?_
  refine lw_st (i := .aload_n 0) (nx := 334) (tg := 0) rfl rfl rfl rfl ?_
  refine lw_st (i := .iload 4) (nx := 336) (tg := 0) rfl rfl rfl rfl ?_
  refine lw_st (i := .iconst 2) (nx := 337) (tg := 0) rfl rfl rfl rfl ?_
  refine lw_st (i := .iadd) (nx := 338) (tg := 0) rfl rfl rfl rfl ?_
  refine lw_ia (nx := 339) (tg := 0) rfl rfl (lw_ix hi hk hl (by decide) (by decide)) ?_
  refine lw_st (i := .aload_n 0) (nx := 340) (tg := 0) rfl rfl rfl rfl ?_
  refine lw_st (i := .iload 4) (nx := 342) (tg := 0) rfl rfl rfl rfl ?_
  refine lw_st (i := .iconst 3) (nx := 343) (tg := 0) rfl rfl rfl rfl ?_
  refine lw_st (i := .iadd) (nx := 344) (tg := 0) rfl rfl rfl rfl ?_
  refine lw_ia (nx := 345) (tg := 0) rfl rfl (lw_ix hi hk hl (by decide) (by decide)) ?_
  refine lw_iv (x := 97) (g := 275) (nx := 348) (tg := 0) rfl rfl rfl rfl (lw_lim hr1) (Nat.le_of_ble_eq_true rfl) (Nat.le_of_ble_eq_true rfl) (lw_rk1 hM1) ?_
  refine lm_outcome hM1 hr1 (fun w e2 S2 hM2 he2 => ?_)
  show lw_W scr 1000 281 Q (348, [some (.ref mm_big), some (.ref 0), some (.ref 1654), some (.ref 3296), some (.int i), some (.int v), b], [.int w], S2)
  refine lw_st (k := (350, [some (.ref mm_big), some (.ref 0), some (.ref 1654), some (.ref 3296), some (.int i), some (.int v), some (.int w)], [], S2)) (i := .istore 6) (nx := 350) (tg := 0) rfl rfl rfl rfl ?_
  refine lw_st (i := .goto 489) (nx := 353) (tg := 839) rfl rfl rfl rfl ?_
  exact hn _ _ S2 (lw_fi hB1 hR1 he2 hM2 hs1 hs2 hk)
theorem lk_solve {scr : Nat × (Nat → Int32)} {k : Nat} {i : Int32} {a b : Option Value} {S : mm_S} {Q : mm_O → mm_S → Prop} (hj : lw_J k S) (hk : k ≤ 511) (hi : i.toInt = 6 * (k : Int)) (hl : 6 * k + 6 ≤ scr.1) (hn : ∀ a b S', lw_J (k + 1) S' → lw_W scr 1000 281 Q (839, [some (.ref mm_big), some (.ref 0), some (.ref 1654), some (.ref 3296), some (.int i), a, b], [], S')) : lw_W scr 1000 281 Q (353, [some (.ref mm_big), some (.ref 0), some (.ref 1654), some (.ref 3296), some (.int i), a, b], [], S) := by
  obtain ⟨f, er, g, Do, Yo, hB, hM, hs1, hs2⟩ := hj
  have hr : hw_room pg_TT S := lw_rm (by omega) (by omega)
  refine lw_st (i := .aload_n 1) (nx := 354) (tg := 0) rfl rfl rfl rfl ?_
  refine lw_st (i := .aload_n 0) (nx := 355) (tg := 0) rfl rfl rfl rfl ?_
  refine lw_st (i := .iload 4) (nx := 357) (tg := 0) rfl rfl rfl rfl ?_
  refine lw_st (i := .iconst 1) (nx := 358) (tg := 0) rfl rfl rfl rfl ?_
  refine lw_st (i := .iadd) (nx := 359) (tg := 0) rfl rfl rfl rfl ?_
  refine lw_ia (nx := 360) (tg := 0) rfl rfl (lw_ix hi hk hl (by decide) (by decide)) ?_
  refine lw_bl (p1 := 363) (p2 := 364) (p3 := 367) (p4 := 368) rfl rfl rfl rfl rfl rfl rfl rfl (fun t => ?_)
  refine lw_st (i := .aload_n 3) (nx := 369) (tg := 0) rfl rfl rfl rfl ?_
  refine lw_is (x := 98) (g := 137) (nx := 372) (tg := 0) rfl rfl rfl (lw_lim hr) (Nat.le_of_ble_eq_true rfl) (Nat.le_of_ble_eq_true rfl) rfl ?_
  refine lw_solve hB hr (fun v S1 hB1 hR1 => ?_)
  have hb1 : S1.1 ≤ 5000 ∧ S1.2.1 ≤ 600000 := by
    have q1 := hR1.2.1
    have q2 := hR1.2.2.1
    omega
  have hr1 : hw_room pg_TT S1 := lw_rm hb1.1 hb1.2
  have hM1 := lw_m1 hM hR1 hb1.1
  show lw_W scr 1000 281 Q (372, [some (.ref mm_big), some (.ref 0), some (.ref 1654), some (.ref 3296), some (.int i), a, b], [.int v], S1)
  refine lw_st (k := (374, [some (.ref mm_big), some (.ref 0), some (.ref 1654), some (.ref 3296), some (.int i), some (.int v), b], [], S1)) (i := .istore 5) (nx := 374) (tg := 0) rfl rfl rfl rfl ?_
  refine lw_st (i := .aload_n 2) (nx := 375) (tg := 0) rfl rfl rfl rfl ?_
  refine lw_st (i := .aload_n 0) (nx := 376) (tg := 0) rfl rfl rfl rfl ?_
  refine lw_st (i := .iload 4) (nx := 378) (tg := 0) rfl rfl rfl rfl ?_
  refine lw_st (i := .iconst 1) (nx := 379) (tg := 0) rfl rfl rfl rfl ?_
  refine lw_st (i := .iadd) (nx := 380) (tg := 0) rfl rfl rfl rfl ?_
  refine lw_ia (nx := 381) (tg := 0) rfl rfl (lw_ix hi hk hl (by decide) (by decide)) ?_
  refine lw_bl (p1 := 384) (p2 := 385) (p3 := 388) (p4 := 389) rfl rfl rfl rfl rfl rfl rfl rfl (fun t => ?_)
  refine lw_iv (x := 101) (g := 257) (nx := 392) (tg := 0) rfl rfl rfl rfl (lw_lim hr1) (Nat.le_of_ble_eq_true rfl) (Nat.le_of_ble_eq_true rfl) (lw_rk1 hM1) ?_
  refine lm_solve hM1 hr1 (fun w e2 S2 hM2 he2 => ?_)
  show lw_W scr 1000 281 Q (392, [some (.ref mm_big), some (.ref 0), some (.ref 1654), some (.ref 3296), some (.int i), some (.int v), b], [.int w], S2)
  refine lw_st (k := (394, [some (.ref mm_big), some (.ref 0), some (.ref 1654), some (.ref 3296), some (.int i), some (.int v), some (.int w)], [], S2)) (i := .istore 6) (nx := 394) (tg := 0) rfl rfl rfl rfl ?_
  refine lw_st (i := .goto 445) (nx := 397) (tg := 839) rfl rfl rfl rfl ?_
  exact hn _ _ S2 (lw_fi hB1 hR1 he2 hM2 hs1 hs2 hk)
theorem lk_value {scr : Nat × (Nat → Int32)} {k : Nat} {i : Int32} {a b : Option Value} {S : mm_S} {Q : mm_O → mm_S → Prop} (hj : lw_J k S) (hk : k ≤ 511) (hi : i.toInt = 6 * (k : Int)) (hl : 6 * k + 6 ≤ scr.1) (hn : ∀ a b S', lw_J (k + 1) S' → lw_W scr 1000 281 Q (839, [some (.ref mm_big), some (.ref 0), some (.ref 1654), some (.ref 3296), some (.int i), a, b], [], S')) : lw_W scr 1000 281 Q (397, [some (.ref mm_big), some (.ref 0), some (.ref 1654), some (.ref 3296), some (.int i), a, b], [], S) := by
  obtain ⟨f, er, g, Do, Yo, hB, hM, hs1, hs2⟩ := hj
  have hr : hw_room pg_TT S := lw_rm (by omega) (by omega)
  refine lw_st (i := .aload_n 1) (nx := 398) (tg := 0) rfl rfl rfl rfl ?_
  refine lw_st (i := .aload_n 0) (nx := 399) (tg := 0) rfl rfl rfl rfl ?_
  refine lw_st (i := .iload 4) (nx := 401) (tg := 0) rfl rfl rfl rfl ?_
  refine lw_st (i := .iconst 1) (nx := 402) (tg := 0) rfl rfl rfl rfl ?_
  refine lw_st (i := .iadd) (nx := 403) (tg := 0) rfl rfl rfl rfl ?_
  refine lw_ia (nx := 404) (tg := 0) rfl rfl (lw_ix hi hk hl (by decide) (by decide)) ?_
  refine lw_bl (p1 := 407) (p2 := 408) (p3 := 411) (p4 := 412) rfl rfl rfl rfl rfl rfl rfl rfl (fun t => ?_)
  refine lw_st (i := .aload_n 0) (nx := 413) (tg := 0) rfl rfl rfl rfl ?_
  refine lw_st (i := .iload 4) (nx := 415) (tg := 0) rfl rfl rfl rfl ?_
  refine lw_st (i := .iconst 2) (nx := 416) (tg := 0) rfl rfl rfl rfl ?_
  refine lw_st (i := .iadd) (nx := 417) (tg := 0) rfl rfl rfl rfl ?_
  refine lw_ia (nx := 418) (tg := 0) rfl rfl (lw_ix hi hk hl (by decide) (by decide)) ?_
  refine lw_st (i := .aload_n 3) (nx := 419) (tg := 0) rfl rfl rfl rfl ?_
  refine lw_is (x := 102) (g := 160) (nx := 422) (tg := 0) rfl rfl rfl (lw_lim hr) (Nat.le_of_ble_eq_true rfl) (Nat.le_of_ble_eq_true rfl) rfl ?_
  refine lw_value hB hr (fun v S1 hB1 hR1 => ?_)
  have hb1 : S1.1 ≤ 5000 ∧ S1.2.1 ≤ 600000 := by
    have q1 := hR1.2.1
    have q2 := hR1.2.2.1
    omega
  have hr1 : hw_room pg_TT S1 := lw_rm hb1.1 hb1.2
  have hM1 := lw_m1 hM hR1 hb1.1
  show lw_W scr 1000 281 Q (422, [some (.ref mm_big), some (.ref 0), some (.ref 1654), some (.ref 3296), some (.int i), a, b], [.int v], S1)
  refine lw_st (k := (424, [some (.ref mm_big), some (.ref 0), some (.ref 1654), some (.ref 3296), some (.int i), some (.int v), b], [], S1)) (i := .istore 5) (nx := 424) (tg := 0) rfl rfl rfl rfl ?_
  refine lw_st (i := .aload_n 2) (nx := 425) (tg := 0) rfl rfl rfl rfl ?_
  refine lw_st (i := .aload_n 0) (nx := 426) (tg := 0) rfl rfl rfl rfl ?_
  refine lw_st (i := .iload 4) (nx := 428) (tg := 0) rfl rfl rfl rfl ?_
  refine lw_st (i := .iconst 1) (nx := 429) (tg := 0) rfl rfl rfl rfl ?_
  refine lw_st (i := .iadd) (nx := 430) (tg := 0) rfl rfl rfl rfl ?_
  refine lw_ia (nx := 431) (tg := 0) rfl rfl (lw_ix hi hk hl (by decide) (by decide)) ?_
  refine lw_bl (p1 := 434) (p2 := 435) (p3 := 438) (p4 := 439) rfl rfl rfl rfl rfl rfl rfl rfl (fun t => ?_)
  refine lw_st (i := .aload_n 0) (nx := 440) (tg := 0) rfl rfl rfl rfl ?_
  refine lw_st (i := .iload 4) (nx := 442) (tg := 0) rfl rfl rfl rfl ?_
  refine lw_st (i := .iconst 2) (nx := 443) (tg := 0) rfl rfl rfl rfl ?_
  refine lw_st (i := .iadd) (nx := 444) (tg := 0) rfl rfl rfl rfl ?_
  refine lw_ia (nx := 445) (tg := 0) rfl rfl (lw_ix hi hk hl (by decide) (by decide)) ?_
  refine lw_iv (x := 105) (g := 268) (nx := 448) (tg := 0) rfl rfl rfl rfl (lw_lim hr1) (Nat.le_of_ble_eq_true rfl) (Nat.le_of_ble_eq_true rfl) (lw_rk1 hM1) ?_
  refine lm_value hM1 hr1 (fun w e2 S2 hM2 he2 => ?_)
  show lw_W scr 1000 281 Q (448, [some (.ref mm_big), some (.ref 0), some (.ref 1654), some (.ref 3296), some (.int i), some (.int v), b], [.int w], S2)
  refine lw_st (k := (450, [some (.ref mm_big), some (.ref 0), some (.ref 1654), some (.ref 3296), some (.int i), some (.int v), some (.int w)], [], S2)) (i := .istore 6) (nx := 450) (tg := 0) rfl rfl rfl rfl ?_
  refine lw_st (i := .goto 389) (nx := 453) (tg := 839) rfl rfl rfl rfl ?_
  exact hn _ _ S2 (lw_fi hB1 hR1 he2 hM2 hs1 hs2 hk)
theorem lk_within {scr : Nat × (Nat → Int32)} {k : Nat} {i : Int32} {a b : Option Value} {S : mm_S} {Q : mm_O → mm_S → Prop} (hj : lw_J k S) (hk : k ≤ 511) (hi : i.toInt = 6 * (k : Int)) (hl : 6 * k + 6 ≤ scr.1) (hn : ∀ a b S', lw_J (k + 1) S' → lw_W scr 1000 281 Q (839, [some (.ref mm_big), some (.ref 0), some (.ref 1654), some (.ref 3296), some (.int i), a, b], [], S')) : lw_W scr 1000 281 Q (453, [some (.ref mm_big), some (.ref 0), some (.ref 1654), some (.ref 3296), some (.int i), a, b], [], S) := by
  obtain ⟨f, er, g, Do, Yo, hB, hM, hs1, hs2⟩ := hj
  have hr : hw_room pg_TT S := lw_rm (by omega) (by omega)
  refine lw_st (i := .aload_n 1) (nx := 454) (tg := 0) rfl rfl rfl rfl ?_
  refine lw_st (i := .aload_n 0) (nx := 455) (tg := 0) rfl rfl rfl rfl ?_
  refine lw_st (i := .iload 4) (nx := 457) (tg := 0) rfl rfl rfl rfl ?_
  refine lw_st (i := .iconst 1) (nx := 458) (tg := 0) rfl rfl rfl rfl ?_
  refine lw_st (i := .iadd) (nx := 459) (tg := 0) rfl rfl rfl rfl ?_
  refine lw_ia (nx := 460) (tg := 0) rfl rfl (lw_ix hi hk hl (by decide) (by decide)) ?_
  refine lw_bl (p1 := 463) (p2 := 464) (p3 := 467) (p4 := 468) rfl rfl rfl rfl rfl rfl rfl rfl (fun t => ?_)
  refine lw_st (i := .aload_n 0) (nx := 469) (tg := 0) rfl rfl rfl rfl ?_
  refine lw_st (i := .iload 4) (nx := 471) (tg := 0) rfl rfl rfl rfl ?_
  refine lw_st (i := .iconst 2) (nx := 472) (tg := 0) rfl rfl rfl rfl ?_
  refine lw_st (i := .iadd) (nx := 473) (tg := 0) rfl rfl rfl rfl ?_
  refine lw_ia (nx := 474) (tg := 0) rfl rfl (lw_ix hi hk hl (by decide) (by decide)) ?_
  refine lw_st (i := .aload_n 0) (nx := 475) (tg := 0) rfl rfl rfl rfl ?_
  refine lw_st (i := .iload 4) (nx := 477) (tg := 0) rfl rfl rfl rfl ?_
  refine lw_st (i := .iconst 3) (nx := 478) (tg := 0) rfl rfl rfl rfl ?_
  refine lw_st (i := .iadd) (nx := 479) (tg := 0) rfl rfl rfl rfl ?_
  refine lw_ia (nx := 480) (tg := 0) rfl rfl (lw_ix hi hk hl (by decide) (by decide)) ?_
  refine lw_st (i := .aload_n 3) (nx := 481) (tg := 0) rfl rfl rfl rfl ?_
  refine lw_is (x := 106) (g := 164) (nx := 484) (tg := 0) rfl rfl rfl (lw_lim hr) (Nat.le_of_ble_eq_true rfl) (Nat.le_of_ble_eq_true rfl) rfl ?_
  refine lw_within hB hr (fun v S1 hB1 hR1 => ?_)
  have hb1 : S1.1 ≤ 5000 ∧ S1.2.1 ≤ 600000 := by
    have q1 := hR1.2.1
    have q2 := hR1.2.2.1
    omega
  have hr1 : hw_room pg_TT S1 := lw_rm hb1.1 hb1.2
  have hM1 := lw_m1 hM hR1 hb1.1
  show lw_W scr 1000 281 Q (484, [some (.ref mm_big), some (.ref 0), some (.ref 1654), some (.ref 3296), some (.int i), a, b], [.int v], S1)
  refine lw_st (k := (486, [some (.ref mm_big), some (.ref 0), some (.ref 1654), some (.ref 3296), some (.int i), some (.int v), b], [], S1)) (i := .istore 5) (nx := 486) (tg := 0) rfl rfl rfl rfl ?_
  refine lw_st (i := .aload_n 2) (nx := 487) (tg := 0) rfl rfl rfl rfl ?_
  refine lw_st (i := .aload_n 0) (nx := 488) (tg := 0) rfl rfl rfl rfl ?_
  refine lw_st (i := .iload 4) (nx := 490) (tg := 0) rfl rfl rfl rfl ?_
  refine lw_st (i := .iconst 1) (nx := 491) (tg := 0) rfl rfl rfl rfl ?_
  refine lw_st (i := .iadd) (nx := 492) (tg := 0) rfl rfl rfl rfl ?_
  refine lw_ia (nx := 493) (tg := 0) rfl rfl (lw_ix hi hk hl (by decide) (by decide)) ?_
  refine lw_bl (p1 := 496) (p2 := 497) (p3 := 500) (p4 := 501) rfl rfl rfl rfl rfl rfl rfl rfl (fun t => ?_)
  refine lw_st (i := .aload_n 0) (nx := 502) (tg := 0) rfl rfl rfl rfl ?_
  refine lw_st (i := .iload 4) (nx := 504) (tg := 0) rfl rfl rfl rfl ?_
  refine lw_st (i := .iconst 2) (nx := 505) (tg := 0) rfl rfl rfl rfl ?_
  refine lw_st (i := .iadd) (nx := 506) (tg := 0) rfl rfl rfl rfl ?_
  refine lw_ia (nx := 507) (tg := 0) rfl rfl (lw_ix hi hk hl (by decide) (by decide)) ?_
  refine lw_st (i := .aload_n 0) (nx := 508) (tg := 0) rfl rfl rfl rfl ?_
  refine lw_st (i := .iload 4) (nx := 510) (tg := 0) rfl rfl rfl rfl ?_
  refine lw_st (i := .iconst 3) (nx := 511) (tg := 0) rfl rfl rfl rfl ?_
  refine lw_st (i := .iadd) (nx := 512) (tg := 0) rfl rfl rfl rfl ?_
  refine lw_ia (nx := 513) (tg := 0) rfl rfl (lw_ix hi hk hl (by decide) (by decide)) ?_
  refine lw_iv (x := 109) (g := 269) (nx := 516) (tg := 0) rfl rfl rfl rfl (lw_lim hr1) (Nat.le_of_ble_eq_true rfl) (Nat.le_of_ble_eq_true rfl) (lw_rk1 hM1) ?_
  refine lm_within hM1 hr1 (fun w e2 S2 hM2 he2 => ?_)
  show lw_W scr 1000 281 Q (516, [some (.ref mm_big), some (.ref 0), some (.ref 1654), some (.ref 3296), some (.int i), some (.int v), b], [.int w], S2)
  refine lw_st (k := (518, [some (.ref mm_big), some (.ref 0), some (.ref 1654), some (.ref 3296), some (.int i), some (.int v), some (.int w)], [], S2)) (i := .istore 6) (nx := 518) (tg := 0) rfl rfl rfl rfl ?_
  refine lw_st (i := .goto 321) (nx := 521) (tg := 839) rfl rfl rfl rfl ?_
  exact hn _ _ S2 (lw_fi hB1 hR1 he2 hM2 hs1 hs2 hk)
theorem lk_claim {scr : Nat × (Nat → Int32)} {k : Nat} {i : Int32} {a b : Option Value} {S : mm_S} {Q : mm_O → mm_S → Prop} (hj : lw_J k S) (hk : k ≤ 511) (hi : i.toInt = 6 * (k : Int)) (hl : 6 * k + 6 ≤ scr.1) (hn : ∀ a b S', lw_J (k + 1) S' → lw_W scr 1000 281 Q (839, [some (.ref mm_big), some (.ref 0), some (.ref 1654), some (.ref 3296), some (.int i), a, b], [], S')) : lw_W scr 1000 281 Q (521, [some (.ref mm_big), some (.ref 0), some (.ref 1654), some (.ref 3296), some (.int i), a, b], [], S) := by
  obtain ⟨f, er, g, Do, Yo, hB, hM, hs1, hs2⟩ := hj
  have hr : hw_room pg_TT S := lw_rm (by omega) (by omega)
  refine lw_st (i := .aload_n 1) (nx := 522) (tg := 0) rfl rfl rfl rfl ?_
  refine lw_st (i := .aload_n 0) (nx := 523) (tg := 0) rfl rfl rfl rfl ?_
  refine lw_st (i := .iload 4) (nx := 525) (tg := 0) rfl rfl rfl rfl ?_
  refine lw_st (i := .iconst 1) (nx := 526) (tg := 0) rfl rfl rfl rfl ?_
  refine lw_st (i := .iadd) (nx := 527) (tg := 0) rfl rfl rfl rfl ?_
  refine lw_ia (nx := 528) (tg := 0) rfl rfl (lw_ix hi hk hl (by decide) (by decide)) ?_
  refine lw_st (i := .aload_n 0) (nx := 529) (tg := 0) rfl rfl rfl rfl ?_
  refine lw_st (i := .iload 4) (nx := 531) (tg := 0) rfl rfl rfl rfl ?_
  refine lw_st (i := .iconst 2) (nx := 532) (tg := 0) rfl rfl rfl rfl ?_
  refine lw_st (i := .iadd) (nx := 533) (tg := 0) rfl rfl rfl rfl ?_
  refine lw_ia (nx := 534) (tg := 0) rfl rfl (lw_ix hi hk hl (by decide) (by decide)) ?_
  refine lw_st (i := .i2l) (nx := 535) (tg := 0) rfl rfl rfl rfl ?_
  refine lw_st (i := .bipush 32) (nx := 537) (tg := 0) rfl rfl rfl rfl ?_
  refine lw_st (i := .lshl) (nx := 538) (tg := 0) rfl rfl rfl rfl ?_
  refine lw_st (i := .aload_n 0) (nx := 539) (tg := 0) rfl rfl rfl rfl ?_
  refine lw_st (i := .iload 4) (nx := 541) (tg := 0) rfl rfl rfl rfl ?_
  refine lw_st (i := .iconst 3) (nx := 542) (tg := 0) rfl rfl rfl rfl ?_
  refine lw_st (i := .iadd) (nx := 543) (tg := 0) rfl rfl rfl rfl ?_
  refine lw_ia (nx := 544) (tg := 0) rfl rfl (lw_ix hi hk hl (by decide) (by decide)) ?_
  refine lw_st (i := .i2l) (nx := 545) (tg := 0) rfl rfl rfl rfl ?_
  refine lw_st (i := .ldc2_w 110) (nx := 548) (tg := 0) rfl rfl rfl rfl ?_
  refine lw_st (i := .land) (nx := 549) (tg := 0) rfl rfl rfl rfl ?_
  refine lw_st (i := .lor) (nx := 550) (tg := 0) rfl rfl rfl rfl ?_
  refine lw_st (i := .aload_n 0) (nx := 551) (tg := 0) rfl rfl rfl rfl ?_
  refine lw_st (i := .iload 4) (nx := 553) (tg := 0) rfl rfl rfl rfl ?_
  refine lw_st (i := .iconst 4) (nx := 554) (tg := 0) rfl rfl rfl rfl ?_
  refine lw_st (i := .iadd) (nx := 555) (tg := 0) rfl rfl rfl rfl ?_
  refine lw_ia (nx := 556) (tg := 0) rfl rfl (lw_ix hi hk hl (by decide) (by decide)) ?_
  refine lw_st (i := .i2l) (nx := 557) (tg := 0) rfl rfl rfl rfl ?_
  refine lw_st (i := .bipush 32) (nx := 559) (tg := 0) rfl rfl rfl rfl ?_
  refine lw_st (i := .lshl) (nx := 560) (tg := 0) rfl rfl rfl rfl ?_
  refine lw_st (i := .aload_n 0) (nx := 561) (tg := 0) rfl rfl rfl rfl ?_
  refine lw_st (i := .iload 4) (nx := 563) (tg := 0) rfl rfl rfl rfl ?_
  refine lw_st (i := .iconst 5) (nx := 564) (tg := 0) rfl rfl rfl rfl ?_
  refine lw_st (i := .iadd) (nx := 565) (tg := 0) rfl rfl rfl rfl ?_
  refine lw_ia (nx := 566) (tg := 0) rfl rfl (lw_ix hi hk hl (by decide) (by decide)) ?_
  refine lw_st (i := .i2l) (nx := 567) (tg := 0) rfl rfl rfl rfl ?_
  refine lw_st (i := .ldc2_w 110) (nx := 570) (tg := 0) rfl rfl rfl rfl ?_
  refine lw_st (i := .land) (nx := 571) (tg := 0) rfl rfl rfl rfl ?_
  refine lw_st (i := .lor) (nx := 572) (tg := 0) rfl rfl rfl rfl ?_
  refine lw_is (x := 112) (g := 170) (nx := 575) (tg := 0) rfl rfl rfl (lw_lim hr) (Nat.le_of_ble_eq_true rfl) (Nat.le_of_ble_eq_true rfl) rfl ?_
  refine lw_claimF hB hr (fun h1 h2 h3 S1 hB1 hR1 => ?_) (fun hf S1 hB1 hR1 => ?_) (fun h1 h2 h3 S1 hB1 hR1 => ?_) (fun h1 h2 h3 S1 hB1 hR1 => ?_)
  · skip
    have hb1 := lw_hb hR1 hs1 hs2 hk
    have hr1 : hw_room pg_TT S1 := lw_rm hb1.1 hb1.2
    have hM1 := lw_m1 hM hR1 hb1.1
    show lw_W scr 1000 281 Q (575, [some (.ref mm_big), some (.ref 0), some (.ref 1654), some (.ref 3296), some (.int i), a, b], [.int 0], S1)
    refine lw_st (k := (577, [some (.ref mm_big), some (.ref 0), some (.ref 1654), some (.ref 3296), some (.int i), some (.int 0), b], [], S1)) (i := .istore 5) (nx := 577) (tg := 0) rfl rfl rfl rfl ?_
    refine lw_st (i := .aload_n 2) (nx := 578) (tg := 0) rfl rfl rfl rfl ?_
    refine lw_st (i := .aload_n 0) (nx := 579) (tg := 0) rfl rfl rfl rfl ?_
    refine lw_st (i := .iload 4) (nx := 581) (tg := 0) rfl rfl rfl rfl ?_
    refine lw_st (i := .iconst 1) (nx := 582) (tg := 0) rfl rfl rfl rfl ?_
    refine lw_st (i := .iadd) (nx := 583) (tg := 0) rfl rfl rfl rfl ?_
    refine lw_ia (nx := 584) (tg := 0) rfl rfl (lw_ix hi hk hl (by decide) (by decide)) ?_
    refine lw_st (i := .aload_n 0) (nx := 585) (tg := 0) rfl rfl rfl rfl ?_
    refine lw_st (i := .iload 4) (nx := 587) (tg := 0) rfl rfl rfl rfl ?_
    refine lw_st (i := .iconst 2) (nx := 588) (tg := 0) rfl rfl rfl rfl ?_
    refine lw_st (i := .iadd) (nx := 589) (tg := 0) rfl rfl rfl rfl ?_
    refine lw_ia (nx := 590) (tg := 0) rfl rfl (lw_ix hi hk hl (by decide) (by decide)) ?_
    refine lw_st (i := .i2l) (nx := 591) (tg := 0) rfl rfl rfl rfl ?_
    refine lw_st (i := .bipush 32) (nx := 593) (tg := 0) rfl rfl rfl rfl ?_
    refine lw_st (i := .lshl) (nx := 594) (tg := 0) rfl rfl rfl rfl ?_
    refine lw_st (i := .aload_n 0) (nx := 595) (tg := 0) rfl rfl rfl rfl ?_
    refine lw_st (i := .iload 4) (nx := 597) (tg := 0) rfl rfl rfl rfl ?_
    refine lw_st (i := .iconst 3) (nx := 598) (tg := 0) rfl rfl rfl rfl ?_
    refine lw_st (i := .iadd) (nx := 599) (tg := 0) rfl rfl rfl rfl ?_
    refine lw_ia (nx := 600) (tg := 0) rfl rfl (lw_ix hi hk hl (by decide) (by decide)) ?_
    refine lw_st (i := .i2l) (nx := 601) (tg := 0) rfl rfl rfl rfl ?_
    refine lw_st (i := .ldc2_w 110) (nx := 604) (tg := 0) rfl rfl rfl rfl ?_
    refine lw_st (i := .land) (nx := 605) (tg := 0) rfl rfl rfl rfl ?_
    refine lw_st (i := .lor) (nx := 606) (tg := 0) rfl rfl rfl rfl ?_
    refine lw_st (i := .aload_n 0) (nx := 607) (tg := 0) rfl rfl rfl rfl ?_
    refine lw_st (i := .iload 4) (nx := 609) (tg := 0) rfl rfl rfl rfl ?_
    refine lw_st (i := .iconst 4) (nx := 610) (tg := 0) rfl rfl rfl rfl ?_
    refine lw_st (i := .iadd) (nx := 611) (tg := 0) rfl rfl rfl rfl ?_
    refine lw_ia (nx := 612) (tg := 0) rfl rfl (lw_ix hi hk hl (by decide) (by decide)) ?_
    refine lw_st (i := .i2l) (nx := 613) (tg := 0) rfl rfl rfl rfl ?_
    refine lw_st (i := .bipush 32) (nx := 615) (tg := 0) rfl rfl rfl rfl ?_
    refine lw_st (i := .lshl) (nx := 616) (tg := 0) rfl rfl rfl rfl ?_
    refine lw_st (i := .aload_n 0) (nx := 617) (tg := 0) rfl rfl rfl rfl ?_
    refine lw_st (i := .iload 4) (nx := 619) (tg := 0) rfl rfl rfl rfl ?_
    refine lw_st (i := .iconst 5) (nx := 620) (tg := 0) rfl rfl rfl rfl ?_
    refine lw_st (i := .iadd) (nx := 621) (tg := 0) rfl rfl rfl rfl ?_
    refine lw_ia (nx := 622) (tg := 0) rfl rfl (lw_ix hi hk hl (by decide) (by decide)) ?_
    refine lw_st (i := .i2l) (nx := 623) (tg := 0) rfl rfl rfl rfl ?_
    refine lw_st (i := .ldc2_w 110) (nx := 626) (tg := 0) rfl rfl rfl rfl ?_
    refine lw_st (i := .land) (nx := 627) (tg := 0) rfl rfl rfl rfl ?_
    refine lw_st (i := .lor) (nx := 628) (tg := 0) rfl rfl rfl rfl ?_
    refine lw_iv (x := 115) (g := 270) (nx := 631) (tg := 0) rfl rfl rfl rfl (lw_lim hr1) (Nat.le_of_ble_eq_true rfl) (Nat.le_of_ble_eq_true rfl) (lw_rk1 hM1) ?_
    refine lm_claimF hM1 hr1 (fun _ _ _ S2 hM2 he2 => ?_) (fun q => q.elim (fun z => absurd h1 (Int.not_lt.mpr z)) (fun z => absurd h2 (Int.not_le.mpr z))) (fun _ _ q => by obtain ⟨Y, hy, _⟩ := h3; have e9 := hy.symm.trans q; cases e9) (fun _ _ q => by obtain ⟨Y, hy, p1⟩ := h3; obtain ⟨Y2, hy2, p2⟩ := q; have e9 := hy.symm.trans hy2; injection e9 with e9; subst e9; exact p2.elim (fun z => absurd p1.1 (Int.not_le.mpr z)) (fun z => absurd p1.2 (Int.not_lt.mpr z)))
    show lw_W scr 1000 281 Q (631, [some (.ref mm_big), some (.ref 0), some (.ref 1654), some (.ref 3296), some (.int i), some (.int 0), b], [], S2)
    have hb2 := lw_hb2 he2 hb1
    have hr2 : hw_room pg_TT S2 := lw_rm hb2.1 hb2.2
    refine lw_st (i := .aload_n 2) (nx := 632) (tg := 0) rfl rfl rfl rfl ?_
    refine lw_iv (x := 116) (g := 186) (nx := 635) (tg := 0) rfl rfl rfl rfl (lw_lim hr2) (Nat.le_of_ble_eq_true rfl) (Nat.le_of_ble_eq_true rfl) (lw_rk1 hM2) ?_
    refine lm_thrown hM2 hr2 (fun t S3 ht hM3 he3 => ?_)
    show lw_W scr 1000 281 Q (635, [some (.ref mm_big), some (.ref 0), some (.ref 1654), some (.ref 3296), some (.int i), some (.int 0), b], [.int t], S3)
    have e13 : hw_el w4_T S1 S3 := hw_el_tr he2 he3
    have ht2 : t = 0 := lw_eq (ht.trans (by decide))
    subst ht2
    refine lw_st (i := .iload 5) (nx := 637) (tg := 0) rfl rfl rfl rfl ?_
    refine lw_if2 (nx := 640) (tg := 642) rfl rfl (fun _ => ?_) (fun q => (q rfl).elim)
    refine lw_st (i := .goto 197) (nx := 645) (tg := 839) rfl rfl rfl rfl ?_
    exact hn _ _ S3 (lw_fi hB1 hR1 e13 hM3 hs1 hs2 hk)
  · skip
    have hb1 := lw_hb hR1 hs1 hs2 hk
    have hr1 : hw_room pg_TT S1 := lw_rm hb1.1 hb1.2
    have hM1 := lw_m1 hM hR1 hb1.1
    show lw_W scr 1000 281 Q (575, [some (.ref mm_big), some (.ref 0), some (.ref 1654), some (.ref 3296), some (.int i), a, b], [.int 1], S1)
    refine lw_st (k := (577, [some (.ref mm_big), some (.ref 0), some (.ref 1654), some (.ref 3296), some (.int i), some (.int 1), b], [], S1)) (i := .istore 5) (nx := 577) (tg := 0) rfl rfl rfl rfl ?_
    refine lw_st (i := .aload_n 2) (nx := 578) (tg := 0) rfl rfl rfl rfl ?_
    refine lw_st (i := .aload_n 0) (nx := 579) (tg := 0) rfl rfl rfl rfl ?_
    refine lw_st (i := .iload 4) (nx := 581) (tg := 0) rfl rfl rfl rfl ?_
    refine lw_st (i := .iconst 1) (nx := 582) (tg := 0) rfl rfl rfl rfl ?_
    refine lw_st (i := .iadd) (nx := 583) (tg := 0) rfl rfl rfl rfl ?_
    refine lw_ia (nx := 584) (tg := 0) rfl rfl (lw_ix hi hk hl (by decide) (by decide)) ?_
    refine lw_st (i := .aload_n 0) (nx := 585) (tg := 0) rfl rfl rfl rfl ?_
    refine lw_st (i := .iload 4) (nx := 587) (tg := 0) rfl rfl rfl rfl ?_
    refine lw_st (i := .iconst 2) (nx := 588) (tg := 0) rfl rfl rfl rfl ?_
    refine lw_st (i := .iadd) (nx := 589) (tg := 0) rfl rfl rfl rfl ?_
    refine lw_ia (nx := 590) (tg := 0) rfl rfl (lw_ix hi hk hl (by decide) (by decide)) ?_
    refine lw_st (i := .i2l) (nx := 591) (tg := 0) rfl rfl rfl rfl ?_
    refine lw_st (i := .bipush 32) (nx := 593) (tg := 0) rfl rfl rfl rfl ?_
    refine lw_st (i := .lshl) (nx := 594) (tg := 0) rfl rfl rfl rfl ?_
    refine lw_st (i := .aload_n 0) (nx := 595) (tg := 0) rfl rfl rfl rfl ?_
    refine lw_st (i := .iload 4) (nx := 597) (tg := 0) rfl rfl rfl rfl ?_
    refine lw_st (i := .iconst 3) (nx := 598) (tg := 0) rfl rfl rfl rfl ?_
    refine lw_st (i := .iadd) (nx := 599) (tg := 0) rfl rfl rfl rfl ?_
    refine lw_ia (nx := 600) (tg := 0) rfl rfl (lw_ix hi hk hl (by decide) (by decide)) ?_
    refine lw_st (i := .i2l) (nx := 601) (tg := 0) rfl rfl rfl rfl ?_
    refine lw_st (i := .ldc2_w 110) (nx := 604) (tg := 0) rfl rfl rfl rfl ?_
    refine lw_st (i := .land) (nx := 605) (tg := 0) rfl rfl rfl rfl ?_
    refine lw_st (i := .lor) (nx := 606) (tg := 0) rfl rfl rfl rfl ?_
    refine lw_st (i := .aload_n 0) (nx := 607) (tg := 0) rfl rfl rfl rfl ?_
    refine lw_st (i := .iload 4) (nx := 609) (tg := 0) rfl rfl rfl rfl ?_
    refine lw_st (i := .iconst 4) (nx := 610) (tg := 0) rfl rfl rfl rfl ?_
    refine lw_st (i := .iadd) (nx := 611) (tg := 0) rfl rfl rfl rfl ?_
    refine lw_ia (nx := 612) (tg := 0) rfl rfl (lw_ix hi hk hl (by decide) (by decide)) ?_
    refine lw_st (i := .i2l) (nx := 613) (tg := 0) rfl rfl rfl rfl ?_
    refine lw_st (i := .bipush 32) (nx := 615) (tg := 0) rfl rfl rfl rfl ?_
    refine lw_st (i := .lshl) (nx := 616) (tg := 0) rfl rfl rfl rfl ?_
    refine lw_st (i := .aload_n 0) (nx := 617) (tg := 0) rfl rfl rfl rfl ?_
    refine lw_st (i := .iload 4) (nx := 619) (tg := 0) rfl rfl rfl rfl ?_
    refine lw_st (i := .iconst 5) (nx := 620) (tg := 0) rfl rfl rfl rfl ?_
    refine lw_st (i := .iadd) (nx := 621) (tg := 0) rfl rfl rfl rfl ?_
    refine lw_ia (nx := 622) (tg := 0) rfl rfl (lw_ix hi hk hl (by decide) (by decide)) ?_
    refine lw_st (i := .i2l) (nx := 623) (tg := 0) rfl rfl rfl rfl ?_
    refine lw_st (i := .ldc2_w 110) (nx := 626) (tg := 0) rfl rfl rfl rfl ?_
    refine lw_st (i := .land) (nx := 627) (tg := 0) rfl rfl rfl rfl ?_
    refine lw_st (i := .lor) (nx := 628) (tg := 0) rfl rfl rfl rfl ?_
    refine lw_iv (x := 115) (g := 270) (nx := 631) (tg := 0) rfl rfl rfl rfl (lw_lim hr1) (Nat.le_of_ble_eq_true rfl) (Nat.le_of_ble_eq_true rfl) (lw_rk1 hM1) ?_
    refine lm_claimF hM1 hr1 (fun q1 q2 => hf.elim (fun z => absurd q1 (Int.not_lt.mpr z)) (fun z => absurd q2 (Int.not_le.mpr z))) (fun _ S2 hM2 he2 => ?_) (fun q1 q2 => hf.elim (fun z => absurd q1 (Int.not_lt.mpr z)) (fun z => absurd q2 (Int.not_le.mpr z))) (fun q1 q2 => hf.elim (fun z => absurd q1 (Int.not_lt.mpr z)) (fun z => absurd q2 (Int.not_le.mpr z)))
    show lw_W scr 1000 281 Q (631, [some (.ref mm_big), some (.ref 0), some (.ref 1654), some (.ref 3296), some (.int i), some (.int 1), b], [], S2)
    have hb2 := lw_hb2 he2 hb1
    have hr2 : hw_room pg_TT S2 := lw_rm hb2.1 hb2.2
    refine lw_st (i := .aload_n 2) (nx := 632) (tg := 0) rfl rfl rfl rfl ?_
    refine lw_iv (x := 116) (g := 186) (nx := 635) (tg := 0) rfl rfl rfl rfl (lw_lim hr2) (Nat.le_of_ble_eq_true rfl) (Nat.le_of_ble_eq_true rfl) (lw_rk1 hM2) ?_
    refine lm_thrown hM2 hr2 (fun t S3 ht hM3 he3 => ?_)
    show lw_W scr 1000 281 Q (635, [some (.ref mm_big), some (.ref 0), some (.ref 1654), some (.ref 3296), some (.int i), some (.int 1), b], [.int t], S3)
    have e13 : hw_el w4_T S1 S3 := hw_el_tr he2 he3
    have ht2 : t = 1 := lw_eq (ht.trans (by decide))
    subst ht2
    refine lw_st (i := .iload 5) (nx := 637) (tg := 0) rfl rfl rfl rfl ?_
    refine lw_if2 (nx := 640) (tg := 642) rfl rfl (fun _ => ?_) (fun q => (q rfl).elim)
    refine lw_st (i := .goto 197) (nx := 645) (tg := 839) rfl rfl rfl rfl ?_
    exact hn _ _ S3 (lw_fi hB1 hR1 e13 hM3 hs1 hs2 hk)
  · skip
    have hb1 := lw_hb hR1 hs1 hs2 hk
    have hr1 : hw_room pg_TT S1 := lw_rm hb1.1 hb1.2
    have hM1 := lw_m1 hM hR1 hb1.1
    show lw_W scr 1000 281 Q (575, [some (.ref mm_big), some (.ref 0), some (.ref 1654), some (.ref 3296), some (.int i), a, b], [.int 2], S1)
    refine lw_st (k := (577, [some (.ref mm_big), some (.ref 0), some (.ref 1654), some (.ref 3296), some (.int i), some (.int 2), b], [], S1)) (i := .istore 5) (nx := 577) (tg := 0) rfl rfl rfl rfl ?_
    refine lw_st (i := .aload_n 2) (nx := 578) (tg := 0) rfl rfl rfl rfl ?_
    refine lw_st (i := .aload_n 0) (nx := 579) (tg := 0) rfl rfl rfl rfl ?_
    refine lw_st (i := .iload 4) (nx := 581) (tg := 0) rfl rfl rfl rfl ?_
    refine lw_st (i := .iconst 1) (nx := 582) (tg := 0) rfl rfl rfl rfl ?_
    refine lw_st (i := .iadd) (nx := 583) (tg := 0) rfl rfl rfl rfl ?_
    refine lw_ia (nx := 584) (tg := 0) rfl rfl (lw_ix hi hk hl (by decide) (by decide)) ?_
    refine lw_st (i := .aload_n 0) (nx := 585) (tg := 0) rfl rfl rfl rfl ?_
    refine lw_st (i := .iload 4) (nx := 587) (tg := 0) rfl rfl rfl rfl ?_
    refine lw_st (i := .iconst 2) (nx := 588) (tg := 0) rfl rfl rfl rfl ?_
    refine lw_st (i := .iadd) (nx := 589) (tg := 0) rfl rfl rfl rfl ?_
    refine lw_ia (nx := 590) (tg := 0) rfl rfl (lw_ix hi hk hl (by decide) (by decide)) ?_
    refine lw_st (i := .i2l) (nx := 591) (tg := 0) rfl rfl rfl rfl ?_
    refine lw_st (i := .bipush 32) (nx := 593) (tg := 0) rfl rfl rfl rfl ?_
    refine lw_st (i := .lshl) (nx := 594) (tg := 0) rfl rfl rfl rfl ?_
    refine lw_st (i := .aload_n 0) (nx := 595) (tg := 0) rfl rfl rfl rfl ?_
    refine lw_st (i := .iload 4) (nx := 597) (tg := 0) rfl rfl rfl rfl ?_
    refine lw_st (i := .iconst 3) (nx := 598) (tg := 0) rfl rfl rfl rfl ?_
    refine lw_st (i := .iadd) (nx := 599) (tg := 0) rfl rfl rfl rfl ?_
    refine lw_ia (nx := 600) (tg := 0) rfl rfl (lw_ix hi hk hl (by decide) (by decide)) ?_
    refine lw_st (i := .i2l) (nx := 601) (tg := 0) rfl rfl rfl rfl ?_
    refine lw_st (i := .ldc2_w 110) (nx := 604) (tg := 0) rfl rfl rfl rfl ?_
    refine lw_st (i := .land) (nx := 605) (tg := 0) rfl rfl rfl rfl ?_
    refine lw_st (i := .lor) (nx := 606) (tg := 0) rfl rfl rfl rfl ?_
    refine lw_st (i := .aload_n 0) (nx := 607) (tg := 0) rfl rfl rfl rfl ?_
    refine lw_st (i := .iload 4) (nx := 609) (tg := 0) rfl rfl rfl rfl ?_
    refine lw_st (i := .iconst 4) (nx := 610) (tg := 0) rfl rfl rfl rfl ?_
    refine lw_st (i := .iadd) (nx := 611) (tg := 0) rfl rfl rfl rfl ?_
    refine lw_ia (nx := 612) (tg := 0) rfl rfl (lw_ix hi hk hl (by decide) (by decide)) ?_
    refine lw_st (i := .i2l) (nx := 613) (tg := 0) rfl rfl rfl rfl ?_
    refine lw_st (i := .bipush 32) (nx := 615) (tg := 0) rfl rfl rfl rfl ?_
    refine lw_st (i := .lshl) (nx := 616) (tg := 0) rfl rfl rfl rfl ?_
    refine lw_st (i := .aload_n 0) (nx := 617) (tg := 0) rfl rfl rfl rfl ?_
    refine lw_st (i := .iload 4) (nx := 619) (tg := 0) rfl rfl rfl rfl ?_
    refine lw_st (i := .iconst 5) (nx := 620) (tg := 0) rfl rfl rfl rfl ?_
    refine lw_st (i := .iadd) (nx := 621) (tg := 0) rfl rfl rfl rfl ?_
    refine lw_ia (nx := 622) (tg := 0) rfl rfl (lw_ix hi hk hl (by decide) (by decide)) ?_
    refine lw_st (i := .i2l) (nx := 623) (tg := 0) rfl rfl rfl rfl ?_
    refine lw_st (i := .ldc2_w 110) (nx := 626) (tg := 0) rfl rfl rfl rfl ?_
    refine lw_st (i := .land) (nx := 627) (tg := 0) rfl rfl rfl rfl ?_
    refine lw_st (i := .lor) (nx := 628) (tg := 0) rfl rfl rfl rfl ?_
    refine lw_iv (x := 115) (g := 270) (nx := 631) (tg := 0) rfl rfl rfl rfl (lw_lim hr1) (Nat.le_of_ble_eq_true rfl) (Nat.le_of_ble_eq_true rfl) (lw_rk1 hM1) ?_
    refine lm_claimF hM1 hr1 (fun _ _ q => by obtain ⟨Y, hy, _⟩ := q; have e9 := h3.symm.trans hy; cases e9) (fun q => q.elim (fun z => absurd h1 (Int.not_lt.mpr z)) (fun z => absurd h2 (Int.not_le.mpr z))) (fun _ _ _ S2 hM2 he2 => ?_) (fun _ _ q => by obtain ⟨Y, hy, _⟩ := q; have e9 := h3.symm.trans hy; cases e9)
    show lw_W scr 1000 281 Q (631, [some (.ref mm_big), some (.ref 0), some (.ref 1654), some (.ref 3296), some (.int i), some (.int 2), b], [], S2)
    have hb2 := lw_hb2 he2 hb1
    have hr2 : hw_room pg_TT S2 := lw_rm hb2.1 hb2.2
    refine lw_st (i := .aload_n 2) (nx := 632) (tg := 0) rfl rfl rfl rfl ?_
    refine lw_iv (x := 116) (g := 186) (nx := 635) (tg := 0) rfl rfl rfl rfl (lw_lim hr2) (Nat.le_of_ble_eq_true rfl) (Nat.le_of_ble_eq_true rfl) (lw_rk1 hM2) ?_
    refine lm_thrown hM2 hr2 (fun t S3 ht hM3 he3 => ?_)
    show lw_W scr 1000 281 Q (635, [some (.ref mm_big), some (.ref 0), some (.ref 1654), some (.ref 3296), some (.int i), some (.int 2), b], [.int t], S3)
    have e13 : hw_el w4_T S1 S3 := hw_el_tr he2 he3
    have ht2 : t = 2 := lw_eq (ht.trans (by decide))
    subst ht2
    refine lw_st (i := .iload 5) (nx := 637) (tg := 0) rfl rfl rfl rfl ?_
    refine lw_if2 (nx := 640) (tg := 642) rfl rfl (fun _ => ?_) (fun q => (q rfl).elim)
    refine lw_st (i := .goto 197) (nx := 645) (tg := 839) rfl rfl rfl rfl ?_
    exact hn _ _ S3 (lw_fi hB1 hR1 e13 hM3 hs1 hs2 hk)
  · skip
    have hb1 := lw_hb hR1 hs1 hs2 hk
    have hr1 : hw_room pg_TT S1 := lw_rm hb1.1 hb1.2
    have hM1 := lw_m1 hM hR1 hb1.1
    show lw_W scr 1000 281 Q (575, [some (.ref mm_big), some (.ref 0), some (.ref 1654), some (.ref 3296), some (.int i), a, b], [.int 3], S1)
    refine lw_st (k := (577, [some (.ref mm_big), some (.ref 0), some (.ref 1654), some (.ref 3296), some (.int i), some (.int 3), b], [], S1)) (i := .istore 5) (nx := 577) (tg := 0) rfl rfl rfl rfl ?_
    refine lw_st (i := .aload_n 2) (nx := 578) (tg := 0) rfl rfl rfl rfl ?_
    refine lw_st (i := .aload_n 0) (nx := 579) (tg := 0) rfl rfl rfl rfl ?_
    refine lw_st (i := .iload 4) (nx := 581) (tg := 0) rfl rfl rfl rfl ?_
    refine lw_st (i := .iconst 1) (nx := 582) (tg := 0) rfl rfl rfl rfl ?_
    refine lw_st (i := .iadd) (nx := 583) (tg := 0) rfl rfl rfl rfl ?_
    refine lw_ia (nx := 584) (tg := 0) rfl rfl (lw_ix hi hk hl (by decide) (by decide)) ?_
    refine lw_st (i := .aload_n 0) (nx := 585) (tg := 0) rfl rfl rfl rfl ?_
    refine lw_st (i := .iload 4) (nx := 587) (tg := 0) rfl rfl rfl rfl ?_
    refine lw_st (i := .iconst 2) (nx := 588) (tg := 0) rfl rfl rfl rfl ?_
    refine lw_st (i := .iadd) (nx := 589) (tg := 0) rfl rfl rfl rfl ?_
    refine lw_ia (nx := 590) (tg := 0) rfl rfl (lw_ix hi hk hl (by decide) (by decide)) ?_
    refine lw_st (i := .i2l) (nx := 591) (tg := 0) rfl rfl rfl rfl ?_
    refine lw_st (i := .bipush 32) (nx := 593) (tg := 0) rfl rfl rfl rfl ?_
    refine lw_st (i := .lshl) (nx := 594) (tg := 0) rfl rfl rfl rfl ?_
    refine lw_st (i := .aload_n 0) (nx := 595) (tg := 0) rfl rfl rfl rfl ?_
    refine lw_st (i := .iload 4) (nx := 597) (tg := 0) rfl rfl rfl rfl ?_
    refine lw_st (i := .iconst 3) (nx := 598) (tg := 0) rfl rfl rfl rfl ?_
    refine lw_st (i := .iadd) (nx := 599) (tg := 0) rfl rfl rfl rfl ?_
    refine lw_ia (nx := 600) (tg := 0) rfl rfl (lw_ix hi hk hl (by decide) (by decide)) ?_
    refine lw_st (i := .i2l) (nx := 601) (tg := 0) rfl rfl rfl rfl ?_
    refine lw_st (i := .ldc2_w 110) (nx := 604) (tg := 0) rfl rfl rfl rfl ?_
    refine lw_st (i := .land) (nx := 605) (tg := 0) rfl rfl rfl rfl ?_
    refine lw_st (i := .lor) (nx := 606) (tg := 0) rfl rfl rfl rfl ?_
    refine lw_st (i := .aload_n 0) (nx := 607) (tg := 0) rfl rfl rfl rfl ?_
    refine lw_st (i := .iload 4) (nx := 609) (tg := 0) rfl rfl rfl rfl ?_
    refine lw_st (i := .iconst 4) (nx := 610) (tg := 0) rfl rfl rfl rfl ?_
    refine lw_st (i := .iadd) (nx := 611) (tg := 0) rfl rfl rfl rfl ?_
    refine lw_ia (nx := 612) (tg := 0) rfl rfl (lw_ix hi hk hl (by decide) (by decide)) ?_
    refine lw_st (i := .i2l) (nx := 613) (tg := 0) rfl rfl rfl rfl ?_
    refine lw_st (i := .bipush 32) (nx := 615) (tg := 0) rfl rfl rfl rfl ?_
    refine lw_st (i := .lshl) (nx := 616) (tg := 0) rfl rfl rfl rfl ?_
    refine lw_st (i := .aload_n 0) (nx := 617) (tg := 0) rfl rfl rfl rfl ?_
    refine lw_st (i := .iload 4) (nx := 619) (tg := 0) rfl rfl rfl rfl ?_
    refine lw_st (i := .iconst 5) (nx := 620) (tg := 0) rfl rfl rfl rfl ?_
    refine lw_st (i := .iadd) (nx := 621) (tg := 0) rfl rfl rfl rfl ?_
    refine lw_ia (nx := 622) (tg := 0) rfl rfl (lw_ix hi hk hl (by decide) (by decide)) ?_
    refine lw_st (i := .i2l) (nx := 623) (tg := 0) rfl rfl rfl rfl ?_
    refine lw_st (i := .ldc2_w 110) (nx := 626) (tg := 0) rfl rfl rfl rfl ?_
    refine lw_st (i := .land) (nx := 627) (tg := 0) rfl rfl rfl rfl ?_
    refine lw_st (i := .lor) (nx := 628) (tg := 0) rfl rfl rfl rfl ?_
    refine lw_iv (x := 115) (g := 270) (nx := 631) (tg := 0) rfl rfl rfl rfl (lw_lim hr1) (Nat.le_of_ble_eq_true rfl) (Nat.le_of_ble_eq_true rfl) (lw_rk1 hM1) ?_
    refine lm_claimF hM1 hr1 (fun _ _ q => by obtain ⟨Y, hy, p1⟩ := h3; obtain ⟨Y2, hy2, p2⟩ := q; have e9 := hy.symm.trans hy2; injection e9 with e9; subst e9; exact p1.elim (fun z => absurd p2.1 (Int.not_le.mpr z)) (fun z => absurd p2.2 (Int.not_lt.mpr z))) (fun q => q.elim (fun z => absurd h1 (Int.not_lt.mpr z)) (fun z => absurd h2 (Int.not_le.mpr z))) (fun _ _ q => by obtain ⟨Y, hy, _⟩ := h3; have e9 := hy.symm.trans q; cases e9) (fun _ _ _ S2 hM2 he2 => ?_)
    show lw_W scr 1000 281 Q (631, [some (.ref mm_big), some (.ref 0), some (.ref 1654), some (.ref 3296), some (.int i), some (.int 3), b], [], S2)
    have hb2 := lw_hb2 he2 hb1
    have hr2 : hw_room pg_TT S2 := lw_rm hb2.1 hb2.2
    refine lw_st (i := .aload_n 2) (nx := 632) (tg := 0) rfl rfl rfl rfl ?_
    refine lw_iv (x := 116) (g := 186) (nx := 635) (tg := 0) rfl rfl rfl rfl (lw_lim hr2) (Nat.le_of_ble_eq_true rfl) (Nat.le_of_ble_eq_true rfl) (lw_rk1 hM2) ?_
    refine lm_thrown hM2 hr2 (fun t S3 ht hM3 he3 => ?_)
    show lw_W scr 1000 281 Q (635, [some (.ref mm_big), some (.ref 0), some (.ref 1654), some (.ref 3296), some (.int i), some (.int 3), b], [.int t], S3)
    have e13 : hw_el w4_T S1 S3 := hw_el_tr he2 he3
    have ht2 : t = 3 := lw_eq (ht.trans (by decide))
    subst ht2
    refine lw_st (i := .iload 5) (nx := 637) (tg := 0) rfl rfl rfl rfl ?_
    refine lw_if2 (nx := 640) (tg := 642) rfl rfl (fun _ => ?_) (fun q => (q rfl).elim)
    refine lw_st (i := .goto 197) (nx := 645) (tg := 839) rfl rfl rfl rfl ?_
    exact hn _ _ S3 (lw_fi hB1 hR1 e13 hM3 hs1 hs2 hk)
theorem lk_claimResult {scr : Nat × (Nat → Int32)} {k : Nat} {i : Int32} {a b : Option Value} {S : mm_S} {Q : mm_O → mm_S → Prop} (hj : lw_J k S) (hk : k ≤ 511) (hi : i.toInt = 6 * (k : Int)) (hl : 6 * k + 6 ≤ scr.1) (hn : ∀ a b S', lw_J (k + 1) S' → lw_W scr 1000 281 Q (839, [some (.ref mm_big), some (.ref 0), some (.ref 1654), some (.ref 3296), some (.int i), a, b], [], S')) : lw_W scr 1000 281 Q (645, [some (.ref mm_big), some (.ref 0), some (.ref 1654), some (.ref 3296), some (.int i), a, b], [], S) := by
  obtain ⟨f, er, g, Do, Yo, hB, hM, hs1, hs2⟩ := hj
  have hr : hw_room pg_TT S := lw_rm (by omega) (by omega)
  refine lw_st (i := .aload_n 1) (nx := 646) (tg := 0) rfl rfl rfl rfl ?_
  refine lw_st (i := .aload_n 0) (nx := 647) (tg := 0) rfl rfl rfl rfl ?_
  refine lw_st (i := .iload 4) (nx := 649) (tg := 0) rfl rfl rfl rfl ?_
  refine lw_st (i := .iconst 1) (nx := 650) (tg := 0) rfl rfl rfl rfl ?_
  refine lw_st (i := .iadd) (nx := 651) (tg := 0) rfl rfl rfl rfl ?_
  refine lw_ia (nx := 652) (tg := 0) rfl rfl (lw_ix hi hk hl (by decide) (by decide)) ?_
  refine lw_is (x := 119) (g := 172) (nx := 655) (tg := 0) rfl rfl rfl (lw_lim hr) (Nat.le_of_ble_eq_true rfl) (Nat.le_of_ble_eq_true rfl) rfl ?_
  refine lw_claimResult hB hr (fun v S1 hB1 hR1 => ?_)
  have hb1 : S1.1 ≤ 5000 ∧ S1.2.1 ≤ 600000 := by
    have q1 := hR1.2.1
    have q2 := hR1.2.2.1
    omega
  have hr1 : hw_room pg_TT S1 := lw_rm hb1.1 hb1.2
  have hM1 := lw_m1 hM hR1 hb1.1
  show lw_W scr 1000 281 Q (655, [some (.ref mm_big), some (.ref 0), some (.ref 1654), some (.ref 3296), some (.int i), a, b], [.int v], S1)
  refine lw_st (k := (657, [some (.ref mm_big), some (.ref 0), some (.ref 1654), some (.ref 3296), some (.int i), some (.int v), b], [], S1)) (i := .istore 5) (nx := 657) (tg := 0) rfl rfl rfl rfl ?_
  refine lw_st (i := .aload_n 2) (nx := 658) (tg := 0) rfl rfl rfl rfl ?_
  refine lw_st (i := .aload_n 0) (nx := 659) (tg := 0) rfl rfl rfl rfl ?_
  refine lw_st (i := .iload 4) (nx := 661) (tg := 0) rfl rfl rfl rfl ?_
  refine lw_st (i := .iconst 1) (nx := 662) (tg := 0) rfl rfl rfl rfl ?_
  refine lw_st (i := .iadd) (nx := 663) (tg := 0) rfl rfl rfl rfl ?_
  refine lw_ia (nx := 664) (tg := 0) rfl rfl (lw_ix hi hk hl (by decide) (by decide)) ?_
  refine lw_iv (x := 122) (g := 271) (nx := 667) (tg := 0) rfl rfl rfl rfl (lw_lim hr1) (Nat.le_of_ble_eq_true rfl) (Nat.le_of_ble_eq_true rfl) (lw_rk1 hM1) ?_
  refine lm_claimResult hM1 hr1 (fun e2 S2 hM2 he2 => ?_)
  show lw_W scr 1000 281 Q (667, [some (.ref mm_big), some (.ref 0), some (.ref 1654), some (.ref 3296), some (.int i), some (.int v), b], [], S2)
  refine lw_st (i := .goto 172) (nx := 670) (tg := 839) rfl rfl rfl rfl ?_
  exact hn _ _ S2 (lw_fi hB1 hR1 he2 hM2 hs1 hs2 hk)
theorem lk_check {scr : Nat × (Nat → Int32)} {k : Nat} {i : Int32} {a b : Option Value} {S : mm_S} {Q : mm_O → mm_S → Prop} (hj : lw_J k S) (hk : k ≤ 511) (hi : i.toInt = 6 * (k : Int)) (hl : 6 * k + 6 ≤ scr.1) (hn : ∀ a b S', lw_J (k + 1) S' → lw_W scr 1000 281 Q (839, [some (.ref mm_big), some (.ref 0), some (.ref 1654), some (.ref 3296), some (.int i), a, b], [], S')) : lw_W scr 1000 281 Q (670, [some (.ref mm_big), some (.ref 0), some (.ref 1654), some (.ref 3296), some (.int i), a, b], [], S) := by
  obtain ⟨f, er, g, Do, Yo, hB, hM, hs1, hs2⟩ := hj
  have hr : hw_room pg_TT S := lw_rm (by omega) (by omega)
  refine lw_st (i := .aload_n 1) (nx := 671) (tg := 0) rfl rfl rfl rfl ?_
  refine lw_st (i := .aload_n 0) (nx := 672) (tg := 0) rfl rfl rfl rfl ?_
  refine lw_st (i := .iload 4) (nx := 674) (tg := 0) rfl rfl rfl rfl ?_
  refine lw_st (i := .iconst 1) (nx := 675) (tg := 0) rfl rfl rfl rfl ?_
  refine lw_st (i := .iadd) (nx := 676) (tg := 0) rfl rfl rfl rfl ?_
  refine lw_ia (nx := 677) (tg := 0) rfl rfl (lw_ix hi hk hl (by decide) (by decide)) ?_
  refine lw_bl (p1 := 680) (p2 := 681) (p3 := 684) (p4 := 685) rfl rfl rfl rfl rfl rfl rfl rfl (fun t => ?_)
  refine lw_st (i := .aload_n 3) (nx := 686) (tg := 0) rfl rfl rfl rfl ?_
  refine lw_is (x := 123) (g := 174) (nx := 689) (tg := 0) rfl rfl rfl (lw_lim hr) (Nat.le_of_ble_eq_true rfl) (Nat.le_of_ble_eq_true rfl) rfl ?_
  refine lw_check hB hr (fun v S1 hB1 hR1 => ?_)
  have hb1 : S1.1 ≤ 5000 ∧ S1.2.1 ≤ 600000 := by
    have q1 := hR1.2.1
    have q2 := hR1.2.2.1
    omega
  have hr1 : hw_room pg_TT S1 := lw_rm hb1.1 hb1.2
  have hM1 := lw_m1 hM hR1 hb1.1
  show lw_W scr 1000 281 Q (689, [some (.ref mm_big), some (.ref 0), some (.ref 1654), some (.ref 3296), some (.int i), a, b], [.int v], S1)
  refine lw_st (k := (691, [some (.ref mm_big), some (.ref 0), some (.ref 1654), some (.ref 3296), some (.int i), some (.int v), b], [], S1)) (i := .istore 5) (nx := 691) (tg := 0) rfl rfl rfl rfl ?_
  refine lw_st (i := .aload_n 2) (nx := 692) (tg := 0) rfl rfl rfl rfl ?_
  refine lw_st (i := .aload_n 0) (nx := 693) (tg := 0) rfl rfl rfl rfl ?_
  refine lw_st (i := .iload 4) (nx := 695) (tg := 0) rfl rfl rfl rfl ?_
  refine lw_st (i := .iconst 1) (nx := 696) (tg := 0) rfl rfl rfl rfl ?_
  refine lw_st (i := .iadd) (nx := 697) (tg := 0) rfl rfl rfl rfl ?_
  refine lw_ia (nx := 698) (tg := 0) rfl rfl (lw_ix hi hk hl (by decide) (by decide)) ?_
  refine lw_bl (p1 := 701) (p2 := 702) (p3 := 705) (p4 := 706) rfl rfl rfl rfl rfl rfl rfl rfl (fun t => ?_)
  refine lw_iv (x := 125) (g := 273) (nx := 709) (tg := 0) rfl rfl rfl rfl (lw_lim hr1) (Nat.le_of_ble_eq_true rfl) (Nat.le_of_ble_eq_true rfl) (lw_rk1 hM1) ?_
  refine lm_check hM1 hr1 (fun w e2 S2 hM2 he2 => ?_)
  show lw_W scr 1000 281 Q (709, [some (.ref mm_big), some (.ref 0), some (.ref 1654), some (.ref 3296), some (.int i), some (.int v), b], [.int w], S2)
  refine lw_st (k := (711, [some (.ref mm_big), some (.ref 0), some (.ref 1654), some (.ref 3296), some (.int i), some (.int v), some (.int w)], [], S2)) (i := .istore 6) (nx := 711) (tg := 0) rfl rfl rfl rfl ?_
  refine lw_st (i := .goto 128) (nx := 714) (tg := 839) rfl rfl rfl rfl ?_
  exact hn _ _ S2 (lw_fi hB1 hR1 he2 hM2 hs1 hs2 hk)
theorem lk_bits {scr : Nat × (Nat → Int32)} {k : Nat} {i : Int32} {a b : Option Value} {S : mm_S} {Q : mm_O → mm_S → Prop} (hj : lw_J k S) (hk : k ≤ 511) (hi : i.toInt = 6 * (k : Int)) (hl : 6 * k + 6 ≤ scr.1) (hn : ∀ a b S', lw_J (k + 1) S' → lw_W scr 1000 281 Q (839, [some (.ref mm_big), some (.ref 0), some (.ref 1654), some (.ref 3296), some (.int i), a, b], [], S')) : lw_W scr 1000 281 Q (714, [some (.ref mm_big), some (.ref 0), some (.ref 1654), some (.ref 3296), some (.int i), a, b], [], S) := by
  obtain ⟨f, er, g, Do, Yo, hB, hM, hs1, hs2⟩ := hj
  have hr : hw_room pg_TT S := lw_rm (by omega) (by omega)
  refine lw_st (i := .aload_n 1) (nx := 715) (tg := 0) rfl rfl rfl rfl ?_
  refine lw_st (i := .aload_n 0) (nx := 716) (tg := 0) rfl rfl rfl rfl ?_
  refine lw_st (i := .iload 4) (nx := 718) (tg := 0) rfl rfl rfl rfl ?_
  refine lw_st (i := .iconst 1) (nx := 719) (tg := 0) rfl rfl rfl rfl ?_
  refine lw_st (i := .iadd) (nx := 720) (tg := 0) rfl rfl rfl rfl ?_
  refine lw_ia (nx := 721) (tg := 0) rfl rfl (lw_ix hi hk hl (by decide) (by decide)) ?_
  refine lw_bl (p1 := 724) (p2 := 725) (p3 := 728) (p4 := 729) rfl rfl rfl rfl rfl rfl rfl rfl (fun t => ?_)
  refine lw_iv (x := 126) (g := 15) (nx := 732) (tg := 0) rfl rfl rfl rfl (lw_lim hr) (Nat.le_of_ble_eq_true rfl) (Nat.le_of_ble_eq_true rfl) (lw_rk2 hB) ?_
  refine lc_bits hB hr (fun v S1 hB1 hR1 => ?_)
  show lw_W scr 1000 281 Q (732, [some (.ref mm_big), some (.ref 0), some (.ref 1654), some (.ref 3296), some (.int i), a, b], [.int v], S1)
  refine lw_st (k := (733, [some (.ref mm_big), some (.ref 0), some (.ref 1654), some (.ref 3296), some (.int i), a, b], [], S1)) (i := .pop) (nx := 733) (tg := 0) rfl rfl rfl rfl ?_
  have hb1 : S1.1 ≤ 5000 ∧ S1.2.1 ≤ 600000 := by
    have q1 := hR1.2.1
    have q2 := hR1.2.2.1
    omega
  have hr1 : hw_room pg_TT S1 := lw_rm hb1.1 hb1.2
  have hM1 := lw_m1 hM hR1 hb1.1
  refine lw_st (i := .aload_n 2) (nx := 734) (tg := 0) rfl rfl rfl rfl ?_
  refine lw_st (i := .aload_n 0) (nx := 735) (tg := 0) rfl rfl rfl rfl ?_
  refine lw_st (i := .iload 4) (nx := 737) (tg := 0) rfl rfl rfl rfl ?_
  refine lw_st (i := .iconst 1) (nx := 738) (tg := 0) rfl rfl rfl rfl ?_
  refine lw_st (i := .iadd) (nx := 739) (tg := 0) rfl rfl rfl rfl ?_
  refine lw_ia (nx := 740) (tg := 0) rfl rfl (lw_ix hi hk hl (by decide) (by decide)) ?_
  refine lw_bl (p1 := 743) (p2 := 744) (p3 := 747) (p4 := 748) rfl rfl rfl rfl rfl rfl rfl rfl (fun t => ?_)
  refine lw_iv (x := 129) (g := 276) (nx := 751) (tg := 0) rfl rfl rfl rfl (lw_lim hr1) (Nat.le_of_ble_eq_true rfl) (Nat.le_of_ble_eq_true rfl) (lw_rk1 hM1) ?_
  refine lm_bits hM1 hr1 (fun w e2 S2 hM2 he2 => ?_)
  show lw_W scr 1000 281 Q (751, [some (.ref mm_big), some (.ref 0), some (.ref 1654), some (.ref 3296), some (.int i), a, b], [.int w], S2)
  refine lw_st (k := (752, [some (.ref mm_big), some (.ref 0), some (.ref 1654), some (.ref 3296), some (.int i), a, b], [], S2)) (i := .pop) (nx := 752) (tg := 0) rfl rfl rfl rfl ?_
  refine lw_st (i := .goto 87) (nx := 755) (tg := 839) rfl rfl rfl rfl ?_
  exact hn _ _ S2 (lw_fi hB1 hR1 he2 hM2 hs1 hs2 hk)
theorem lk_part {scr : Nat × (Nat → Int32)} {k : Nat} {i : Int32} {a b : Option Value} {S : mm_S} {Q : mm_O → mm_S → Prop} (hj : lw_J k S) (hk : k ≤ 511) (hi : i.toInt = 6 * (k : Int)) (hl : 6 * k + 6 ≤ scr.1) (hn : ∀ a b S', lw_J (k + 1) S' → lw_W scr 1000 281 Q (839, [some (.ref mm_big), some (.ref 0), some (.ref 1654), some (.ref 3296), some (.int i), a, b], [], S')) : lw_W scr 1000 281 Q (755, [some (.ref mm_big), some (.ref 0), some (.ref 1654), some (.ref 3296), some (.int i), a, b], [], S) := by
  obtain ⟨f, er, g, Do, Yo, hB, hM, hs1, hs2⟩ := hj
  have hr : hw_room pg_TT S := lw_rm (by omega) (by omega)
  refine lw_st (i := .aload_n 1) (nx := 756) (tg := 0) rfl rfl rfl rfl ?_
  refine lw_st (i := .aload_n 0) (nx := 757) (tg := 0) rfl rfl rfl rfl ?_
  refine lw_st (i := .iload 4) (nx := 759) (tg := 0) rfl rfl rfl rfl ?_
  refine lw_st (i := .iconst 1) (nx := 760) (tg := 0) rfl rfl rfl rfl ?_
  refine lw_st (i := .iadd) (nx := 761) (tg := 0) rfl rfl rfl rfl ?_
  refine lw_ia (nx := 762) (tg := 0) rfl rfl (lw_ix hi hk hl (by decide) (by decide)) ?_
  refine lw_bl (p1 := 765) (p2 := 766) (p3 := 769) (p4 := 770) rfl rfl rfl rfl rfl rfl rfl rfl (fun t => ?_)
  refine lw_st (i := .aload_n 0) (nx := 771) (tg := 0) rfl rfl rfl rfl ?_
  refine lw_st (i := .iload 4) (nx := 773) (tg := 0) rfl rfl rfl rfl ?_
  refine lw_st (i := .iconst 2) (nx := 774) (tg := 0) rfl rfl rfl rfl ?_
  refine lw_st (i := .iadd) (nx := 775) (tg := 0) rfl rfl rfl rfl ?_
  refine lw_ia (nx := 776) (tg := 0) rfl rfl (lw_ix hi hk hl (by decide) (by decide)) ?_
  refine lw_st (i := .aload_n 3) (nx := 777) (tg := 0) rfl rfl rfl rfl ?_
  refine lw_is (x := 130) (g := 176) (nx := 780) (tg := 0) rfl rfl rfl (lw_lim hr) (Nat.le_of_ble_eq_true rfl) (Nat.le_of_ble_eq_true rfl) rfl ?_
  refine lw_part hB hr (fun v S1 hB1 hR1 => ?_)
  have hb1 : S1.1 ≤ 5000 ∧ S1.2.1 ≤ 600000 := by
    have q1 := hR1.2.1
    have q2 := hR1.2.2.1
    omega
  have hr1 : hw_room pg_TT S1 := lw_rm hb1.1 hb1.2
  have hM1 := lw_m1 hM hR1 hb1.1
  show lw_W scr 1000 281 Q (780, [some (.ref mm_big), some (.ref 0), some (.ref 1654), some (.ref 3296), some (.int i), a, b], [.int v], S1)
  refine lw_st (k := (782, [some (.ref mm_big), some (.ref 0), some (.ref 1654), some (.ref 3296), some (.int i), some (.int v), b], [], S1)) (i := .istore 5) (nx := 782) (tg := 0) rfl rfl rfl rfl ?_
  refine lw_st (i := .aload_n 2) (nx := 783) (tg := 0) rfl rfl rfl rfl ?_
  refine lw_st (i := .aload_n 0) (nx := 784) (tg := 0) rfl rfl rfl rfl ?_
  refine lw_st (i := .iload 4) (nx := 786) (tg := 0) rfl rfl rfl rfl ?_
  refine lw_st (i := .iconst 1) (nx := 787) (tg := 0) rfl rfl rfl rfl ?_
  refine lw_st (i := .iadd) (nx := 788) (tg := 0) rfl rfl rfl rfl ?_
  refine lw_ia (nx := 789) (tg := 0) rfl rfl (lw_ix hi hk hl (by decide) (by decide)) ?_
  refine lw_bl (p1 := 792) (p2 := 793) (p3 := 796) (p4 := 797) rfl rfl rfl rfl rfl rfl rfl rfl (fun t => ?_)
  refine lw_st (i := .aload_n 0) (nx := 798) (tg := 0) rfl rfl rfl rfl ?_
  refine lw_st (i := .iload 4) (nx := 800) (tg := 0) rfl rfl rfl rfl ?_
  refine lw_st (i := .iconst 2) (nx := 801) (tg := 0) rfl rfl rfl rfl ?_
  refine lw_st (i := .iadd) (nx := 802) (tg := 0) rfl rfl rfl rfl ?_
  refine lw_ia (nx := 803) (tg := 0) rfl rfl (lw_ix hi hk hl (by decide) (by decide)) ?_
  refine lw_iv (x := 132) (g := 277) (nx := 806) (tg := 0) rfl rfl rfl rfl (lw_lim hr1) (Nat.le_of_ble_eq_true rfl) (Nat.le_of_ble_eq_true rfl) (lw_rk1 hM1) ?_
  refine lm_part hM1 hr1 (fun w e2 S2 hM2 he2 => ?_)
  show lw_W scr 1000 281 Q (806, [some (.ref mm_big), some (.ref 0), some (.ref 1654), some (.ref 3296), some (.int i), some (.int v), b], [.int w], S2)
  refine lw_st (k := (808, [some (.ref mm_big), some (.ref 0), some (.ref 1654), some (.ref 3296), some (.int i), some (.int v), some (.int w)], [], S2)) (i := .istore 6) (nx := 808) (tg := 0) rfl rfl rfl rfl ?_
  refine lw_st (i := .goto 31) (nx := 811) (tg := 839) rfl rfl rfl rfl ?_
  exact hn _ _ S2 (lw_fi hB1 hR1 he2 hM2 hs1 hs2 hk)
theorem lk_count {scr : Nat × (Nat → Int32)} {k : Nat} {i : Int32} {a b : Option Value} {S : mm_S} {Q : mm_O → mm_S → Prop} (hj : lw_J k S) (hk : k ≤ 511) (hi : i.toInt = 6 * (k : Int)) (hl : 6 * k + 6 ≤ scr.1) (hn : ∀ a b S', lw_J (k + 1) S' → lw_W scr 1000 281 Q (839, [some (.ref mm_big), some (.ref 0), some (.ref 1654), some (.ref 3296), some (.int i), a, b], [], S')) : lw_W scr 1000 281 Q (811, [some (.ref mm_big), some (.ref 0), some (.ref 1654), some (.ref 3296), some (.int i), a, b], [], S) := by
  obtain ⟨f, er, g, Do, Yo, hB, hM, hs1, hs2⟩ := hj
  have hr : hw_room pg_TT S := lw_rm (by omega) (by omega)
  refine lw_st (i := .aload_n 1) (nx := 812) (tg := 0) rfl rfl rfl rfl ?_
  refine lw_st (i := .aload_n 0) (nx := 813) (tg := 0) rfl rfl rfl rfl ?_
  refine lw_st (i := .iload 4) (nx := 815) (tg := 0) rfl rfl rfl rfl ?_
  refine lw_st (i := .iconst 1) (nx := 816) (tg := 0) rfl rfl rfl rfl ?_
  refine lw_st (i := .iadd) (nx := 817) (tg := 0) rfl rfl rfl rfl ?_
  refine lw_ia (nx := 818) (tg := 0) rfl rfl (lw_ix hi hk hl (by decide) (by decide)) ?_
  refine lw_st (i := .aload_n 3) (nx := 819) (tg := 0) rfl rfl rfl rfl ?_
  refine lw_is (x := 133) (g := 178) (nx := 822) (tg := 0) rfl rfl rfl (lw_lim hr) (Nat.le_of_ble_eq_true rfl) (Nat.le_of_ble_eq_true rfl) rfl ?_
  refine lw_count hB hr (fun v S1 hB1 hR1 => ?_)
  have hb1 : S1.1 ≤ 5000 ∧ S1.2.1 ≤ 600000 := by
    have q1 := hR1.2.1
    have q2 := hR1.2.2.1
    omega
  have hr1 : hw_room pg_TT S1 := lw_rm hb1.1 hb1.2
  have hM1 := lw_m1 hM hR1 hb1.1
  show lw_W scr 1000 281 Q (822, [some (.ref mm_big), some (.ref 0), some (.ref 1654), some (.ref 3296), some (.int i), a, b], [.int v], S1)
  refine lw_st (k := (824, [some (.ref mm_big), some (.ref 0), some (.ref 1654), some (.ref 3296), some (.int i), some (.int v), b], [], S1)) (i := .istore 5) (nx := 824) (tg := 0) rfl rfl rfl rfl ?_
  refine lw_st (i := .aload_n 2) (nx := 825) (tg := 0) rfl rfl rfl rfl ?_
  refine lw_st (i := .aload_n 0) (nx := 826) (tg := 0) rfl rfl rfl rfl ?_
  refine lw_st (i := .iload 4) (nx := 828) (tg := 0) rfl rfl rfl rfl ?_
  refine lw_st (i := .iconst 1) (nx := 829) (tg := 0) rfl rfl rfl rfl ?_
  refine lw_st (i := .iadd) (nx := 830) (tg := 0) rfl rfl rfl rfl ?_
  refine lw_ia (nx := 831) (tg := 0) rfl rfl (lw_ix hi hk hl (by decide) (by decide)) ?_
  refine lw_iv (x := 135) (g := 279) (nx := 834) (tg := 0) rfl rfl rfl rfl (lw_lim hr1) (Nat.le_of_ble_eq_true rfl) (Nat.le_of_ble_eq_true rfl) (lw_rk1 hM1) ?_
  refine lm_count hM1 hr1 (fun w e2 S2 hM2 he2 => ?_)
  show lw_W scr 1000 281 Q (834, [some (.ref mm_big), some (.ref 0), some (.ref 1654), some (.ref 3296), some (.int i), some (.int v), b], [.int w], S2)
  refine lw_st (k := (836, [some (.ref mm_big), some (.ref 0), some (.ref 1654), some (.ref 3296), some (.int i), some (.int v), some (.int w)], [], S2)) (i := .istore 6) (nx := 836) (tg := 0) rfl rfl rfl rfl ?_
  refine lw_st (i := .goto 3) (nx := 839) (tg := 839) rfl rfl rfl rfl ?_
  exact hn _ _ S2 (lw_fi hB1 hR1 he2 hM2 hs1 hs2 hk)
