/-! the law's cases -/
theorem lw_hb {k : Nat} {S S1 : mm_S} (hR : lw_R S S1) (h1 : S.1 ≤ 3297 + k) (h2 : S.2.1 ≤ 529432 + 6 * k) (hk : k ≤ 511) : S1.1 ≤ 5000 ∧ S1.2.1 ≤ 600000 := by
  have q1 := hR.2.1
  have q2 := hR.2.2.1
  omega
theorem lw_hb2 {S1 S2 : mm_S} (he : hw_el w4_T S1 S2) (hb : S1.1 ≤ 5000 ∧ S1.2.1 ≤ 600000) : S2.1 ≤ 5000 ∧ S2.2.1 ≤ 600000 := by
  have q1 := he.1
  have q2 := he.2.1
  omega
theorem lk_feed {scr : Nat × (Nat → Int32)} {k : Nat} {i : Int32} {a b : Option Value} {S : mm_S} {Q : mm_O → mm_S → Prop} (hj : lw_J k S) (hk : k ≤ 511) (hi : i.toInt = 6 * (k : Int)) (hl : 6 * k + 6 ≤ scr.1) (hn : ∀ a b S', lw_J (k + 1) S' → lw_W scr 1000 281 Q (856, [some (.ref mm_big), some (.ref 0), some (.ref 1654), some (.ref 3296), some (.int i), a, b], [], S')) : lw_W scr 1000 281 Q (116, [some (.ref mm_big), some (.ref 0), some (.ref 1654), some (.ref 3296), some (.int i), a, b], [], S) := by
  obtain ⟨f, er, g, Do, Yo, hB, hM, hs1, hs2⟩ := hj
  have hr : hw_room pg_TT S := lw_rm (by omega) (by omega)
  refine lw_st (i := .aload_n 1) (nx := 117) (tg := 0) rfl rfl rfl rfl ?_
  refine lw_st (i := .aload_n 0) (nx := 118) (tg := 0) rfl rfl rfl rfl ?_
  refine lw_st (i := .iload 4) (nx := 120) (tg := 0) rfl rfl rfl rfl ?_
  refine lw_st (i := .iconst 1) (nx := 121) (tg := 0) rfl rfl rfl rfl ?_
  refine lw_st (i := .iadd) (nx := 122) (tg := 0) rfl rfl rfl rfl ?_
  refine lw_ia (nx := 123) (tg := 0) rfl rfl (lw_ix hi hk hl (by decide) (by decide)) ?_
  refine lw_st (i := .aload_n 0) (nx := 124) (tg := 0) rfl rfl rfl rfl ?_
  refine lw_st (i := .iload 4) (nx := 126) (tg := 0) rfl rfl rfl rfl ?_
  refine lw_st (i := .iconst 2) (nx := 127) (tg := 0) rfl rfl rfl rfl ?_
  refine lw_st (i := .iadd) (nx := 128) (tg := 0) rfl rfl rfl rfl ?_
  refine lw_ia (nx := 129) (tg := 0) rfl rfl (lw_ix hi hk hl (by decide) (by decide)) ?_
  refine lw_st (i := .aload_n 0) (nx := 130) (tg := 0) rfl rfl rfl rfl ?_
  refine lw_st (i := .iload 4) (nx := 132) (tg := 0) rfl rfl rfl rfl ?_
  refine lw_st (i := .iconst 3) (nx := 133) (tg := 0) rfl rfl rfl rfl ?_
  refine lw_st (i := .iadd) (nx := 134) (tg := 0) rfl rfl rfl rfl ?_
  refine lw_ia (nx := 135) (tg := 0) rfl rfl (lw_ix hi hk hl (by decide) (by decide)) ?_
  refine lw_st (i := .aload_n 0) (nx := 136) (tg := 0) rfl rfl rfl rfl ?_
  refine lw_st (i := .iload 4) (nx := 138) (tg := 0) rfl rfl rfl rfl ?_
  refine lw_st (i := .iconst 4) (nx := 139) (tg := 0) rfl rfl rfl rfl ?_
  refine lw_st (i := .iadd) (nx := 140) (tg := 0) rfl rfl rfl rfl ?_
  refine lw_ia (nx := 141) (tg := 0) rfl rfl (lw_ix hi hk hl (by decide) (by decide)) ?_
  refine lw_st (i := .aload_n 0) (nx := 142) (tg := 0) rfl rfl rfl rfl ?_
  refine lw_st (i := .iload 4) (nx := 144) (tg := 0) rfl rfl rfl rfl ?_
  refine lw_st (i := .iconst 5) (nx := 145) (tg := 0) rfl rfl rfl rfl ?_
  refine lw_st (i := .iadd) (nx := 146) (tg := 0) rfl rfl rfl rfl ?_
  refine lw_ia (nx := 147) (tg := 0) rfl rfl (lw_ix hi hk hl (by decide) (by decide)) ?_
  refine lw_st (i := .aload_n 3) (nx := 148) (tg := 0) rfl rfl rfl rfl ?_
  refine lw_is (x := 73) (g := 19) (nx := 151) (tg := 0) rfl rfl rfl (lw_lim hr) (Nat.le_of_ble_eq_true rfl) (Nat.le_of_ble_eq_true rfl) rfl ?_
  refine lw_feed hB hr (fun hf S1 e hB1 hR1 hO1 he1 => ?_) (fun hf S1 hB1 hR1 => ?_)
  · skip
    have hb1 : S1.1 ≤ 5000 ∧ S1.2.1 ≤ 600000 := by
      have q1 := hR1.2.1
      have q2 := hR1.2.2.1
      omega
    have hr1 : hw_room pg_TT S1 := lw_rm hb1.1 hb1.2
    have hM1 := lw_m1 hM hR1 hb1.1
    show lw_W scr 1000 281 Q (151, [some (.ref mm_big), some (.ref 0), some (.ref 1654), some (.ref 3296), some (.int i), a, b], [.int 0], S1)
    refine lw_st (k := (153, [some (.ref mm_big), some (.ref 0), some (.ref 1654), some (.ref 3296), some (.int i), some (.int 0), b], [], S1)) (i := .istore 5) (nx := 153) (tg := 0) rfl rfl rfl rfl ?_
    refine lw_st (i := .aload_n 2) (nx := 154) (tg := 0) rfl rfl rfl rfl ?_
    refine lw_st (i := .aload_n 0) (nx := 155) (tg := 0) rfl rfl rfl rfl ?_
    refine lw_st (i := .iload 4) (nx := 157) (tg := 0) rfl rfl rfl rfl ?_
    refine lw_st (i := .iconst 1) (nx := 158) (tg := 0) rfl rfl rfl rfl ?_
    refine lw_st (i := .iadd) (nx := 159) (tg := 0) rfl rfl rfl rfl ?_
    refine lw_ia (nx := 160) (tg := 0) rfl rfl (lw_ix hi hk hl (by decide) (by decide)) ?_
    refine lw_st (i := .aload_n 0) (nx := 161) (tg := 0) rfl rfl rfl rfl ?_
    refine lw_st (i := .iload 4) (nx := 163) (tg := 0) rfl rfl rfl rfl ?_
    refine lw_st (i := .iconst 2) (nx := 164) (tg := 0) rfl rfl rfl rfl ?_
    refine lw_st (i := .iadd) (nx := 165) (tg := 0) rfl rfl rfl rfl ?_
    refine lw_ia (nx := 166) (tg := 0) rfl rfl (lw_ix hi hk hl (by decide) (by decide)) ?_
    refine lw_st (i := .aload_n 0) (nx := 167) (tg := 0) rfl rfl rfl rfl ?_
    refine lw_st (i := .iload 4) (nx := 169) (tg := 0) rfl rfl rfl rfl ?_
    refine lw_st (i := .iconst 3) (nx := 170) (tg := 0) rfl rfl rfl rfl ?_
    refine lw_st (i := .iadd) (nx := 171) (tg := 0) rfl rfl rfl rfl ?_
    refine lw_ia (nx := 172) (tg := 0) rfl rfl (lw_ix hi hk hl (by decide) (by decide)) ?_
    refine lw_st (i := .aload_n 0) (nx := 173) (tg := 0) rfl rfl rfl rfl ?_
    refine lw_st (i := .iload 4) (nx := 175) (tg := 0) rfl rfl rfl rfl ?_
    refine lw_st (i := .iconst 4) (nx := 176) (tg := 0) rfl rfl rfl rfl ?_
    refine lw_st (i := .iadd) (nx := 177) (tg := 0) rfl rfl rfl rfl ?_
    refine lw_ia (nx := 178) (tg := 0) rfl rfl (lw_ix hi hk hl (by decide) (by decide)) ?_
    refine lw_st (i := .aload_n 0) (nx := 179) (tg := 0) rfl rfl rfl rfl ?_
    refine lw_st (i := .iload 4) (nx := 181) (tg := 0) rfl rfl rfl rfl ?_
    refine lw_st (i := .iconst 5) (nx := 182) (tg := 0) rfl rfl rfl rfl ?_
    refine lw_st (i := .iadd) (nx := 183) (tg := 0) rfl rfl rfl rfl ?_
    refine lw_ia (nx := 184) (tg := 0) rfl rfl (lw_ix hi hk hl (by decide) (by decide)) ?_
    refine lw_iv (x := 78) (g := 187) (nx := 187) (tg := 0) rfl rfl rfl rfl (lw_lim hr1) (Nat.le_of_ble_eq_true rfl) (Nat.le_of_ble_eq_true rfl) (lw_rk1 hM1) ?_
    refine lm_feed hM1 hr1 (fun _ w S2 hw hM2 he2 => ?_) (fun q => absurd hf (by omega))
    show lw_W scr 1000 281 Q (187, [some (.ref mm_big), some (.ref 0), some (.ref 1654), some (.ref 3296), some (.int i), some (.int 0), b], [.int w], S2)
    refine lw_st (k := (189, [some (.ref mm_big), some (.ref 0), some (.ref 1654), some (.ref 3296), some (.int i), some (.int 0), some (.int w)], [], S2)) (i := .istore 6) (nx := 189) (tg := 0) rfl rfl rfl rfl ?_
    refine lw_st (i := .goto 667) (nx := 192) (tg := 856) rfl rfl rfl rfl ?_
    exact hn _ _ S2 (lw_fi hB1 hR1 he2 hM2 hs1 hs2 hk)
  · skip
    have hb1 : S1.1 ≤ 5000 ∧ S1.2.1 ≤ 600000 := by
      have q1 := hR1.2.1
      have q2 := hR1.2.2.1
      omega
    have hr1 : hw_room pg_TT S1 := lw_rm hb1.1 hb1.2
    have hM1 := lw_m1 hM hR1 hb1.1
    show lw_W scr 1000 281 Q (151, [some (.ref mm_big), some (.ref 0), some (.ref 1654), some (.ref 3296), some (.int i), a, b], [.int 1], S1)
    refine lw_st (k := (153, [some (.ref mm_big), some (.ref 0), some (.ref 1654), some (.ref 3296), some (.int i), some (.int 1), b], [], S1)) (i := .istore 5) (nx := 153) (tg := 0) rfl rfl rfl rfl ?_
    refine lw_st (i := .aload_n 2) (nx := 154) (tg := 0) rfl rfl rfl rfl ?_
    refine lw_st (i := .aload_n 0) (nx := 155) (tg := 0) rfl rfl rfl rfl ?_
    refine lw_st (i := .iload 4) (nx := 157) (tg := 0) rfl rfl rfl rfl ?_
    refine lw_st (i := .iconst 1) (nx := 158) (tg := 0) rfl rfl rfl rfl ?_
    refine lw_st (i := .iadd) (nx := 159) (tg := 0) rfl rfl rfl rfl ?_
    refine lw_ia (nx := 160) (tg := 0) rfl rfl (lw_ix hi hk hl (by decide) (by decide)) ?_
    refine lw_st (i := .aload_n 0) (nx := 161) (tg := 0) rfl rfl rfl rfl ?_
    refine lw_st (i := .iload 4) (nx := 163) (tg := 0) rfl rfl rfl rfl ?_
    refine lw_st (i := .iconst 2) (nx := 164) (tg := 0) rfl rfl rfl rfl ?_
    refine lw_st (i := .iadd) (nx := 165) (tg := 0) rfl rfl rfl rfl ?_
    refine lw_ia (nx := 166) (tg := 0) rfl rfl (lw_ix hi hk hl (by decide) (by decide)) ?_
    refine lw_st (i := .aload_n 0) (nx := 167) (tg := 0) rfl rfl rfl rfl ?_
    refine lw_st (i := .iload 4) (nx := 169) (tg := 0) rfl rfl rfl rfl ?_
    refine lw_st (i := .iconst 3) (nx := 170) (tg := 0) rfl rfl rfl rfl ?_
    refine lw_st (i := .iadd) (nx := 171) (tg := 0) rfl rfl rfl rfl ?_
    refine lw_ia (nx := 172) (tg := 0) rfl rfl (lw_ix hi hk hl (by decide) (by decide)) ?_
    refine lw_st (i := .aload_n 0) (nx := 173) (tg := 0) rfl rfl rfl rfl ?_
    refine lw_st (i := .iload 4) (nx := 175) (tg := 0) rfl rfl rfl rfl ?_
    refine lw_st (i := .iconst 4) (nx := 176) (tg := 0) rfl rfl rfl rfl ?_
    refine lw_st (i := .iadd) (nx := 177) (tg := 0) rfl rfl rfl rfl ?_
    refine lw_ia (nx := 178) (tg := 0) rfl rfl (lw_ix hi hk hl (by decide) (by decide)) ?_
    refine lw_st (i := .aload_n 0) (nx := 179) (tg := 0) rfl rfl rfl rfl ?_
    refine lw_st (i := .iload 4) (nx := 181) (tg := 0) rfl rfl rfl rfl ?_
    refine lw_st (i := .iconst 5) (nx := 182) (tg := 0) rfl rfl rfl rfl ?_
    refine lw_st (i := .iadd) (nx := 183) (tg := 0) rfl rfl rfl rfl ?_
    refine lw_ia (nx := 184) (tg := 0) rfl rfl (lw_ix hi hk hl (by decide) (by decide)) ?_
    refine lw_iv (x := 78) (g := 187) (nx := 187) (tg := 0) rfl rfl rfl rfl (lw_lim hr1) (Nat.le_of_ble_eq_true rfl) (Nat.le_of_ble_eq_true rfl) (lw_rk1 hM1) ?_
    refine lm_feed hM1 hr1 (fun q => absurd hf (by omega)) (fun _ w S2 hM2 he2 => ?_)
    show lw_W scr 1000 281 Q (187, [some (.ref mm_big), some (.ref 0), some (.ref 1654), some (.ref 3296), some (.int i), some (.int 1), b], [.int w], S2)
    refine lw_st (k := (189, [some (.ref mm_big), some (.ref 0), some (.ref 1654), some (.ref 3296), some (.int i), some (.int 1), some (.int w)], [], S2)) (i := .istore 6) (nx := 189) (tg := 0) rfl rfl rfl rfl ?_
    refine lw_st (i := .goto 667) (nx := 192) (tg := 856) rfl rfl rfl rfl ?_
    exact hn _ _ S2 (lw_fi hB1 hR1 he2 hM2 hs1 hs2 hk)
theorem lk_end {scr : Nat × (Nat → Int32)} {k : Nat} {i : Int32} {a b : Option Value} {S : mm_S} {Q : mm_O → mm_S → Prop} (hj : lw_J k S) (hk : k ≤ 511) (hi : i.toInt = 6 * (k : Int)) (hl : 6 * k + 6 ≤ scr.1) (hn : ∀ a b S', lw_J (k + 1) S' → lw_W scr 1000 281 Q (856, [some (.ref mm_big), some (.ref 0), some (.ref 1654), some (.ref 3296), some (.int i), a, b], [], S')) : lw_W scr 1000 281 Q (192, [some (.ref mm_big), some (.ref 0), some (.ref 1654), some (.ref 3296), some (.int i), a, b], [], S) := by
  obtain ⟨f, er, g, Do, Yo, hB, hM, hs1, hs2⟩ := hj
  have hr : hw_room pg_TT S := lw_rm (by omega) (by omega)
  refine lw_st (i := .aload_n 1) (nx := 193) (tg := 0) rfl rfl rfl rfl ?_
  refine lw_st (i := .aload_n 0) (nx := 194) (tg := 0) rfl rfl rfl rfl ?_
  refine lw_st (i := .iload 4) (nx := 196) (tg := 0) rfl rfl rfl rfl ?_
  refine lw_st (i := .iconst 1) (nx := 197) (tg := 0) rfl rfl rfl rfl ?_
  refine lw_st (i := .iadd) (nx := 198) (tg := 0) rfl rfl rfl rfl ?_
  refine lw_ia (nx := 199) (tg := 0) rfl rfl (lw_ix hi hk hl (by decide) (by decide)) ?_
  refine lw_st (i := .aload_n 3) (nx := 200) (tg := 0) rfl rfl rfl rfl ?_
  refine lw_is (x := 79) (g := 23) (nx := 203) (tg := 0) rfl rfl rfl (lw_lim hr) (Nat.le_of_ble_eq_true rfl) (Nat.le_of_ble_eq_true rfl) rfl ?_
  refine lw_end hB hr (fun hf S1 e Dq1 r1 hp1 hd1 hB1 hR1 hO1 he1 => ?_) (fun hf S1 hB1 hR1 => ?_) (fun hf hp1 S1 hB1 hR1 => ?_)
  · skip
    have hb1 : S1.1 ≤ 5000 ∧ S1.2.1 ≤ 600000 := by
      have q1 := hR1.2.1
      have q2 := hR1.2.2.1
      omega
    have hr1 : hw_room pg_TT S1 := lw_rm hb1.1 hb1.2
    have hM1 := lw_m1 hM hR1 hb1.1
    show lw_W scr 1000 281 Q (203, [some (.ref mm_big), some (.ref 0), some (.ref 1654), some (.ref 3296), some (.int i), a, b], [.int 0], S1)
    refine lw_st (k := (205, [some (.ref mm_big), some (.ref 0), some (.ref 1654), some (.ref 3296), some (.int i), some (.int 0), b], [], S1)) (i := .istore 5) (nx := 205) (tg := 0) rfl rfl rfl rfl ?_
    refine lw_st (i := .aload_n 2) (nx := 206) (tg := 0) rfl rfl rfl rfl ?_
    refine lw_st (i := .aload_n 0) (nx := 207) (tg := 0) rfl rfl rfl rfl ?_
    refine lw_st (i := .iload 4) (nx := 209) (tg := 0) rfl rfl rfl rfl ?_
    refine lw_st (i := .iconst 1) (nx := 210) (tg := 0) rfl rfl rfl rfl ?_
    refine lw_st (i := .iadd) (nx := 211) (tg := 0) rfl rfl rfl rfl ?_
    refine lw_ia (nx := 212) (tg := 0) rfl rfl (lw_ix hi hk hl (by decide) (by decide)) ?_
    refine lw_iv (x := 82) (g := 190) (nx := 215) (tg := 0) rfl rfl rfl rfl (lw_lim hr1) (Nat.le_of_ble_eq_true rfl) (Nat.le_of_ble_eq_true rfl) (lw_rk1 hM1) ?_
    refine lm_end hM1 hr1 (fun q => absurd hf q) (fun _ hp2 => by have e := hp1.symm.trans hp2; cases e) (fun _ Dq2 r2 w S2 hp2 hd2 hw hM2 he2 => ?_)
    show lw_W scr 1000 281 Q (215, [some (.ref mm_big), some (.ref 0), some (.ref 1654), some (.ref 3296), some (.int i), some (.int 0), b], [.int w], S2)
    refine lw_st (k := (217, [some (.ref mm_big), some (.ref 0), some (.ref 1654), some (.ref 3296), some (.int i), some (.int 0), some (.int w)], [], S2)) (i := .istore 6) (nx := 217) (tg := 0) rfl rfl rfl rfl ?_
    have hr12 : Dq1 = Dq2 := by
      have e9 := hp1.symm.trans hp2
      injection e9
    subst hr12
    refine lw_st (i := .goto 639) (nx := 220) (tg := 856) rfl rfl rfl rfl ?_
    exact hn _ _ S2 (lw_fi hB1 hR1 he2 hM2 hs1 hs2 hk)
  · skip
    have hb1 : S1.1 ≤ 5000 ∧ S1.2.1 ≤ 600000 := by
      have q1 := hR1.2.1
      have q2 := hR1.2.2.1
      omega
    have hr1 : hw_room pg_TT S1 := lw_rm hb1.1 hb1.2
    have hM1 := lw_m1 hM hR1 hb1.1
    show lw_W scr 1000 281 Q (203, [some (.ref mm_big), some (.ref 0), some (.ref 1654), some (.ref 3296), some (.int i), a, b], [.int 1], S1)
    refine lw_st (k := (205, [some (.ref mm_big), some (.ref 0), some (.ref 1654), some (.ref 3296), some (.int i), some (.int 1), b], [], S1)) (i := .istore 5) (nx := 205) (tg := 0) rfl rfl rfl rfl ?_
    refine lw_st (i := .aload_n 2) (nx := 206) (tg := 0) rfl rfl rfl rfl ?_
    refine lw_st (i := .aload_n 0) (nx := 207) (tg := 0) rfl rfl rfl rfl ?_
    refine lw_st (i := .iload 4) (nx := 209) (tg := 0) rfl rfl rfl rfl ?_
    refine lw_st (i := .iconst 1) (nx := 210) (tg := 0) rfl rfl rfl rfl ?_
    refine lw_st (i := .iadd) (nx := 211) (tg := 0) rfl rfl rfl rfl ?_
    refine lw_ia (nx := 212) (tg := 0) rfl rfl (lw_ix hi hk hl (by decide) (by decide)) ?_
    refine lw_iv (x := 82) (g := 190) (nx := 215) (tg := 0) rfl rfl rfl rfl (lw_lim hr1) (Nat.le_of_ble_eq_true rfl) (Nat.le_of_ble_eq_true rfl) (lw_rk1 hM1) ?_
    refine lm_end hM1 hr1 (fun _ w S2 hM2 he2 => ?_) (fun q => absurd q hf) (fun q => absurd q hf)
    show lw_W scr 1000 281 Q (215, [some (.ref mm_big), some (.ref 0), some (.ref 1654), some (.ref 3296), some (.int i), some (.int 1), b], [.int w], S2)
    refine lw_st (k := (217, [some (.ref mm_big), some (.ref 0), some (.ref 1654), some (.ref 3296), some (.int i), some (.int 1), some (.int w)], [], S2)) (i := .istore 6) (nx := 217) (tg := 0) rfl rfl rfl rfl ?_
    refine lw_st (i := .goto 639) (nx := 220) (tg := 856) rfl rfl rfl rfl ?_
    exact hn _ _ S2 (lw_fi hB1 hR1 he2 hM2 hs1 hs2 hk)
  · skip
    have hb1 : S1.1 ≤ 5000 ∧ S1.2.1 ≤ 600000 := by
      have q1 := hR1.2.1
      have q2 := hR1.2.2.1
      omega
    have hr1 : hw_room pg_TT S1 := lw_rm hb1.1 hb1.2
    have hM1 := lw_m1 hM hR1 hb1.1
    show lw_W scr 1000 281 Q (203, [some (.ref mm_big), some (.ref 0), some (.ref 1654), some (.ref 3296), some (.int i), a, b], [.int 2], S1)
    refine lw_st (k := (205, [some (.ref mm_big), some (.ref 0), some (.ref 1654), some (.ref 3296), some (.int i), some (.int 2), b], [], S1)) (i := .istore 5) (nx := 205) (tg := 0) rfl rfl rfl rfl ?_
    refine lw_st (i := .aload_n 2) (nx := 206) (tg := 0) rfl rfl rfl rfl ?_
    refine lw_st (i := .aload_n 0) (nx := 207) (tg := 0) rfl rfl rfl rfl ?_
    refine lw_st (i := .iload 4) (nx := 209) (tg := 0) rfl rfl rfl rfl ?_
    refine lw_st (i := .iconst 1) (nx := 210) (tg := 0) rfl rfl rfl rfl ?_
    refine lw_st (i := .iadd) (nx := 211) (tg := 0) rfl rfl rfl rfl ?_
    refine lw_ia (nx := 212) (tg := 0) rfl rfl (lw_ix hi hk hl (by decide) (by decide)) ?_
    refine lw_iv (x := 82) (g := 190) (nx := 215) (tg := 0) rfl rfl rfl rfl (lw_lim hr1) (Nat.le_of_ble_eq_true rfl) (Nat.le_of_ble_eq_true rfl) (lw_rk1 hM1) ?_
    refine lm_end hM1 hr1 (fun q => absurd hf q) (fun _ _ w S2 hM2 he2 => ?_) (fun _ Dq2 r2 w S2 hp2 => by have e := hp1.symm.trans hp2; cases e)
    show lw_W scr 1000 281 Q (215, [some (.ref mm_big), some (.ref 0), some (.ref 1654), some (.ref 3296), some (.int i), some (.int 2), b], [.int w], S2)
    refine lw_st (k := (217, [some (.ref mm_big), some (.ref 0), some (.ref 1654), some (.ref 3296), some (.int i), some (.int 2), some (.int w)], [], S2)) (i := .istore 6) (nx := 217) (tg := 0) rfl rfl rfl rfl ?_
    refine lw_st (i := .goto 639) (nx := 220) (tg := 856) rfl rfl rfl rfl ?_
    exact hn _ _ S2 (lw_fi hB1 hR1 he2 hM2 hs1 hs2 hk)
theorem lk_wrong {scr : Nat × (Nat → Int32)} {k : Nat} {i : Int32} {a b : Option Value} {S : mm_S} {Q : mm_O → mm_S → Prop} (hj : lw_J k S) (hk : k ≤ 511) (hi : i.toInt = 6 * (k : Int)) (hl : 6 * k + 6 ≤ scr.1) (hn : ∀ a b S', lw_J (k + 1) S' → lw_W scr 1000 281 Q (856, [some (.ref mm_big), some (.ref 0), some (.ref 1654), some (.ref 3296), some (.int i), a, b], [], S')) : lw_W scr 1000 281 Q (220, [some (.ref mm_big), some (.ref 0), some (.ref 1654), some (.ref 3296), some (.int i), a, b], [], S) := by
  obtain ⟨f, er, g, Do, Yo, hB, hM, hs1, hs2⟩ := hj
  have hr : hw_room pg_TT S := lw_rm (by omega) (by omega)
  refine lw_st (i := .aload_n 1) (nx := 221) (tg := 0) rfl rfl rfl rfl ?_
  refine lw_iv (x := 83) (g := 14) (nx := 224) (tg := 0) rfl rfl rfl rfl (lw_lim hr) (Nat.le_of_ble_eq_true rfl) (Nat.le_of_ble_eq_true rfl) (lw_rk2 hB) ?_
  refine lc_wrong hB hr (fun v S1 hB1 hR1 => ?_)
  show lw_W scr 1000 281 Q (224, [some (.ref mm_big), some (.ref 0), some (.ref 1654), some (.ref 3296), some (.int i), a, b], [.int v], S1)
  refine lw_st (k := (225, [some (.ref mm_big), some (.ref 0), some (.ref 1654), some (.ref 3296), some (.int i), a, b], [], S1)) (i := .pop) (nx := 225) (tg := 0) rfl rfl rfl rfl ?_
  have hb1 : S1.1 ≤ 5000 ∧ S1.2.1 ≤ 600000 := by
    have q1 := hR1.2.1
    have q2 := hR1.2.2.1
    omega
  have hr1 : hw_room pg_TT S1 := lw_rm hb1.1 hb1.2
  have hM1 := lw_m1 hM hR1 hb1.1
  refine lw_st (i := .aload_n 2) (nx := 226) (tg := 0) rfl rfl rfl rfl ?_
  refine lw_iv (x := 86) (g := 189) (nx := 229) (tg := 0) rfl rfl rfl rfl (lw_lim hr1) (Nat.le_of_ble_eq_true rfl) (Nat.le_of_ble_eq_true rfl) (lw_rk1 hM1) ?_
  refine lm_wrong hM1 hr1 (fun w e2 S2 hM2 he2 => ?_)
  show lw_W scr 1000 281 Q (229, [some (.ref mm_big), some (.ref 0), some (.ref 1654), some (.ref 3296), some (.int i), a, b], [.int w], S2)
  refine lw_st (k := (230, [some (.ref mm_big), some (.ref 0), some (.ref 1654), some (.ref 3296), some (.int i), a, b], [], S2)) (i := .pop) (nx := 230) (tg := 0) rfl rfl rfl rfl ?_
  refine lw_st (i := .goto 626) (nx := 233) (tg := 856) rfl rfl rfl rfl ?_
  exact hn _ _ S2 (lw_fi hB1 hR1 he2 hM2 hs1 hs2 hk)
theorem lk_explore {scr : Nat × (Nat → Int32)} {k : Nat} {i : Int32} {a b : Option Value} {S : mm_S} {Q : mm_O → mm_S → Prop} (hj : lw_J k S) (hk : k ≤ 511) (hi : i.toInt = 6 * (k : Int)) (hl : 6 * k + 6 ≤ scr.1) (hn : ∀ a b S', lw_J (k + 1) S' → lw_W scr 1000 281 Q (856, [some (.ref mm_big), some (.ref 0), some (.ref 1654), some (.ref 3296), some (.int i), a, b], [], S')) : lw_W scr 1000 281 Q (233, [some (.ref mm_big), some (.ref 0), some (.ref 1654), some (.ref 3296), some (.int i), a, b], [], S) := by
  obtain ⟨f, er, g, Do, Yo, hB, hM, hs1, hs2⟩ := hj
  have hr : hw_room pg_TT S := lw_rm (by omega) (by omega)
  refine lw_st (i := .aload_n 1) (nx := 234) (tg := 0) rfl rfl rfl rfl ?_
  refine lw_st (i := .aload_n 3) (nx := 235) (tg := 0) rfl rfl rfl rfl ?_
  refine lw_is (x := 87) (g := 96) (nx := 238) (tg := 0) rfl rfl rfl (lw_lim hr) (Nat.le_of_ble_eq_true rfl) (Nat.le_of_ble_eq_true rfl) rfl ?_
  refine lw_explore hB hr (fun Dq1 Yq1 S1 e hd1 hx1 hB1 hR1 hO1 he1 => ?_) (fun hd1 S1 hB1 hR1 => ?_) (fun Dq1 S1 hd1 hx1 hB1 hR1 => ?_) (fun Dq1 S1 hd1 hx1 hB1 hR1 => ?_)
  · skip
    have hb1 : S1.1 ≤ 5000 ∧ S1.2.1 ≤ 600000 := by
      have q1 := hR1.2.1
      have q2 := hR1.2.2.1
      omega
    have hr1 : hw_room pg_TT S1 := lw_rm hb1.1 hb1.2
    have hM1 := lw_m1 hM hR1 hb1.1
    show lw_W scr 1000 281 Q (238, [some (.ref mm_big), some (.ref 0), some (.ref 1654), some (.ref 3296), some (.int i), a, b], [.int 0], S1)
    refine lw_st (k := (240, [some (.ref mm_big), some (.ref 0), some (.ref 1654), some (.ref 3296), some (.int i), some (.int 0), b], [], S1)) (i := .istore 5) (nx := 240) (tg := 0) rfl rfl rfl rfl ?_
    refine lw_st (i := .aload_n 2) (nx := 241) (tg := 0) rfl rfl rfl rfl ?_
    refine lw_iv (x := 90) (g := 236) (nx := 244) (tg := 0) rfl rfl rfl rfl (lw_lim hr1) (Nat.le_of_ble_eq_true rfl) (Nat.le_of_ble_eq_true rfl) (lw_rk1 hM1) ?_
    refine lm_explore hM1 hr1 (fun q => by have e9 := hd1.symm.trans q; cases e9) (fun Dq2 Yq2 w S2 hd2 hx2 hw hM2 he2 => ?_) (fun Dq2 c2 w S2 hd2 hx2 => by have e9 := hd1.symm.trans hd2; injection e9 with e9; subst e9; have e8 := hx1.symm.trans hx2; cases e8)
    show lw_W scr 1000 281 Q (244, [some (.ref mm_big), some (.ref 0), some (.ref 1654), some (.ref 3296), some (.int i), some (.int 0), b], [.int w], S2)
    refine lw_st (k := (246, [some (.ref mm_big), some (.ref 0), some (.ref 1654), some (.ref 3296), some (.int i), some (.int 0), some (.int w)], [], S2)) (i := .istore 6) (nx := 246) (tg := 0) rfl rfl rfl rfl ?_
    have hd12 : Dq1 = Dq2 := by
      have e9 := hd1.symm.trans hd2
      injection e9
    subst hd12
    have hx12 : Yq1 = Yq2 := by
      have e9 := hx1.symm.trans hx2
      injection e9
    subst hx12
    refine lw_st (i := .goto 610) (nx := 249) (tg := 856) rfl rfl rfl rfl ?_
    exact hn _ _ S2 (lw_fi hB1 hR1 he2 hM2 hs1 hs2 hk)
  · skip
    have hb1 : S1.1 ≤ 5000 ∧ S1.2.1 ≤ 600000 := by
      have q1 := hR1.2.1
      have q2 := hR1.2.2.1
      omega
    have hr1 : hw_room pg_TT S1 := lw_rm hb1.1 hb1.2
    have hM1 := lw_m1 hM hR1 hb1.1
    show lw_W scr 1000 281 Q (238, [some (.ref mm_big), some (.ref 0), some (.ref 1654), some (.ref 3296), some (.int i), a, b], [.int 1], S1)
    refine lw_st (k := (240, [some (.ref mm_big), some (.ref 0), some (.ref 1654), some (.ref 3296), some (.int i), some (.int 1), b], [], S1)) (i := .istore 5) (nx := 240) (tg := 0) rfl rfl rfl rfl ?_
    refine lw_st (i := .aload_n 2) (nx := 241) (tg := 0) rfl rfl rfl rfl ?_
    refine lw_iv (x := 90) (g := 236) (nx := 244) (tg := 0) rfl rfl rfl rfl (lw_lim hr1) (Nat.le_of_ble_eq_true rfl) (Nat.le_of_ble_eq_true rfl) (lw_rk1 hM1) ?_
    refine lm_explore hM1 hr1 (fun _ w S2 hM2 he2 => ?_) (fun Dq2 Yq2 w S2 hd2 => by have e9 := hd1.symm.trans hd2; cases e9) (fun Dq2 c2 w S2 hd2 => by have e9 := hd1.symm.trans hd2; cases e9)
    show lw_W scr 1000 281 Q (244, [some (.ref mm_big), some (.ref 0), some (.ref 1654), some (.ref 3296), some (.int i), some (.int 1), b], [.int w], S2)
    refine lw_st (k := (246, [some (.ref mm_big), some (.ref 0), some (.ref 1654), some (.ref 3296), some (.int i), some (.int 1), some (.int w)], [], S2)) (i := .istore 6) (nx := 246) (tg := 0) rfl rfl rfl rfl ?_
    refine lw_st (i := .goto 610) (nx := 249) (tg := 856) rfl rfl rfl rfl ?_
    exact hn _ _ S2 (lw_fi hB1 hR1 he2 hM2 hs1 hs2 hk)
  · skip
    have hb1 : S1.1 ≤ 5000 ∧ S1.2.1 ≤ 600000 := by
      have q1 := hR1.2.1
      have q2 := hR1.2.2.1
      omega
    have hr1 : hw_room pg_TT S1 := lw_rm hb1.1 hb1.2
    have hM1 := lw_m1 hM hR1 hb1.1
    show lw_W scr 1000 281 Q (238, [some (.ref mm_big), some (.ref 0), some (.ref 1654), some (.ref 3296), some (.int i), a, b], [.int 2], S1)
    refine lw_st (k := (240, [some (.ref mm_big), some (.ref 0), some (.ref 1654), some (.ref 3296), some (.int i), some (.int 2), b], [], S1)) (i := .istore 5) (nx := 240) (tg := 0) rfl rfl rfl rfl ?_
    refine lw_st (i := .aload_n 2) (nx := 241) (tg := 0) rfl rfl rfl rfl ?_
    refine lw_iv (x := 90) (g := 236) (nx := 244) (tg := 0) rfl rfl rfl rfl (lw_lim hr1) (Nat.le_of_ble_eq_true rfl) (Nat.le_of_ble_eq_true rfl) (lw_rk1 hM1) ?_
    refine lm_explore hM1 hr1 (fun q => by have e9 := hd1.symm.trans q; cases e9) (fun Dq2 Yq2 w S2 hd2 hx2 => by have e9 := hd1.symm.trans hd2; injection e9 with e9; subst e9; have e8 := hx1.symm.trans hx2; cases e8) (fun Dq2 c2 w S2 hd2 hx2 hM2 he2 => ?_)
    show lw_W scr 1000 281 Q (244, [some (.ref mm_big), some (.ref 0), some (.ref 1654), some (.ref 3296), some (.int i), some (.int 2), b], [.int w], S2)
    refine lw_st (k := (246, [some (.ref mm_big), some (.ref 0), some (.ref 1654), some (.ref 3296), some (.int i), some (.int 2), some (.int w)], [], S2)) (i := .istore 6) (nx := 246) (tg := 0) rfl rfl rfl rfl ?_
    have hd12 : Dq1 = Dq2 := by
      have e9 := hd1.symm.trans hd2
      injection e9
    subst hd12
    have hx12 : (2 : Int) = c2 := by
      have e9 := hx1.symm.trans hx2
      injection e9
    subst hx12
    refine lw_st (i := .goto 610) (nx := 249) (tg := 856) rfl rfl rfl rfl ?_
    exact hn _ _ S2 (lw_fi hB1 hR1 he2 hM2 hs1 hs2 hk)
  · skip
    have hb1 : S1.1 ≤ 5000 ∧ S1.2.1 ≤ 600000 := by
      have q1 := hR1.2.1
      have q2 := hR1.2.2.1
      omega
    have hr1 : hw_room pg_TT S1 := lw_rm hb1.1 hb1.2
    have hM1 := lw_m1 hM hR1 hb1.1
    show lw_W scr 1000 281 Q (238, [some (.ref mm_big), some (.ref 0), some (.ref 1654), some (.ref 3296), some (.int i), a, b], [.int 3], S1)
    refine lw_st (k := (240, [some (.ref mm_big), some (.ref 0), some (.ref 1654), some (.ref 3296), some (.int i), some (.int 3), b], [], S1)) (i := .istore 5) (nx := 240) (tg := 0) rfl rfl rfl rfl ?_
    refine lw_st (i := .aload_n 2) (nx := 241) (tg := 0) rfl rfl rfl rfl ?_
    refine lw_iv (x := 90) (g := 236) (nx := 244) (tg := 0) rfl rfl rfl rfl (lw_lim hr1) (Nat.le_of_ble_eq_true rfl) (Nat.le_of_ble_eq_true rfl) (lw_rk1 hM1) ?_
    refine lm_explore hM1 hr1 (fun q => by have e9 := hd1.symm.trans q; cases e9) (fun Dq2 Yq2 w S2 hd2 hx2 => by have e9 := hd1.symm.trans hd2; injection e9 with e9; subst e9; have e8 := hx1.symm.trans hx2; cases e8) (fun Dq2 c2 w S2 hd2 hx2 hM2 he2 => ?_)
    show lw_W scr 1000 281 Q (244, [some (.ref mm_big), some (.ref 0), some (.ref 1654), some (.ref 3296), some (.int i), some (.int 3), b], [.int w], S2)
    refine lw_st (k := (246, [some (.ref mm_big), some (.ref 0), some (.ref 1654), some (.ref 3296), some (.int i), some (.int 3), some (.int w)], [], S2)) (i := .istore 6) (nx := 246) (tg := 0) rfl rfl rfl rfl ?_
    have hd12 : Dq1 = Dq2 := by
      have e9 := hd1.symm.trans hd2
      injection e9
    subst hd12
    have hx12 : (3 : Int) = c2 := by
      have e9 := hx1.symm.trans hx2
      injection e9
    subst hx12
    refine lw_st (i := .goto 610) (nx := 249) (tg := 856) rfl rfl rfl rfl ?_
    exact hn _ _ S2 (lw_fi hB1 hR1 he2 hM2 hs1 hs2 hk)
theorem lk_state {scr : Nat × (Nat → Int32)} {k : Nat} {i : Int32} {a b : Option Value} {S : mm_S} {Q : mm_O → mm_S → Prop} (hj : lw_J k S) (hk : k ≤ 511) (hi : i.toInt = 6 * (k : Int)) (hl : 6 * k + 6 ≤ scr.1) (hn : ∀ a b S', lw_J (k + 1) S' → lw_W scr 1000 281 Q (856, [some (.ref mm_big), some (.ref 0), some (.ref 1654), some (.ref 3296), some (.int i), a, b], [], S')) : lw_W scr 1000 281 Q (249, [some (.ref mm_big), some (.ref 0), some (.ref 1654), some (.ref 3296), some (.int i), a, b], [], S) := by
  obtain ⟨f, er, g, Do, Yo, hB, hM, hs1, hs2⟩ := hj
  have hr : hw_room pg_TT S := lw_rm (by omega) (by omega)
  refine lw_st (i := .aload_n 1) (nx := 250) (tg := 0) rfl rfl rfl rfl ?_
  refine lw_st (i := .aload_n 0) (nx := 251) (tg := 0) rfl rfl rfl rfl ?_
  refine lw_st (i := .iload 4) (nx := 253) (tg := 0) rfl rfl rfl rfl ?_
  refine lw_st (i := .iconst 1) (nx := 254) (tg := 0) rfl rfl rfl rfl ?_
  refine lw_st (i := .iadd) (nx := 255) (tg := 0) rfl rfl rfl rfl ?_
  refine lw_ia (nx := 256) (tg := 0) rfl rfl (lw_ix hi hk hl (by decide) (by decide)) ?_
  refine lw_st (i := .aload_n 0) (nx := 257) (tg := 0) rfl rfl rfl rfl ?_
  refine lw_st (i := .iload 4) (nx := 259) (tg := 0) rfl rfl rfl rfl ?_
  refine lw_st (i := .iconst 2) (nx := 260) (tg := 0) rfl rfl rfl rfl ?_
  refine lw_st (i := .iadd) (nx := 261) (tg := 0) rfl rfl rfl rfl ?_
  refine lw_ia (nx := 262) (tg := 0) rfl rfl (lw_ix hi hk hl (by decide) (by decide)) ?_
  refine lw_st (i := .aload_n 0) (nx := 263) (tg := 0) rfl rfl rfl rfl ?_
  refine lw_st (i := .iload 4) (nx := 265) (tg := 0) rfl rfl rfl rfl ?_
  refine lw_st (i := .iconst 3) (nx := 266) (tg := 0) rfl rfl rfl rfl ?_
  refine lw_st (i := .iadd) (nx := 267) (tg := 0) rfl rfl rfl rfl ?_
  refine lw_ia (nx := 268) (tg := 0) rfl rfl (lw_ix hi hk hl (by decide) (by decide)) ?_
  refine lw_st (i := .aload_n 3) (nx := 269) (tg := 0) rfl rfl rfl rfl ?_
  refine lw_is (x := 91) (g := 112) (nx := 272) (tg := 0) rfl rfl rfl (lw_lim hr) (Nat.le_of_ble_eq_true rfl) (Nat.le_of_ble_eq_true rfl) rfl ?_
  refine lw_state hB hr (fun v S1 hB1 hR1 => ?_)
  have hb1 : S1.1 ≤ 5000 ∧ S1.2.1 ≤ 600000 := by
    have q1 := hR1.2.1
    have q2 := hR1.2.2.1
    omega
  have hr1 : hw_room pg_TT S1 := lw_rm hb1.1 hb1.2
  have hM1 := lw_m1 hM hR1 hb1.1
  show lw_W scr 1000 281 Q (272, [some (.ref mm_big), some (.ref 0), some (.ref 1654), some (.ref 3296), some (.int i), a, b], [.int v], S1)
  refine lw_st (k := (274, [some (.ref mm_big), some (.ref 0), some (.ref 1654), some (.ref 3296), some (.int i), some (.int v), b], [], S1)) (i := .istore 5) (nx := 274) (tg := 0) rfl rfl rfl rfl ?_
  refine lw_st (i := .aload_n 2) (nx := 275) (tg := 0) rfl rfl rfl rfl ?_
  refine lw_st (i := .aload_n 0) (nx := 276) (tg := 0) rfl rfl rfl rfl ?_
  refine lw_st (i := .iload 4) (nx := 278) (tg := 0) rfl rfl rfl rfl ?_
  refine lw_st (i := .iconst 1) (nx := 279) (tg := 0) rfl rfl rfl rfl ?_
  refine lw_st (i := .iadd) (nx := 280) (tg := 0) rfl rfl rfl rfl ?_
  refine lw_ia (nx := 281) (tg := 0) rfl rfl (lw_ix hi hk hl (by decide) (by decide)) ?_
  refine lw_st (i := .aload_n 0) (nx := 282) (tg := 0) rfl rfl rfl rfl ?_
  refine lw_st (i := .iload 4) (nx := 284) (tg := 0) rfl rfl rfl rfl ?_
  refine lw_st (i := .iconst 2) (nx := 285) (tg := 0) rfl rfl rfl rfl ?_
  refine lw_st (i := .iadd) (nx := 286) (tg := 0) rfl rfl rfl rfl ?_
  refine lw_ia (nx := 287) (tg := 0) rfl rfl (lw_ix hi hk hl (by decide) (by decide)) ?_
  refine lw_st (i := .aload_n 0) (nx := 288) (tg := 0) rfl rfl rfl rfl ?_
  refine lw_st (i := .iload 4) (nx := 290) (tg := 0) rfl rfl rfl rfl ?_
  refine lw_st (i := .iconst 3) (nx := 291) (tg := 0) rfl rfl rfl rfl ?_
  refine lw_st (i := .iadd) (nx := 292) (tg := 0) rfl rfl rfl rfl ?_
  refine lw_ia (nx := 293) (tg := 0) rfl rfl (lw_ix hi hk hl (by decide) (by decide)) ?_
  refine lw_iv (x := 94) (g := 274) (nx := 296) (tg := 0) rfl rfl rfl rfl (lw_lim hr1) (Nat.le_of_ble_eq_true rfl) (Nat.le_of_ble_eq_true rfl) (lw_rk1 hM1) ?_
  refine lm_state hM1 hr1 (fun w e2 S2 hM2 he2 => ?_)
  show lw_W scr 1000 281 Q (296, [some (.ref mm_big), some (.ref 0), some (.ref 1654), some (.ref 3296), some (.int i), some (.int v), b], [.int w], S2)
  refine lw_st (k := (298, [some (.ref mm_big), some (.ref 0), some (.ref 1654), some (.ref 3296), some (.int i), some (.int v), some (.int w)], [], S2)) (i := .istore 6) (nx := 298) (tg := 0) rfl rfl rfl rfl ?_
  refine lw_st (i := .goto 558) (nx := 301) (tg := 856) rfl rfl rfl rfl ?_
  exact hn _ _ S2 (lw_fi hB1 hR1 he2 hM2 hs1 hs2 hk)
theorem lk_outcome {scr : Nat × (Nat → Int32)} {k : Nat} {i : Int32} {a b : Option Value} {S : mm_S} {Q : mm_O → mm_S → Prop} (hj : lw_J k S) (hk : k ≤ 511) (hi : i.toInt = 6 * (k : Int)) (hl : 6 * k + 6 ≤ scr.1) (hn : ∀ a b S', lw_J (k + 1) S' → lw_W scr 1000 281 Q (856, [some (.ref mm_big), some (.ref 0), some (.ref 1654), some (.ref 3296), some (.int i), a, b], [], S')) : lw_W scr 1000 281 Q (301, [some (.ref mm_big), some (.ref 0), some (.ref 1654), some (.ref 3296), some (.int i), a, b], [], S) := by
  obtain ⟨f, er, g, Do, Yo, hB, hM, hs1, hs2⟩ := hj
  have hr : hw_room pg_TT S := lw_rm (by omega) (by omega)
  refine lw_st (i := .aload_n 1) (nx := 302) (tg := 0) rfl rfl rfl rfl ?_
  refine lw_st (i := .aload_n 0) (nx := 303) (tg := 0) rfl rfl rfl rfl ?_
  refine lw_st (i := .iload 4) (nx := 305) (tg := 0) rfl rfl rfl rfl ?_
  refine lw_st (i := .iconst 1) (nx := 306) (tg := 0) rfl rfl rfl rfl ?_
  refine lw_st (i := .iadd) (nx := 307) (tg := 0) rfl rfl rfl rfl ?_
  refine lw_ia (nx := 308) (tg := 0) rfl rfl (lw_ix hi hk hl (by decide) (by decide)) ?_
  refine lw_st (i := .aload_n 0) (nx := 309) (tg := 0) rfl rfl rfl rfl ?_
  refine lw_st (i := .iload 4) (nx := 311) (tg := 0) rfl rfl rfl rfl ?_
  refine lw_st (i := .iconst 2) (nx := 312) (tg := 0) rfl rfl rfl rfl ?_
  refine lw_st (i := .iadd) (nx := 313) (tg := 0) rfl rfl rfl rfl ?_
  refine lw_ia (nx := 314) (tg := 0) rfl rfl (lw_ix hi hk hl (by decide) (by decide)) ?_
  refine lw_st (i := .aload_n 0) (nx := 315) (tg := 0) rfl rfl rfl rfl ?_
  refine lw_st (i := .iload 4) (nx := 317) (tg := 0) rfl rfl rfl rfl ?_
  refine lw_st (i := .iconst 3) (nx := 318) (tg := 0) rfl rfl rfl rfl ?_
  refine lw_st (i := .iadd) (nx := 319) (tg := 0) rfl rfl rfl rfl ?_
  refine lw_ia (nx := 320) (tg := 0) rfl rfl (lw_ix hi hk hl (by decide) (by decide)) ?_
  refine lw_st (i := .aload_n 3) (nx := 321) (tg := 0) rfl rfl rfl rfl ?_
  refine lw_is (x := 95) (g := 118) (nx := 324) (tg := 0) rfl rfl rfl (lw_lim hr) (Nat.le_of_ble_eq_true rfl) (Nat.le_of_ble_eq_true rfl) rfl ?_
  refine lw_outcomeF hB hr (fun Y1 hy1 ho1 S1 e hB1 hR1 hO1 he1 => ?_) (fun hy1 S1 hB1 hR1 => ?_) (fun Y1 hy1 ho1 S1 hB1 hR1 => ?_)
  · skip
    have hb1 := lw_hb hR1 hs1 hs2 hk
    have hr1 : hw_room pg_TT S1 := lw_rm hb1.1 hb1.2
    have hM1 := lw_m1 hM hR1 hb1.1
    show lw_W scr 1000 281 Q (324, [some (.ref mm_big), some (.ref 0), some (.ref 1654), some (.ref 3296), some (.int i), a, b], [.int 0], S1)
    refine lw_st (k := (326, [some (.ref mm_big), some (.ref 0), some (.ref 1654), some (.ref 3296), some (.int i), some (.int 0), b], [], S1)) (i := .istore 5) (nx := 326) (tg := 0) rfl rfl rfl rfl ?_
    refine lw_st (i := .aload_n 2) (nx := 327) (tg := 0) rfl rfl rfl rfl ?_
    refine lw_st (i := .aload_n 0) (nx := 328) (tg := 0) rfl rfl rfl rfl ?_
    refine lw_st (i := .iload 4) (nx := 330) (tg := 0) rfl rfl rfl rfl ?_
    refine lw_st (i := .iconst 1) (nx := 331) (tg := 0) rfl rfl rfl rfl ?_
    refine lw_st (i := .iadd) (nx := 332) (tg := 0) rfl rfl rfl rfl ?_
    refine lw_ia (nx := 333) (tg := 0) rfl rfl (lw_ix hi hk hl (by decide) (by decide)) ?_
    refine lw_st (i := .aload_n 0) (nx := 334) (tg := 0) rfl rfl rfl rfl ?_
    refine lw_st (i := .iload 4) (nx := 336) (tg := 0) rfl rfl rfl rfl ?_
    refine lw_st (i := .iconst 2) (nx := 337) (tg := 0) rfl rfl rfl rfl ?_
    refine lw_st (i := .iadd) (nx := 338) (tg := 0) rfl rfl rfl rfl ?_
    refine lw_ia (nx := 339) (tg := 0) rfl rfl (lw_ix hi hk hl (by decide) (by decide)) ?_
    refine lw_st (i := .aload_n 0) (nx := 340) (tg := 0) rfl rfl rfl rfl ?_
    refine lw_st (i := .iload 4) (nx := 342) (tg := 0) rfl rfl rfl rfl ?_
    refine lw_st (i := .iconst 3) (nx := 343) (tg := 0) rfl rfl rfl rfl ?_
    refine lw_st (i := .iadd) (nx := 344) (tg := 0) rfl rfl rfl rfl ?_
    refine lw_ia (nx := 345) (tg := 0) rfl rfl (lw_ix hi hk hl (by decide) (by decide)) ?_
    refine lw_iv (x := 97) (g := 275) (nx := 348) (tg := 0) rfl rfl rfl rfl (lw_lim hr1) (Nat.le_of_ble_eq_true rfl) (Nat.le_of_ble_eq_true rfl) (lw_rk1 hM1) ?_
    refine lm_outcomeF hM1 hr1 (fun Y2 hy2 ho2 w S2 hw hM2 he2 => ?_) (fun q => by have e9 := hy1.symm.trans q; cases e9) (fun Y2 hy2 ho2 => by have e9 := hy1.symm.trans hy2; injection e9 with e9; subst e9; exact absurd ho1 ho2)
    show lw_W scr 1000 281 Q (348, [some (.ref mm_big), some (.ref 0), some (.ref 1654), some (.ref 3296), some (.int i), some (.int 0), b], [.int w], S2)
    refine lw_st (k := (350, [some (.ref mm_big), some (.ref 0), some (.ref 1654), some (.ref 3296), some (.int i), some (.int 0), some (.int w)], [], S2)) (i := .istore 6) (nx := 350) (tg := 0) rfl rfl rfl rfl ?_
    have hy12 : Y1 = Y2 := by
      have e9 := hy1.symm.trans hy2
      injection e9
    subst hy12
    have hb2 := lw_hb2 he2 hb1
    have hr2 : hw_room pg_TT S2 := lw_rm hb2.1 hb2.2
    refine lw_st (i := .aload_n 2) (nx := 351) (tg := 0) rfl rfl rfl rfl ?_
    refine lw_iv (x := 98) (g := 186) (nx := 354) (tg := 0) rfl rfl rfl rfl (lw_lim hr2) (Nat.le_of_ble_eq_true rfl) (Nat.le_of_ble_eq_true rfl) (lw_rk1 hM2) ?_
    refine lm_thrown hM2 hr2 (fun t S3 ht hM3 he3 => ?_)
    show lw_W scr 1000 281 Q (354, [some (.ref mm_big), some (.ref 0), some (.ref 1654), some (.ref 3296), some (.int i), some (.int 0), some (.int w)], [.int t], S3)
    have e13 : hw_el w4_T S1 S3 := hw_el_tr he2 he3
    have ht2 : t = 0 := lw_eq (ht.trans (by decide))
    subst ht2
    refine lw_st (i := .iload 5) (nx := 356) (tg := 0) rfl rfl rfl rfl ?_
    refine lw_if2 (nx := 359) (tg := 361) rfl rfl (fun _ => ?_) (fun q => (q rfl).elim)
    refine lw_st (i := .iload 5) (nx := 363) (tg := 0) rfl rfl rfl rfl ?_
    refine lw_if (nx := 366) (tg := 378) rfl rfl (fun q => absurd q (by decide)) (fun _ => ?_)
    refine lw_st (i := .aload_n 3) (nx := 367) (tg := 0) rfl rfl rfl rfl ?_
    refine lw_st (i := .iconst 0) (nx := 368) (tg := 0) rfl rfl rfl rfl ?_
    refine lw_ja (nx := 369) (tg := 0) ((e13.2.2 3296 (w4_no (by omega))).trans hO1) (by have := e13.1; have := hB1.2.2; omega) rfl rfl ?_
    refine lw_st (i := .iload 6) (nx := 371) (tg := 0) rfl rfl rfl rfl ?_
    refine lw_st (i := .i2l) (nx := 372) (tg := 0) rfl rfl rfl rfl ?_
    refine lw_st (i := .lcmp) (nx := 373) (tg := 0) rfl rfl rfl rfl ?_
    refine lw_if (nx := 376) (tg := 378) rfl rfl (fun _ => ?_) (fun q => absurd (show mm_icmp .eq (lg_cmp (e 0) w.toInt64) 0 = true by rw [lw_lc (he1.trans (hw.symm.trans (Int32.toInt_toInt64 w).symm))]; rfl) q)
    refine lw_st (i := .goto 478) (nx := 381) (tg := 856) rfl rfl rfl rfl ?_
    exact hn _ _ S3 (lw_fi hB1 hR1 e13 hM3 hs1 hs2 hk)
  · skip
    have hb1 := lw_hb hR1 hs1 hs2 hk
    have hr1 : hw_room pg_TT S1 := lw_rm hb1.1 hb1.2
    have hM1 := lw_m1 hM hR1 hb1.1
    show lw_W scr 1000 281 Q (324, [some (.ref mm_big), some (.ref 0), some (.ref 1654), some (.ref 3296), some (.int i), a, b], [.int 1], S1)
    refine lw_st (k := (326, [some (.ref mm_big), some (.ref 0), some (.ref 1654), some (.ref 3296), some (.int i), some (.int 1), b], [], S1)) (i := .istore 5) (nx := 326) (tg := 0) rfl rfl rfl rfl ?_
    refine lw_st (i := .aload_n 2) (nx := 327) (tg := 0) rfl rfl rfl rfl ?_
    refine lw_st (i := .aload_n 0) (nx := 328) (tg := 0) rfl rfl rfl rfl ?_
    refine lw_st (i := .iload 4) (nx := 330) (tg := 0) rfl rfl rfl rfl ?_
    refine lw_st (i := .iconst 1) (nx := 331) (tg := 0) rfl rfl rfl rfl ?_
    refine lw_st (i := .iadd) (nx := 332) (tg := 0) rfl rfl rfl rfl ?_
    refine lw_ia (nx := 333) (tg := 0) rfl rfl (lw_ix hi hk hl (by decide) (by decide)) ?_
    refine lw_st (i := .aload_n 0) (nx := 334) (tg := 0) rfl rfl rfl rfl ?_
    refine lw_st (i := .iload 4) (nx := 336) (tg := 0) rfl rfl rfl rfl ?_
    refine lw_st (i := .iconst 2) (nx := 337) (tg := 0) rfl rfl rfl rfl ?_
    refine lw_st (i := .iadd) (nx := 338) (tg := 0) rfl rfl rfl rfl ?_
    refine lw_ia (nx := 339) (tg := 0) rfl rfl (lw_ix hi hk hl (by decide) (by decide)) ?_
    refine lw_st (i := .aload_n 0) (nx := 340) (tg := 0) rfl rfl rfl rfl ?_
    refine lw_st (i := .iload 4) (nx := 342) (tg := 0) rfl rfl rfl rfl ?_
    refine lw_st (i := .iconst 3) (nx := 343) (tg := 0) rfl rfl rfl rfl ?_
    refine lw_st (i := .iadd) (nx := 344) (tg := 0) rfl rfl rfl rfl ?_
    refine lw_ia (nx := 345) (tg := 0) rfl rfl (lw_ix hi hk hl (by decide) (by decide)) ?_
    refine lw_iv (x := 97) (g := 275) (nx := 348) (tg := 0) rfl rfl rfl rfl (lw_lim hr1) (Nat.le_of_ble_eq_true rfl) (Nat.le_of_ble_eq_true rfl) (lw_rk1 hM1) ?_
    refine lm_outcomeF hM1 hr1 (fun Y2 hy2 => by have e9 := hy1.symm.trans hy2; cases e9) (fun _ w S2 hM2 he2 => ?_) (fun Y2 hy2 => by have e9 := hy1.symm.trans hy2; cases e9)
    show lw_W scr 1000 281 Q (348, [some (.ref mm_big), some (.ref 0), some (.ref 1654), some (.ref 3296), some (.int i), some (.int 1), b], [.int w], S2)
    refine lw_st (k := (350, [some (.ref mm_big), some (.ref 0), some (.ref 1654), some (.ref 3296), some (.int i), some (.int 1), some (.int w)], [], S2)) (i := .istore 6) (nx := 350) (tg := 0) rfl rfl rfl rfl ?_
    have hb2 := lw_hb2 he2 hb1
    have hr2 : hw_room pg_TT S2 := lw_rm hb2.1 hb2.2
    refine lw_st (i := .aload_n 2) (nx := 351) (tg := 0) rfl rfl rfl rfl ?_
    refine lw_iv (x := 98) (g := 186) (nx := 354) (tg := 0) rfl rfl rfl rfl (lw_lim hr2) (Nat.le_of_ble_eq_true rfl) (Nat.le_of_ble_eq_true rfl) (lw_rk1 hM2) ?_
    refine lm_thrown hM2 hr2 (fun t S3 ht hM3 he3 => ?_)
    show lw_W scr 1000 281 Q (354, [some (.ref mm_big), some (.ref 0), some (.ref 1654), some (.ref 3296), some (.int i), some (.int 1), some (.int w)], [.int t], S3)
    have e13 : hw_el w4_T S1 S3 := hw_el_tr he2 he3
    have ht2 : t = 1 := lw_eq (ht.trans (by decide))
    subst ht2
    refine lw_st (i := .iload 5) (nx := 356) (tg := 0) rfl rfl rfl rfl ?_
    refine lw_if2 (nx := 359) (tg := 361) rfl rfl (fun _ => ?_) (fun q => (q rfl).elim)
    refine lw_st (i := .iload 5) (nx := 363) (tg := 0) rfl rfl rfl rfl ?_
    refine lw_if (nx := 366) (tg := 378) rfl rfl (fun _ => ?_) (fun q => (q (by decide)).elim)
    refine lw_st (i := .goto 478) (nx := 381) (tg := 856) rfl rfl rfl rfl ?_
    exact hn _ _ S3 (lw_fi hB1 hR1 e13 hM3 hs1 hs2 hk)
  · skip
    have hb1 := lw_hb hR1 hs1 hs2 hk
    have hr1 : hw_room pg_TT S1 := lw_rm hb1.1 hb1.2
    have hM1 := lw_m1 hM hR1 hb1.1
    show lw_W scr 1000 281 Q (324, [some (.ref mm_big), some (.ref 0), some (.ref 1654), some (.ref 3296), some (.int i), a, b], [.int 2], S1)
    refine lw_st (k := (326, [some (.ref mm_big), some (.ref 0), some (.ref 1654), some (.ref 3296), some (.int i), some (.int 2), b], [], S1)) (i := .istore 5) (nx := 326) (tg := 0) rfl rfl rfl rfl ?_
    refine lw_st (i := .aload_n 2) (nx := 327) (tg := 0) rfl rfl rfl rfl ?_
    refine lw_st (i := .aload_n 0) (nx := 328) (tg := 0) rfl rfl rfl rfl ?_
    refine lw_st (i := .iload 4) (nx := 330) (tg := 0) rfl rfl rfl rfl ?_
    refine lw_st (i := .iconst 1) (nx := 331) (tg := 0) rfl rfl rfl rfl ?_
    refine lw_st (i := .iadd) (nx := 332) (tg := 0) rfl rfl rfl rfl ?_
    refine lw_ia (nx := 333) (tg := 0) rfl rfl (lw_ix hi hk hl (by decide) (by decide)) ?_
    refine lw_st (i := .aload_n 0) (nx := 334) (tg := 0) rfl rfl rfl rfl ?_
    refine lw_st (i := .iload 4) (nx := 336) (tg := 0) rfl rfl rfl rfl ?_
    refine lw_st (i := .iconst 2) (nx := 337) (tg := 0) rfl rfl rfl rfl ?_
    refine lw_st (i := .iadd) (nx := 338) (tg := 0) rfl rfl rfl rfl ?_
    refine lw_ia (nx := 339) (tg := 0) rfl rfl (lw_ix hi hk hl (by decide) (by decide)) ?_
    refine lw_st (i := .aload_n 0) (nx := 340) (tg := 0) rfl rfl rfl rfl ?_
    refine lw_st (i := .iload 4) (nx := 342) (tg := 0) rfl rfl rfl rfl ?_
    refine lw_st (i := .iconst 3) (nx := 343) (tg := 0) rfl rfl rfl rfl ?_
    refine lw_st (i := .iadd) (nx := 344) (tg := 0) rfl rfl rfl rfl ?_
    refine lw_ia (nx := 345) (tg := 0) rfl rfl (lw_ix hi hk hl (by decide) (by decide)) ?_
    refine lw_iv (x := 97) (g := 275) (nx := 348) (tg := 0) rfl rfl rfl rfl (lw_lim hr1) (Nat.le_of_ble_eq_true rfl) (Nat.le_of_ble_eq_true rfl) (lw_rk1 hM1) ?_
    refine lm_outcomeF hM1 hr1 (fun Y2 hy2 ho2 => by have e9 := hy1.symm.trans hy2; injection e9 with e9; subst e9; exact absurd ho2 ho1) (fun q => by have e9 := hy1.symm.trans q; cases e9) (fun Y2 hy2 ho2 w S2 hM2 he2 => ?_)
    show lw_W scr 1000 281 Q (348, [some (.ref mm_big), some (.ref 0), some (.ref 1654), some (.ref 3296), some (.int i), some (.int 2), b], [.int w], S2)
    refine lw_st (k := (350, [some (.ref mm_big), some (.ref 0), some (.ref 1654), some (.ref 3296), some (.int i), some (.int 2), some (.int w)], [], S2)) (i := .istore 6) (nx := 350) (tg := 0) rfl rfl rfl rfl ?_
    have hb2 := lw_hb2 he2 hb1
    have hr2 : hw_room pg_TT S2 := lw_rm hb2.1 hb2.2
    refine lw_st (i := .aload_n 2) (nx := 351) (tg := 0) rfl rfl rfl rfl ?_
    refine lw_iv (x := 98) (g := 186) (nx := 354) (tg := 0) rfl rfl rfl rfl (lw_lim hr2) (Nat.le_of_ble_eq_true rfl) (Nat.le_of_ble_eq_true rfl) (lw_rk1 hM2) ?_
    refine lm_thrown hM2 hr2 (fun t S3 ht hM3 he3 => ?_)
    show lw_W scr 1000 281 Q (354, [some (.ref mm_big), some (.ref 0), some (.ref 1654), some (.ref 3296), some (.int i), some (.int 2), some (.int w)], [.int t], S3)
    have e13 : hw_el w4_T S1 S3 := hw_el_tr he2 he3
    have ht2 : t = 2 := lw_eq (ht.trans (by decide))
    subst ht2
    refine lw_st (i := .iload 5) (nx := 356) (tg := 0) rfl rfl rfl rfl ?_
    refine lw_if2 (nx := 359) (tg := 361) rfl rfl (fun _ => ?_) (fun q => (q rfl).elim)
    refine lw_st (i := .iload 5) (nx := 363) (tg := 0) rfl rfl rfl rfl ?_
    refine lw_if (nx := 366) (tg := 378) rfl rfl (fun _ => ?_) (fun q => (q (by decide)).elim)
    refine lw_st (i := .goto 478) (nx := 381) (tg := 856) rfl rfl rfl rfl ?_
    exact hn _ _ S3 (lw_fi hB1 hR1 e13 hM3 hs1 hs2 hk)
theorem lk_solve {scr : Nat × (Nat → Int32)} {k : Nat} {i : Int32} {a b : Option Value} {S : mm_S} {Q : mm_O → mm_S → Prop} (hj : lw_J k S) (hk : k ≤ 511) (hi : i.toInt = 6 * (k : Int)) (hl : 6 * k + 6 ≤ scr.1) (hn : ∀ a b S', lw_J (k + 1) S' → lw_W scr 1000 281 Q (856, [some (.ref mm_big), some (.ref 0), some (.ref 1654), some (.ref 3296), some (.int i), a, b], [], S')) : lw_W scr 1000 281 Q (381, [some (.ref mm_big), some (.ref 0), some (.ref 1654), some (.ref 3296), some (.int i), a, b], [], S) := by
  obtain ⟨f, er, g, Do, Yo, hB, hM, hs1, hs2⟩ := hj
  have hr : hw_room pg_TT S := lw_rm (by omega) (by omega)
  refine lw_st (i := .aload_n 1) (nx := 382) (tg := 0) rfl rfl rfl rfl ?_
  refine lw_st (i := .aload_n 0) (nx := 383) (tg := 0) rfl rfl rfl rfl ?_
  refine lw_st (i := .iload 4) (nx := 385) (tg := 0) rfl rfl rfl rfl ?_
  refine lw_st (i := .iconst 1) (nx := 386) (tg := 0) rfl rfl rfl rfl ?_
  refine lw_st (i := .iadd) (nx := 387) (tg := 0) rfl rfl rfl rfl ?_
  refine lw_ia (nx := 388) (tg := 0) rfl rfl (lw_ix hi hk hl (by decide) (by decide)) ?_
  refine lw_bl (p1 := 391) (p2 := 392) (p3 := 395) (p4 := 396) rfl rfl rfl rfl rfl rfl rfl rfl (fun t => ?_)
  refine lw_st (i := .aload_n 3) (nx := 397) (tg := 0) rfl rfl rfl rfl ?_
  refine lw_is (x := 101) (g := 137) (nx := 400) (tg := 0) rfl rfl rfl (lw_lim hr) (Nat.le_of_ble_eq_true rfl) (Nat.le_of_ble_eq_true rfl) rfl ?_
  refine lw_solve hB hr (fun v S1 hB1 hR1 => ?_)
  have hb1 : S1.1 ≤ 5000 ∧ S1.2.1 ≤ 600000 := by
    have q1 := hR1.2.1
    have q2 := hR1.2.2.1
    omega
  have hr1 : hw_room pg_TT S1 := lw_rm hb1.1 hb1.2
  have hM1 := lw_m1 hM hR1 hb1.1
  show lw_W scr 1000 281 Q (400, [some (.ref mm_big), some (.ref 0), some (.ref 1654), some (.ref 3296), some (.int i), a, b], [.int v], S1)
  refine lw_st (k := (402, [some (.ref mm_big), some (.ref 0), some (.ref 1654), some (.ref 3296), some (.int i), some (.int v), b], [], S1)) (i := .istore 5) (nx := 402) (tg := 0) rfl rfl rfl rfl ?_
  refine lw_st (i := .aload_n 2) (nx := 403) (tg := 0) rfl rfl rfl rfl ?_
  refine lw_st (i := .aload_n 0) (nx := 404) (tg := 0) rfl rfl rfl rfl ?_
  refine lw_st (i := .iload 4) (nx := 406) (tg := 0) rfl rfl rfl rfl ?_
  refine lw_st (i := .iconst 1) (nx := 407) (tg := 0) rfl rfl rfl rfl ?_
  refine lw_st (i := .iadd) (nx := 408) (tg := 0) rfl rfl rfl rfl ?_
  refine lw_ia (nx := 409) (tg := 0) rfl rfl (lw_ix hi hk hl (by decide) (by decide)) ?_
  refine lw_bl (p1 := 412) (p2 := 413) (p3 := 416) (p4 := 417) rfl rfl rfl rfl rfl rfl rfl rfl (fun t => ?_)
  refine lw_iv (x := 104) (g := 257) (nx := 420) (tg := 0) rfl rfl rfl rfl (lw_lim hr1) (Nat.le_of_ble_eq_true rfl) (Nat.le_of_ble_eq_true rfl) (lw_rk1 hM1) ?_
  refine lm_solve hM1 hr1 (fun w e2 S2 hM2 he2 => ?_)
  show lw_W scr 1000 281 Q (420, [some (.ref mm_big), some (.ref 0), some (.ref 1654), some (.ref 3296), some (.int i), some (.int v), b], [.int w], S2)
  refine lw_st (k := (422, [some (.ref mm_big), some (.ref 0), some (.ref 1654), some (.ref 3296), some (.int i), some (.int v), some (.int w)], [], S2)) (i := .istore 6) (nx := 422) (tg := 0) rfl rfl rfl rfl ?_
  refine lw_st (i := .goto 434) (nx := 425) (tg := 856) rfl rfl rfl rfl ?_
  exact hn _ _ S2 (lw_fi hB1 hR1 he2 hM2 hs1 hs2 hk)
theorem lk_value {scr : Nat × (Nat → Int32)} {k : Nat} {i : Int32} {a b : Option Value} {S : mm_S} {Q : mm_O → mm_S → Prop} (hj : lw_J k S) (hk : k ≤ 511) (hi : i.toInt = 6 * (k : Int)) (hl : 6 * k + 6 ≤ scr.1) (hn : ∀ a b S', lw_J (k + 1) S' → lw_W scr 1000 281 Q (856, [some (.ref mm_big), some (.ref 0), some (.ref 1654), some (.ref 3296), some (.int i), a, b], [], S')) : lw_W scr 1000 281 Q (425, [some (.ref mm_big), some (.ref 0), some (.ref 1654), some (.ref 3296), some (.int i), a, b], [], S) := by
  obtain ⟨f, er, g, Do, Yo, hB, hM, hs1, hs2⟩ := hj
  have hr : hw_room pg_TT S := lw_rm (by omega) (by omega)
  refine lw_st (i := .aload_n 1) (nx := 426) (tg := 0) rfl rfl rfl rfl ?_
  refine lw_st (i := .aload_n 0) (nx := 427) (tg := 0) rfl rfl rfl rfl ?_
  refine lw_st (i := .iload 4) (nx := 429) (tg := 0) rfl rfl rfl rfl ?_
  refine lw_st (i := .iconst 1) (nx := 430) (tg := 0) rfl rfl rfl rfl ?_
  refine lw_st (i := .iadd) (nx := 431) (tg := 0) rfl rfl rfl rfl ?_
  refine lw_ia (nx := 432) (tg := 0) rfl rfl (lw_ix hi hk hl (by decide) (by decide)) ?_
  refine lw_bl (p1 := 435) (p2 := 436) (p3 := 439) (p4 := 440) rfl rfl rfl rfl rfl rfl rfl rfl (fun t => ?_)
  refine lw_st (i := .aload_n 0) (nx := 441) (tg := 0) rfl rfl rfl rfl ?_
  refine lw_st (i := .iload 4) (nx := 443) (tg := 0) rfl rfl rfl rfl ?_
  refine lw_st (i := .iconst 2) (nx := 444) (tg := 0) rfl rfl rfl rfl ?_
  refine lw_st (i := .iadd) (nx := 445) (tg := 0) rfl rfl rfl rfl ?_
  refine lw_ia (nx := 446) (tg := 0) rfl rfl (lw_ix hi hk hl (by decide) (by decide)) ?_
  refine lw_st (i := .aload_n 3) (nx := 447) (tg := 0) rfl rfl rfl rfl ?_
  refine lw_is (x := 105) (g := 160) (nx := 450) (tg := 0) rfl rfl rfl (lw_lim hr) (Nat.le_of_ble_eq_true rfl) (Nat.le_of_ble_eq_true rfl) rfl ?_
  refine lw_value hB hr (fun v S1 hB1 hR1 => ?_)
  have hb1 : S1.1 ≤ 5000 ∧ S1.2.1 ≤ 600000 := by
    have q1 := hR1.2.1
    have q2 := hR1.2.2.1
    omega
  have hr1 : hw_room pg_TT S1 := lw_rm hb1.1 hb1.2
  have hM1 := lw_m1 hM hR1 hb1.1
  show lw_W scr 1000 281 Q (450, [some (.ref mm_big), some (.ref 0), some (.ref 1654), some (.ref 3296), some (.int i), a, b], [.int v], S1)
  refine lw_st (k := (452, [some (.ref mm_big), some (.ref 0), some (.ref 1654), some (.ref 3296), some (.int i), some (.int v), b], [], S1)) (i := .istore 5) (nx := 452) (tg := 0) rfl rfl rfl rfl ?_
  refine lw_st (i := .aload_n 2) (nx := 453) (tg := 0) rfl rfl rfl rfl ?_
  refine lw_st (i := .aload_n 0) (nx := 454) (tg := 0) rfl rfl rfl rfl ?_
  refine lw_st (i := .iload 4) (nx := 456) (tg := 0) rfl rfl rfl rfl ?_
  refine lw_st (i := .iconst 1) (nx := 457) (tg := 0) rfl rfl rfl rfl ?_
  refine lw_st (i := .iadd) (nx := 458) (tg := 0) rfl rfl rfl rfl ?_
  refine lw_ia (nx := 459) (tg := 0) rfl rfl (lw_ix hi hk hl (by decide) (by decide)) ?_
  refine lw_bl (p1 := 462) (p2 := 463) (p3 := 466) (p4 := 467) rfl rfl rfl rfl rfl rfl rfl rfl (fun t => ?_)
  refine lw_st (i := .aload_n 0) (nx := 468) (tg := 0) rfl rfl rfl rfl ?_
  refine lw_st (i := .iload 4) (nx := 470) (tg := 0) rfl rfl rfl rfl ?_
  refine lw_st (i := .iconst 2) (nx := 471) (tg := 0) rfl rfl rfl rfl ?_
  refine lw_st (i := .iadd) (nx := 472) (tg := 0) rfl rfl rfl rfl ?_
  refine lw_ia (nx := 473) (tg := 0) rfl rfl (lw_ix hi hk hl (by decide) (by decide)) ?_
  refine lw_iv (x := 108) (g := 268) (nx := 476) (tg := 0) rfl rfl rfl rfl (lw_lim hr1) (Nat.le_of_ble_eq_true rfl) (Nat.le_of_ble_eq_true rfl) (lw_rk1 hM1) ?_
  refine lm_value hM1 hr1 (fun w e2 S2 hM2 he2 => ?_)
  show lw_W scr 1000 281 Q (476, [some (.ref mm_big), some (.ref 0), some (.ref 1654), some (.ref 3296), some (.int i), some (.int v), b], [.int w], S2)
  refine lw_st (k := (478, [some (.ref mm_big), some (.ref 0), some (.ref 1654), some (.ref 3296), some (.int i), some (.int v), some (.int w)], [], S2)) (i := .istore 6) (nx := 478) (tg := 0) rfl rfl rfl rfl ?_
  refine lw_st (i := .goto 378) (nx := 481) (tg := 856) rfl rfl rfl rfl ?_
  exact hn _ _ S2 (lw_fi hB1 hR1 he2 hM2 hs1 hs2 hk)
theorem lk_within {scr : Nat × (Nat → Int32)} {k : Nat} {i : Int32} {a b : Option Value} {S : mm_S} {Q : mm_O → mm_S → Prop} (hj : lw_J k S) (hk : k ≤ 511) (hi : i.toInt = 6 * (k : Int)) (hl : 6 * k + 6 ≤ scr.1) (hn : ∀ a b S', lw_J (k + 1) S' → lw_W scr 1000 281 Q (856, [some (.ref mm_big), some (.ref 0), some (.ref 1654), some (.ref 3296), some (.int i), a, b], [], S')) : lw_W scr 1000 281 Q (481, [some (.ref mm_big), some (.ref 0), some (.ref 1654), some (.ref 3296), some (.int i), a, b], [], S) := by
  obtain ⟨f, er, g, Do, Yo, hB, hM, hs1, hs2⟩ := hj
  have hr : hw_room pg_TT S := lw_rm (by omega) (by omega)
  refine lw_st (i := .aload_n 1) (nx := 482) (tg := 0) rfl rfl rfl rfl ?_
  refine lw_st (i := .aload_n 0) (nx := 483) (tg := 0) rfl rfl rfl rfl ?_
  refine lw_st (i := .iload 4) (nx := 485) (tg := 0) rfl rfl rfl rfl ?_
  refine lw_st (i := .iconst 1) (nx := 486) (tg := 0) rfl rfl rfl rfl ?_
  refine lw_st (i := .iadd) (nx := 487) (tg := 0) rfl rfl rfl rfl ?_
  refine lw_ia (nx := 488) (tg := 0) rfl rfl (lw_ix hi hk hl (by decide) (by decide)) ?_
  refine lw_bl (p1 := 491) (p2 := 492) (p3 := 495) (p4 := 496) rfl rfl rfl rfl rfl rfl rfl rfl (fun t => ?_)
  refine lw_st (i := .aload_n 0) (nx := 497) (tg := 0) rfl rfl rfl rfl ?_
  refine lw_st (i := .iload 4) (nx := 499) (tg := 0) rfl rfl rfl rfl ?_
  refine lw_st (i := .iconst 2) (nx := 500) (tg := 0) rfl rfl rfl rfl ?_
  refine lw_st (i := .iadd) (nx := 501) (tg := 0) rfl rfl rfl rfl ?_
  refine lw_ia (nx := 502) (tg := 0) rfl rfl (lw_ix hi hk hl (by decide) (by decide)) ?_
  refine lw_st (i := .aload_n 0) (nx := 503) (tg := 0) rfl rfl rfl rfl ?_
  refine lw_st (i := .iload 4) (nx := 505) (tg := 0) rfl rfl rfl rfl ?_
  refine lw_st (i := .iconst 3) (nx := 506) (tg := 0) rfl rfl rfl rfl ?_
  refine lw_st (i := .iadd) (nx := 507) (tg := 0) rfl rfl rfl rfl ?_
  refine lw_ia (nx := 508) (tg := 0) rfl rfl (lw_ix hi hk hl (by decide) (by decide)) ?_
  refine lw_st (i := .aload_n 3) (nx := 509) (tg := 0) rfl rfl rfl rfl ?_
  refine lw_is (x := 109) (g := 164) (nx := 512) (tg := 0) rfl rfl rfl (lw_lim hr) (Nat.le_of_ble_eq_true rfl) (Nat.le_of_ble_eq_true rfl) rfl ?_
  refine lw_within hB hr (fun v S1 hB1 hR1 => ?_)
  have hb1 : S1.1 ≤ 5000 ∧ S1.2.1 ≤ 600000 := by
    have q1 := hR1.2.1
    have q2 := hR1.2.2.1
    omega
  have hr1 : hw_room pg_TT S1 := lw_rm hb1.1 hb1.2
  have hM1 := lw_m1 hM hR1 hb1.1
  show lw_W scr 1000 281 Q (512, [some (.ref mm_big), some (.ref 0), some (.ref 1654), some (.ref 3296), some (.int i), a, b], [.int v], S1)
  refine lw_st (k := (514, [some (.ref mm_big), some (.ref 0), some (.ref 1654), some (.ref 3296), some (.int i), some (.int v), b], [], S1)) (i := .istore 5) (nx := 514) (tg := 0) rfl rfl rfl rfl ?_
  refine lw_st (i := .aload_n 2) (nx := 515) (tg := 0) rfl rfl rfl rfl ?_
  refine lw_st (i := .aload_n 0) (nx := 516) (tg := 0) rfl rfl rfl rfl ?_
  refine lw_st (i := .iload 4) (nx := 518) (tg := 0) rfl rfl rfl rfl ?_
  refine lw_st (i := .iconst 1) (nx := 519) (tg := 0) rfl rfl rfl rfl ?_
  refine lw_st (i := .iadd) (nx := 520) (tg := 0) rfl rfl rfl rfl ?_
  refine lw_ia (nx := 521) (tg := 0) rfl rfl (lw_ix hi hk hl (by decide) (by decide)) ?_
  refine lw_bl (p1 := 524) (p2 := 525) (p3 := 528) (p4 := 529) rfl rfl rfl rfl rfl rfl rfl rfl (fun t => ?_)
  refine lw_st (i := .aload_n 0) (nx := 530) (tg := 0) rfl rfl rfl rfl ?_
  refine lw_st (i := .iload 4) (nx := 532) (tg := 0) rfl rfl rfl rfl ?_
  refine lw_st (i := .iconst 2) (nx := 533) (tg := 0) rfl rfl rfl rfl ?_
  refine lw_st (i := .iadd) (nx := 534) (tg := 0) rfl rfl rfl rfl ?_
  refine lw_ia (nx := 535) (tg := 0) rfl rfl (lw_ix hi hk hl (by decide) (by decide)) ?_
  refine lw_st (i := .aload_n 0) (nx := 536) (tg := 0) rfl rfl rfl rfl ?_
  refine lw_st (i := .iload 4) (nx := 538) (tg := 0) rfl rfl rfl rfl ?_
  refine lw_st (i := .iconst 3) (nx := 539) (tg := 0) rfl rfl rfl rfl ?_
  refine lw_st (i := .iadd) (nx := 540) (tg := 0) rfl rfl rfl rfl ?_
  refine lw_ia (nx := 541) (tg := 0) rfl rfl (lw_ix hi hk hl (by decide) (by decide)) ?_
  refine lw_iv (x := 112) (g := 269) (nx := 544) (tg := 0) rfl rfl rfl rfl (lw_lim hr1) (Nat.le_of_ble_eq_true rfl) (Nat.le_of_ble_eq_true rfl) (lw_rk1 hM1) ?_
  refine lm_within hM1 hr1 (fun w e2 S2 hM2 he2 => ?_)
  show lw_W scr 1000 281 Q (544, [some (.ref mm_big), some (.ref 0), some (.ref 1654), some (.ref 3296), some (.int i), some (.int v), b], [.int w], S2)
  refine lw_st (k := (546, [some (.ref mm_big), some (.ref 0), some (.ref 1654), some (.ref 3296), some (.int i), some (.int v), some (.int w)], [], S2)) (i := .istore 6) (nx := 546) (tg := 0) rfl rfl rfl rfl ?_
  refine lw_st (i := .goto 310) (nx := 549) (tg := 856) rfl rfl rfl rfl ?_
  exact hn _ _ S2 (lw_fi hB1 hR1 he2 hM2 hs1 hs2 hk)
theorem lk_claim {scr : Nat × (Nat → Int32)} {k : Nat} {i : Int32} {a b : Option Value} {S : mm_S} {Q : mm_O → mm_S → Prop} (hj : lw_J k S) (hk : k ≤ 511) (hi : i.toInt = 6 * (k : Int)) (hl : 6 * k + 6 ≤ scr.1) (hn : ∀ a b S', lw_J (k + 1) S' → lw_W scr 1000 281 Q (856, [some (.ref mm_big), some (.ref 0), some (.ref 1654), some (.ref 3296), some (.int i), a, b], [], S')) : lw_W scr 1000 281 Q (549, [some (.ref mm_big), some (.ref 0), some (.ref 1654), some (.ref 3296), some (.int i), a, b], [], S) := by
  obtain ⟨f, er, g, Do, Yo, hB, hM, hs1, hs2⟩ := hj
  have hr : hw_room pg_TT S := lw_rm (by omega) (by omega)
  refine lw_st (i := .aload_n 1) (nx := 550) (tg := 0) rfl rfl rfl rfl ?_
  refine lw_st (i := .aload_n 0) (nx := 551) (tg := 0) rfl rfl rfl rfl ?_
  refine lw_st (i := .iload 4) (nx := 553) (tg := 0) rfl rfl rfl rfl ?_
  refine lw_st (i := .iconst 1) (nx := 554) (tg := 0) rfl rfl rfl rfl ?_
  refine lw_st (i := .iadd) (nx := 555) (tg := 0) rfl rfl rfl rfl ?_
  refine lw_ia (nx := 556) (tg := 0) rfl rfl (lw_ix hi hk hl (by decide) (by decide)) ?_
  refine lw_st (i := .aload_n 0) (nx := 557) (tg := 0) rfl rfl rfl rfl ?_
  refine lw_st (i := .iload 4) (nx := 559) (tg := 0) rfl rfl rfl rfl ?_
  refine lw_st (i := .iconst 2) (nx := 560) (tg := 0) rfl rfl rfl rfl ?_
  refine lw_st (i := .iadd) (nx := 561) (tg := 0) rfl rfl rfl rfl ?_
  refine lw_ia (nx := 562) (tg := 0) rfl rfl (lw_ix hi hk hl (by decide) (by decide)) ?_
  refine lw_st (i := .i2l) (nx := 563) (tg := 0) rfl rfl rfl rfl ?_
  refine lw_st (i := .bipush 32) (nx := 565) (tg := 0) rfl rfl rfl rfl ?_
  refine lw_st (i := .lshl) (nx := 566) (tg := 0) rfl rfl rfl rfl ?_
  refine lw_st (i := .aload_n 0) (nx := 567) (tg := 0) rfl rfl rfl rfl ?_
  refine lw_st (i := .iload 4) (nx := 569) (tg := 0) rfl rfl rfl rfl ?_
  refine lw_st (i := .iconst 3) (nx := 570) (tg := 0) rfl rfl rfl rfl ?_
  refine lw_st (i := .iadd) (nx := 571) (tg := 0) rfl rfl rfl rfl ?_
  refine lw_ia (nx := 572) (tg := 0) rfl rfl (lw_ix hi hk hl (by decide) (by decide)) ?_
  refine lw_st (i := .i2l) (nx := 573) (tg := 0) rfl rfl rfl rfl ?_
  refine lw_st (i := .ldc2_w 113) (nx := 576) (tg := 0) rfl rfl rfl rfl ?_
  refine lw_st (i := .land) (nx := 577) (tg := 0) rfl rfl rfl rfl ?_
  refine lw_st (i := .lor) (nx := 578) (tg := 0) rfl rfl rfl rfl ?_
  refine lw_st (i := .aload_n 0) (nx := 579) (tg := 0) rfl rfl rfl rfl ?_
  refine lw_st (i := .iload 4) (nx := 581) (tg := 0) rfl rfl rfl rfl ?_
  refine lw_st (i := .iconst 4) (nx := 582) (tg := 0) rfl rfl rfl rfl ?_
  refine lw_st (i := .iadd) (nx := 583) (tg := 0) rfl rfl rfl rfl ?_
  refine lw_ia (nx := 584) (tg := 0) rfl rfl (lw_ix hi hk hl (by decide) (by decide)) ?_
  refine lw_st (i := .i2l) (nx := 585) (tg := 0) rfl rfl rfl rfl ?_
  refine lw_st (i := .bipush 32) (nx := 587) (tg := 0) rfl rfl rfl rfl ?_
  refine lw_st (i := .lshl) (nx := 588) (tg := 0) rfl rfl rfl rfl ?_
  refine lw_st (i := .aload_n 0) (nx := 589) (tg := 0) rfl rfl rfl rfl ?_
  refine lw_st (i := .iload 4) (nx := 591) (tg := 0) rfl rfl rfl rfl ?_
  refine lw_st (i := .iconst 5) (nx := 592) (tg := 0) rfl rfl rfl rfl ?_
  refine lw_st (i := .iadd) (nx := 593) (tg := 0) rfl rfl rfl rfl ?_
  refine lw_ia (nx := 594) (tg := 0) rfl rfl (lw_ix hi hk hl (by decide) (by decide)) ?_
  refine lw_st (i := .i2l) (nx := 595) (tg := 0) rfl rfl rfl rfl ?_
  refine lw_st (i := .ldc2_w 113) (nx := 598) (tg := 0) rfl rfl rfl rfl ?_
  refine lw_st (i := .land) (nx := 599) (tg := 0) rfl rfl rfl rfl ?_
  refine lw_st (i := .lor) (nx := 600) (tg := 0) rfl rfl rfl rfl ?_
  refine lw_is (x := 115) (g := 170) (nx := 603) (tg := 0) rfl rfl rfl (lw_lim hr) (Nat.le_of_ble_eq_true rfl) (Nat.le_of_ble_eq_true rfl) rfl ?_
  refine lw_claim hB hr (fun v S1 hB1 hR1 => ?_)
  have hb1 : S1.1 ≤ 5000 ∧ S1.2.1 ≤ 600000 := by
    have q1 := hR1.2.1
    have q2 := hR1.2.2.1
    omega
  have hr1 : hw_room pg_TT S1 := lw_rm hb1.1 hb1.2
  have hM1 := lw_m1 hM hR1 hb1.1
  show lw_W scr 1000 281 Q (603, [some (.ref mm_big), some (.ref 0), some (.ref 1654), some (.ref 3296), some (.int i), a, b], [.int v], S1)
  refine lw_st (k := (605, [some (.ref mm_big), some (.ref 0), some (.ref 1654), some (.ref 3296), some (.int i), some (.int v), b], [], S1)) (i := .istore 5) (nx := 605) (tg := 0) rfl rfl rfl rfl ?_
  refine lw_st (i := .aload_n 2) (nx := 606) (tg := 0) rfl rfl rfl rfl ?_
  refine lw_st (i := .aload_n 0) (nx := 607) (tg := 0) rfl rfl rfl rfl ?_
  refine lw_st (i := .iload 4) (nx := 609) (tg := 0) rfl rfl rfl rfl ?_
  refine lw_st (i := .iconst 1) (nx := 610) (tg := 0) rfl rfl rfl rfl ?_
  refine lw_st (i := .iadd) (nx := 611) (tg := 0) rfl rfl rfl rfl ?_
  refine lw_ia (nx := 612) (tg := 0) rfl rfl (lw_ix hi hk hl (by decide) (by decide)) ?_
  refine lw_st (i := .aload_n 0) (nx := 613) (tg := 0) rfl rfl rfl rfl ?_
  refine lw_st (i := .iload 4) (nx := 615) (tg := 0) rfl rfl rfl rfl ?_
  refine lw_st (i := .iconst 2) (nx := 616) (tg := 0) rfl rfl rfl rfl ?_
  refine lw_st (i := .iadd) (nx := 617) (tg := 0) rfl rfl rfl rfl ?_
  refine lw_ia (nx := 618) (tg := 0) rfl rfl (lw_ix hi hk hl (by decide) (by decide)) ?_
  refine lw_st (i := .i2l) (nx := 619) (tg := 0) rfl rfl rfl rfl ?_
  refine lw_st (i := .bipush 32) (nx := 621) (tg := 0) rfl rfl rfl rfl ?_
  refine lw_st (i := .lshl) (nx := 622) (tg := 0) rfl rfl rfl rfl ?_
  refine lw_st (i := .aload_n 0) (nx := 623) (tg := 0) rfl rfl rfl rfl ?_
  refine lw_st (i := .iload 4) (nx := 625) (tg := 0) rfl rfl rfl rfl ?_
  refine lw_st (i := .iconst 3) (nx := 626) (tg := 0) rfl rfl rfl rfl ?_
  refine lw_st (i := .iadd) (nx := 627) (tg := 0) rfl rfl rfl rfl ?_
  refine lw_ia (nx := 628) (tg := 0) rfl rfl (lw_ix hi hk hl (by decide) (by decide)) ?_
  refine lw_st (i := .i2l) (nx := 629) (tg := 0) rfl rfl rfl rfl ?_
  refine lw_st (i := .ldc2_w 113) (nx := 632) (tg := 0) rfl rfl rfl rfl ?_
  refine lw_st (i := .land) (nx := 633) (tg := 0) rfl rfl rfl rfl ?_
  refine lw_st (i := .lor) (nx := 634) (tg := 0) rfl rfl rfl rfl ?_
  refine lw_st (i := .aload_n 0) (nx := 635) (tg := 0) rfl rfl rfl rfl ?_
  refine lw_st (i := .iload 4) (nx := 637) (tg := 0) rfl rfl rfl rfl ?_
  refine lw_st (i := .iconst 4) (nx := 638) (tg := 0) rfl rfl rfl rfl ?_
  refine lw_st (i := .iadd) (nx := 639) (tg := 0) rfl rfl rfl rfl ?_
  refine lw_ia (nx := 640) (tg := 0) rfl rfl (lw_ix hi hk hl (by decide) (by decide)) ?_
  refine lw_st (i := .i2l) (nx := 641) (tg := 0) rfl rfl rfl rfl ?_
  refine lw_st (i := .bipush 32) (nx := 643) (tg := 0) rfl rfl rfl rfl ?_
  refine lw_st (i := .lshl) (nx := 644) (tg := 0) rfl rfl rfl rfl ?_
  refine lw_st (i := .aload_n 0) (nx := 645) (tg := 0) rfl rfl rfl rfl ?_
  refine lw_st (i := .iload 4) (nx := 647) (tg := 0) rfl rfl rfl rfl ?_
  refine lw_st (i := .iconst 5) (nx := 648) (tg := 0) rfl rfl rfl rfl ?_
  refine lw_st (i := .iadd) (nx := 649) (tg := 0) rfl rfl rfl rfl ?_
  refine lw_ia (nx := 650) (tg := 0) rfl rfl (lw_ix hi hk hl (by decide) (by decide)) ?_
  refine lw_st (i := .i2l) (nx := 651) (tg := 0) rfl rfl rfl rfl ?_
  refine lw_st (i := .ldc2_w 113) (nx := 654) (tg := 0) rfl rfl rfl rfl ?_
  refine lw_st (i := .land) (nx := 655) (tg := 0) rfl rfl rfl rfl ?_
  refine lw_st (i := .lor) (nx := 656) (tg := 0) rfl rfl rfl rfl ?_
  refine lw_iv (x := 118) (g := 270) (nx := 659) (tg := 0) rfl rfl rfl rfl (lw_lim hr1) (Nat.le_of_ble_eq_true rfl) (Nat.le_of_ble_eq_true rfl) (lw_rk1 hM1) ?_
  refine lm_claim hM1 hr1 (fun e2 S2 hM2 he2 => ?_)
  show lw_W scr 1000 281 Q (659, [some (.ref mm_big), some (.ref 0), some (.ref 1654), some (.ref 3296), some (.int i), some (.int v), b], [], S2)
  refine lw_st (i := .goto 197) (nx := 662) (tg := 856) rfl rfl rfl rfl ?_
  exact hn _ _ S2 (lw_fi hB1 hR1 he2 hM2 hs1 hs2 hk)
theorem lk_claimResult {scr : Nat × (Nat → Int32)} {k : Nat} {i : Int32} {a b : Option Value} {S : mm_S} {Q : mm_O → mm_S → Prop} (hj : lw_J k S) (hk : k ≤ 511) (hi : i.toInt = 6 * (k : Int)) (hl : 6 * k + 6 ≤ scr.1) (hn : ∀ a b S', lw_J (k + 1) S' → lw_W scr 1000 281 Q (856, [some (.ref mm_big), some (.ref 0), some (.ref 1654), some (.ref 3296), some (.int i), a, b], [], S')) : lw_W scr 1000 281 Q (662, [some (.ref mm_big), some (.ref 0), some (.ref 1654), some (.ref 3296), some (.int i), a, b], [], S) := by
  obtain ⟨f, er, g, Do, Yo, hB, hM, hs1, hs2⟩ := hj
  have hr : hw_room pg_TT S := lw_rm (by omega) (by omega)
  refine lw_st (i := .aload_n 1) (nx := 663) (tg := 0) rfl rfl rfl rfl ?_
  refine lw_st (i := .aload_n 0) (nx := 664) (tg := 0) rfl rfl rfl rfl ?_
  refine lw_st (i := .iload 4) (nx := 666) (tg := 0) rfl rfl rfl rfl ?_
  refine lw_st (i := .iconst 1) (nx := 667) (tg := 0) rfl rfl rfl rfl ?_
  refine lw_st (i := .iadd) (nx := 668) (tg := 0) rfl rfl rfl rfl ?_
  refine lw_ia (nx := 669) (tg := 0) rfl rfl (lw_ix hi hk hl (by decide) (by decide)) ?_
  refine lw_is (x := 119) (g := 172) (nx := 672) (tg := 0) rfl rfl rfl (lw_lim hr) (Nat.le_of_ble_eq_true rfl) (Nat.le_of_ble_eq_true rfl) rfl ?_
  refine lw_claimResult hB hr (fun v S1 hB1 hR1 => ?_)
  have hb1 : S1.1 ≤ 5000 ∧ S1.2.1 ≤ 600000 := by
    have q1 := hR1.2.1
    have q2 := hR1.2.2.1
    omega
  have hr1 : hw_room pg_TT S1 := lw_rm hb1.1 hb1.2
  have hM1 := lw_m1 hM hR1 hb1.1
  show lw_W scr 1000 281 Q (672, [some (.ref mm_big), some (.ref 0), some (.ref 1654), some (.ref 3296), some (.int i), a, b], [.int v], S1)
  refine lw_st (k := (674, [some (.ref mm_big), some (.ref 0), some (.ref 1654), some (.ref 3296), some (.int i), some (.int v), b], [], S1)) (i := .istore 5) (nx := 674) (tg := 0) rfl rfl rfl rfl ?_
  refine lw_st (i := .aload_n 2) (nx := 675) (tg := 0) rfl rfl rfl rfl ?_
  refine lw_st (i := .aload_n 0) (nx := 676) (tg := 0) rfl rfl rfl rfl ?_
  refine lw_st (i := .iload 4) (nx := 678) (tg := 0) rfl rfl rfl rfl ?_
  refine lw_st (i := .iconst 1) (nx := 679) (tg := 0) rfl rfl rfl rfl ?_
  refine lw_st (i := .iadd) (nx := 680) (tg := 0) rfl rfl rfl rfl ?_
  refine lw_ia (nx := 681) (tg := 0) rfl rfl (lw_ix hi hk hl (by decide) (by decide)) ?_
  refine lw_iv (x := 122) (g := 271) (nx := 684) (tg := 0) rfl rfl rfl rfl (lw_lim hr1) (Nat.le_of_ble_eq_true rfl) (Nat.le_of_ble_eq_true rfl) (lw_rk1 hM1) ?_
  refine lm_claimResult hM1 hr1 (fun e2 S2 hM2 he2 => ?_)
  show lw_W scr 1000 281 Q (684, [some (.ref mm_big), some (.ref 0), some (.ref 1654), some (.ref 3296), some (.int i), some (.int v), b], [], S2)
  refine lw_st (i := .goto 172) (nx := 687) (tg := 856) rfl rfl rfl rfl ?_
  exact hn _ _ S2 (lw_fi hB1 hR1 he2 hM2 hs1 hs2 hk)
theorem lk_check {scr : Nat × (Nat → Int32)} {k : Nat} {i : Int32} {a b : Option Value} {S : mm_S} {Q : mm_O → mm_S → Prop} (hj : lw_J k S) (hk : k ≤ 511) (hi : i.toInt = 6 * (k : Int)) (hl : 6 * k + 6 ≤ scr.1) (hn : ∀ a b S', lw_J (k + 1) S' → lw_W scr 1000 281 Q (856, [some (.ref mm_big), some (.ref 0), some (.ref 1654), some (.ref 3296), some (.int i), a, b], [], S')) : lw_W scr 1000 281 Q (687, [some (.ref mm_big), some (.ref 0), some (.ref 1654), some (.ref 3296), some (.int i), a, b], [], S) := by
  obtain ⟨f, er, g, Do, Yo, hB, hM, hs1, hs2⟩ := hj
  have hr : hw_room pg_TT S := lw_rm (by omega) (by omega)
  refine lw_st (i := .aload_n 1) (nx := 688) (tg := 0) rfl rfl rfl rfl ?_
  refine lw_st (i := .aload_n 0) (nx := 689) (tg := 0) rfl rfl rfl rfl ?_
  refine lw_st (i := .iload 4) (nx := 691) (tg := 0) rfl rfl rfl rfl ?_
  refine lw_st (i := .iconst 1) (nx := 692) (tg := 0) rfl rfl rfl rfl ?_
  refine lw_st (i := .iadd) (nx := 693) (tg := 0) rfl rfl rfl rfl ?_
  refine lw_ia (nx := 694) (tg := 0) rfl rfl (lw_ix hi hk hl (by decide) (by decide)) ?_
  refine lw_bl (p1 := 697) (p2 := 698) (p3 := 701) (p4 := 702) rfl rfl rfl rfl rfl rfl rfl rfl (fun t => ?_)
  refine lw_st (i := .aload_n 3) (nx := 703) (tg := 0) rfl rfl rfl rfl ?_
  refine lw_is (x := 123) (g := 174) (nx := 706) (tg := 0) rfl rfl rfl (lw_lim hr) (Nat.le_of_ble_eq_true rfl) (Nat.le_of_ble_eq_true rfl) rfl ?_
  refine lw_check hB hr (fun v S1 hB1 hR1 => ?_)
  have hb1 : S1.1 ≤ 5000 ∧ S1.2.1 ≤ 600000 := by
    have q1 := hR1.2.1
    have q2 := hR1.2.2.1
    omega
  have hr1 : hw_room pg_TT S1 := lw_rm hb1.1 hb1.2
  have hM1 := lw_m1 hM hR1 hb1.1
  show lw_W scr 1000 281 Q (706, [some (.ref mm_big), some (.ref 0), some (.ref 1654), some (.ref 3296), some (.int i), a, b], [.int v], S1)
  refine lw_st (k := (708, [some (.ref mm_big), some (.ref 0), some (.ref 1654), some (.ref 3296), some (.int i), some (.int v), b], [], S1)) (i := .istore 5) (nx := 708) (tg := 0) rfl rfl rfl rfl ?_
  refine lw_st (i := .aload_n 2) (nx := 709) (tg := 0) rfl rfl rfl rfl ?_
  refine lw_st (i := .aload_n 0) (nx := 710) (tg := 0) rfl rfl rfl rfl ?_
  refine lw_st (i := .iload 4) (nx := 712) (tg := 0) rfl rfl rfl rfl ?_
  refine lw_st (i := .iconst 1) (nx := 713) (tg := 0) rfl rfl rfl rfl ?_
  refine lw_st (i := .iadd) (nx := 714) (tg := 0) rfl rfl rfl rfl ?_
  refine lw_ia (nx := 715) (tg := 0) rfl rfl (lw_ix hi hk hl (by decide) (by decide)) ?_
  refine lw_bl (p1 := 718) (p2 := 719) (p3 := 722) (p4 := 723) rfl rfl rfl rfl rfl rfl rfl rfl (fun t => ?_)
  refine lw_iv (x := 125) (g := 273) (nx := 726) (tg := 0) rfl rfl rfl rfl (lw_lim hr1) (Nat.le_of_ble_eq_true rfl) (Nat.le_of_ble_eq_true rfl) (lw_rk1 hM1) ?_
  refine lm_check hM1 hr1 (fun w e2 S2 hM2 he2 => ?_)
  show lw_W scr 1000 281 Q (726, [some (.ref mm_big), some (.ref 0), some (.ref 1654), some (.ref 3296), some (.int i), some (.int v), b], [.int w], S2)
  refine lw_st (k := (728, [some (.ref mm_big), some (.ref 0), some (.ref 1654), some (.ref 3296), some (.int i), some (.int v), some (.int w)], [], S2)) (i := .istore 6) (nx := 728) (tg := 0) rfl rfl rfl rfl ?_
  refine lw_st (i := .goto 128) (nx := 731) (tg := 856) rfl rfl rfl rfl ?_
  exact hn _ _ S2 (lw_fi hB1 hR1 he2 hM2 hs1 hs2 hk)
theorem lk_bits {scr : Nat × (Nat → Int32)} {k : Nat} {i : Int32} {a b : Option Value} {S : mm_S} {Q : mm_O → mm_S → Prop} (hj : lw_J k S) (hk : k ≤ 511) (hi : i.toInt = 6 * (k : Int)) (hl : 6 * k + 6 ≤ scr.1) (hn : ∀ a b S', lw_J (k + 1) S' → lw_W scr 1000 281 Q (856, [some (.ref mm_big), some (.ref 0), some (.ref 1654), some (.ref 3296), some (.int i), a, b], [], S')) : lw_W scr 1000 281 Q (731, [some (.ref mm_big), some (.ref 0), some (.ref 1654), some (.ref 3296), some (.int i), a, b], [], S) := by
  obtain ⟨f, er, g, Do, Yo, hB, hM, hs1, hs2⟩ := hj
  have hr : hw_room pg_TT S := lw_rm (by omega) (by omega)
  refine lw_st (i := .aload_n 1) (nx := 732) (tg := 0) rfl rfl rfl rfl ?_
  refine lw_st (i := .aload_n 0) (nx := 733) (tg := 0) rfl rfl rfl rfl ?_
  refine lw_st (i := .iload 4) (nx := 735) (tg := 0) rfl rfl rfl rfl ?_
  refine lw_st (i := .iconst 1) (nx := 736) (tg := 0) rfl rfl rfl rfl ?_
  refine lw_st (i := .iadd) (nx := 737) (tg := 0) rfl rfl rfl rfl ?_
  refine lw_ia (nx := 738) (tg := 0) rfl rfl (lw_ix hi hk hl (by decide) (by decide)) ?_
  refine lw_bl (p1 := 741) (p2 := 742) (p3 := 745) (p4 := 746) rfl rfl rfl rfl rfl rfl rfl rfl (fun t => ?_)
  refine lw_iv (x := 126) (g := 15) (nx := 749) (tg := 0) rfl rfl rfl rfl (lw_lim hr) (Nat.le_of_ble_eq_true rfl) (Nat.le_of_ble_eq_true rfl) (lw_rk2 hB) ?_
  refine lc_bits hB hr (fun v S1 hB1 hR1 => ?_)
  show lw_W scr 1000 281 Q (749, [some (.ref mm_big), some (.ref 0), some (.ref 1654), some (.ref 3296), some (.int i), a, b], [.int v], S1)
  refine lw_st (k := (750, [some (.ref mm_big), some (.ref 0), some (.ref 1654), some (.ref 3296), some (.int i), a, b], [], S1)) (i := .pop) (nx := 750) (tg := 0) rfl rfl rfl rfl ?_
  have hb1 : S1.1 ≤ 5000 ∧ S1.2.1 ≤ 600000 := by
    have q1 := hR1.2.1
    have q2 := hR1.2.2.1
    omega
  have hr1 : hw_room pg_TT S1 := lw_rm hb1.1 hb1.2
  have hM1 := lw_m1 hM hR1 hb1.1
  refine lw_st (i := .aload_n 2) (nx := 751) (tg := 0) rfl rfl rfl rfl ?_
  refine lw_st (i := .aload_n 0) (nx := 752) (tg := 0) rfl rfl rfl rfl ?_
  refine lw_st (i := .iload 4) (nx := 754) (tg := 0) rfl rfl rfl rfl ?_
  refine lw_st (i := .iconst 1) (nx := 755) (tg := 0) rfl rfl rfl rfl ?_
  refine lw_st (i := .iadd) (nx := 756) (tg := 0) rfl rfl rfl rfl ?_
  refine lw_ia (nx := 757) (tg := 0) rfl rfl (lw_ix hi hk hl (by decide) (by decide)) ?_
  refine lw_bl (p1 := 760) (p2 := 761) (p3 := 764) (p4 := 765) rfl rfl rfl rfl rfl rfl rfl rfl (fun t => ?_)
  refine lw_iv (x := 129) (g := 276) (nx := 768) (tg := 0) rfl rfl rfl rfl (lw_lim hr1) (Nat.le_of_ble_eq_true rfl) (Nat.le_of_ble_eq_true rfl) (lw_rk1 hM1) ?_
  refine lm_bits hM1 hr1 (fun w e2 S2 hM2 he2 => ?_)
  show lw_W scr 1000 281 Q (768, [some (.ref mm_big), some (.ref 0), some (.ref 1654), some (.ref 3296), some (.int i), a, b], [.int w], S2)
  refine lw_st (k := (769, [some (.ref mm_big), some (.ref 0), some (.ref 1654), some (.ref 3296), some (.int i), a, b], [], S2)) (i := .pop) (nx := 769) (tg := 0) rfl rfl rfl rfl ?_
  refine lw_st (i := .goto 87) (nx := 772) (tg := 856) rfl rfl rfl rfl ?_
  exact hn _ _ S2 (lw_fi hB1 hR1 he2 hM2 hs1 hs2 hk)
theorem lk_part {scr : Nat × (Nat → Int32)} {k : Nat} {i : Int32} {a b : Option Value} {S : mm_S} {Q : mm_O → mm_S → Prop} (hj : lw_J k S) (hk : k ≤ 511) (hi : i.toInt = 6 * (k : Int)) (hl : 6 * k + 6 ≤ scr.1) (hn : ∀ a b S', lw_J (k + 1) S' → lw_W scr 1000 281 Q (856, [some (.ref mm_big), some (.ref 0), some (.ref 1654), some (.ref 3296), some (.int i), a, b], [], S')) : lw_W scr 1000 281 Q (772, [some (.ref mm_big), some (.ref 0), some (.ref 1654), some (.ref 3296), some (.int i), a, b], [], S) := by
  obtain ⟨f, er, g, Do, Yo, hB, hM, hs1, hs2⟩ := hj
  have hr : hw_room pg_TT S := lw_rm (by omega) (by omega)
  refine lw_st (i := .aload_n 1) (nx := 773) (tg := 0) rfl rfl rfl rfl ?_
  refine lw_st (i := .aload_n 0) (nx := 774) (tg := 0) rfl rfl rfl rfl ?_
  refine lw_st (i := .iload 4) (nx := 776) (tg := 0) rfl rfl rfl rfl ?_
  refine lw_st (i := .iconst 1) (nx := 777) (tg := 0) rfl rfl rfl rfl ?_
  refine lw_st (i := .iadd) (nx := 778) (tg := 0) rfl rfl rfl rfl ?_
  refine lw_ia (nx := 779) (tg := 0) rfl rfl (lw_ix hi hk hl (by decide) (by decide)) ?_
  refine lw_bl (p1 := 782) (p2 := 783) (p3 := 786) (p4 := 787) rfl rfl rfl rfl rfl rfl rfl rfl (fun t => ?_)
  refine lw_st (i := .aload_n 0) (nx := 788) (tg := 0) rfl rfl rfl rfl ?_
  refine lw_st (i := .iload 4) (nx := 790) (tg := 0) rfl rfl rfl rfl ?_
  refine lw_st (i := .iconst 2) (nx := 791) (tg := 0) rfl rfl rfl rfl ?_
  refine lw_st (i := .iadd) (nx := 792) (tg := 0) rfl rfl rfl rfl ?_
  refine lw_ia (nx := 793) (tg := 0) rfl rfl (lw_ix hi hk hl (by decide) (by decide)) ?_
  refine lw_st (i := .aload_n 3) (nx := 794) (tg := 0) rfl rfl rfl rfl ?_
  refine lw_is (x := 130) (g := 176) (nx := 797) (tg := 0) rfl rfl rfl (lw_lim hr) (Nat.le_of_ble_eq_true rfl) (Nat.le_of_ble_eq_true rfl) rfl ?_
  refine lw_part hB hr (fun v S1 hB1 hR1 => ?_)
  have hb1 : S1.1 ≤ 5000 ∧ S1.2.1 ≤ 600000 := by
    have q1 := hR1.2.1
    have q2 := hR1.2.2.1
    omega
  have hr1 : hw_room pg_TT S1 := lw_rm hb1.1 hb1.2
  have hM1 := lw_m1 hM hR1 hb1.1
  show lw_W scr 1000 281 Q (797, [some (.ref mm_big), some (.ref 0), some (.ref 1654), some (.ref 3296), some (.int i), a, b], [.int v], S1)
  refine lw_st (k := (799, [some (.ref mm_big), some (.ref 0), some (.ref 1654), some (.ref 3296), some (.int i), some (.int v), b], [], S1)) (i := .istore 5) (nx := 799) (tg := 0) rfl rfl rfl rfl ?_
  refine lw_st (i := .aload_n 2) (nx := 800) (tg := 0) rfl rfl rfl rfl ?_
  refine lw_st (i := .aload_n 0) (nx := 801) (tg := 0) rfl rfl rfl rfl ?_
  refine lw_st (i := .iload 4) (nx := 803) (tg := 0) rfl rfl rfl rfl ?_
  refine lw_st (i := .iconst 1) (nx := 804) (tg := 0) rfl rfl rfl rfl ?_
  refine lw_st (i := .iadd) (nx := 805) (tg := 0) rfl rfl rfl rfl ?_
  refine lw_ia (nx := 806) (tg := 0) rfl rfl (lw_ix hi hk hl (by decide) (by decide)) ?_
  refine lw_bl (p1 := 809) (p2 := 810) (p3 := 813) (p4 := 814) rfl rfl rfl rfl rfl rfl rfl rfl (fun t => ?_)
  refine lw_st (i := .aload_n 0) (nx := 815) (tg := 0) rfl rfl rfl rfl ?_
  refine lw_st (i := .iload 4) (nx := 817) (tg := 0) rfl rfl rfl rfl ?_
  refine lw_st (i := .iconst 2) (nx := 818) (tg := 0) rfl rfl rfl rfl ?_
  refine lw_st (i := .iadd) (nx := 819) (tg := 0) rfl rfl rfl rfl ?_
  refine lw_ia (nx := 820) (tg := 0) rfl rfl (lw_ix hi hk hl (by decide) (by decide)) ?_
  refine lw_iv (x := 132) (g := 277) (nx := 823) (tg := 0) rfl rfl rfl rfl (lw_lim hr1) (Nat.le_of_ble_eq_true rfl) (Nat.le_of_ble_eq_true rfl) (lw_rk1 hM1) ?_
  refine lm_part hM1 hr1 (fun w e2 S2 hM2 he2 => ?_)
  show lw_W scr 1000 281 Q (823, [some (.ref mm_big), some (.ref 0), some (.ref 1654), some (.ref 3296), some (.int i), some (.int v), b], [.int w], S2)
  refine lw_st (k := (825, [some (.ref mm_big), some (.ref 0), some (.ref 1654), some (.ref 3296), some (.int i), some (.int v), some (.int w)], [], S2)) (i := .istore 6) (nx := 825) (tg := 0) rfl rfl rfl rfl ?_
  refine lw_st (i := .goto 31) (nx := 828) (tg := 856) rfl rfl rfl rfl ?_
  exact hn _ _ S2 (lw_fi hB1 hR1 he2 hM2 hs1 hs2 hk)
theorem lk_count {scr : Nat × (Nat → Int32)} {k : Nat} {i : Int32} {a b : Option Value} {S : mm_S} {Q : mm_O → mm_S → Prop} (hj : lw_J k S) (hk : k ≤ 511) (hi : i.toInt = 6 * (k : Int)) (hl : 6 * k + 6 ≤ scr.1) (hn : ∀ a b S', lw_J (k + 1) S' → lw_W scr 1000 281 Q (856, [some (.ref mm_big), some (.ref 0), some (.ref 1654), some (.ref 3296), some (.int i), a, b], [], S')) : lw_W scr 1000 281 Q (828, [some (.ref mm_big), some (.ref 0), some (.ref 1654), some (.ref 3296), some (.int i), a, b], [], S) := by
  obtain ⟨f, er, g, Do, Yo, hB, hM, hs1, hs2⟩ := hj
  have hr : hw_room pg_TT S := lw_rm (by omega) (by omega)
  refine lw_st (i := .aload_n 1) (nx := 829) (tg := 0) rfl rfl rfl rfl ?_
  refine lw_st (i := .aload_n 0) (nx := 830) (tg := 0) rfl rfl rfl rfl ?_
  refine lw_st (i := .iload 4) (nx := 832) (tg := 0) rfl rfl rfl rfl ?_
  refine lw_st (i := .iconst 1) (nx := 833) (tg := 0) rfl rfl rfl rfl ?_
  refine lw_st (i := .iadd) (nx := 834) (tg := 0) rfl rfl rfl rfl ?_
  refine lw_ia (nx := 835) (tg := 0) rfl rfl (lw_ix hi hk hl (by decide) (by decide)) ?_
  refine lw_st (i := .aload_n 3) (nx := 836) (tg := 0) rfl rfl rfl rfl ?_
  refine lw_is (x := 133) (g := 178) (nx := 839) (tg := 0) rfl rfl rfl (lw_lim hr) (Nat.le_of_ble_eq_true rfl) (Nat.le_of_ble_eq_true rfl) rfl ?_
  refine lw_count hB hr (fun v S1 hB1 hR1 => ?_)
  have hb1 : S1.1 ≤ 5000 ∧ S1.2.1 ≤ 600000 := by
    have q1 := hR1.2.1
    have q2 := hR1.2.2.1
    omega
  have hr1 : hw_room pg_TT S1 := lw_rm hb1.1 hb1.2
  have hM1 := lw_m1 hM hR1 hb1.1
  show lw_W scr 1000 281 Q (839, [some (.ref mm_big), some (.ref 0), some (.ref 1654), some (.ref 3296), some (.int i), a, b], [.int v], S1)
  refine lw_st (k := (841, [some (.ref mm_big), some (.ref 0), some (.ref 1654), some (.ref 3296), some (.int i), some (.int v), b], [], S1)) (i := .istore 5) (nx := 841) (tg := 0) rfl rfl rfl rfl ?_
  refine lw_st (i := .aload_n 2) (nx := 842) (tg := 0) rfl rfl rfl rfl ?_
  refine lw_st (i := .aload_n 0) (nx := 843) (tg := 0) rfl rfl rfl rfl ?_
  refine lw_st (i := .iload 4) (nx := 845) (tg := 0) rfl rfl rfl rfl ?_
  refine lw_st (i := .iconst 1) (nx := 846) (tg := 0) rfl rfl rfl rfl ?_
  refine lw_st (i := .iadd) (nx := 847) (tg := 0) rfl rfl rfl rfl ?_
  refine lw_ia (nx := 848) (tg := 0) rfl rfl (lw_ix hi hk hl (by decide) (by decide)) ?_
  refine lw_iv (x := 135) (g := 279) (nx := 851) (tg := 0) rfl rfl rfl rfl (lw_lim hr1) (Nat.le_of_ble_eq_true rfl) (Nat.le_of_ble_eq_true rfl) (lw_rk1 hM1) ?_
  refine lm_count hM1 hr1 (fun w e2 S2 hM2 he2 => ?_)
  show lw_W scr 1000 281 Q (851, [some (.ref mm_big), some (.ref 0), some (.ref 1654), some (.ref 3296), some (.int i), some (.int v), b], [.int w], S2)
  refine lw_st (k := (853, [some (.ref mm_big), some (.ref 0), some (.ref 1654), some (.ref 3296), some (.int i), some (.int v), some (.int w)], [], S2)) (i := .istore 6) (nx := 853) (tg := 0) rfl rfl rfl rfl ?_
  refine lw_st (i := .goto 3) (nx := 856) (tg := 856) rfl rfl rfl rfl ?_
  exact hn _ _ S2 (lw_fi hB1 hR1 he2 hM2 hs1 hs2 hk)
