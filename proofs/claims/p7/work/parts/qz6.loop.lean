/-! the law's loop, and its run -/
theorem lw_ic {i : Int32} {k : Nat} (hi : i.toInt = 6 * (k : Int)) (hk : k ≤ 511) : (i + Int32.ofInt 6).toInt = 6 * ((k + 1 : Nat) : Int) := by
  have e : (Int32.ofInt 6).toInt = 6 := by decide
  have a := hw_add32 i (Int32.ofInt 6) ⟨by omega, by omega⟩
  omega
theorem lw_le {n : Nat} (h : n ≤ 3072) : (Int32.ofNat n - (Int8.ofInt 6).toInt32).toInt = (n : Int) - 6 := by
  have e : ((Int8.ofInt 6).toInt32).toInt = 6 := by decide
  have e1 : (Int32.ofNat n).toInt = n := Int32.toInt_ofNat_of_lt (by omega)
  have a := hw_sub32 (Int32.ofNat n) ((Int8.ofInt 6).toInt32) ⟨by omega, by omega⟩
  omega
theorem lw_an (x : Int32) : 0 ≤ (x &&& (Int8.ofInt 15).toInt32).toInt ∧ (x &&& (Int8.ofInt 15).toInt32).toInt ≤ 15 := by
  have e : ((Int8.ofInt 15).toInt32).toInt = 15 := by decide
  have a := (hw_and32 x ((Int8.ofInt 15).toInt32)).2
  rw [e] at a
  exact a (by decide)
section LO
variable {scr : Nat × (Nat → Int32)} {Q : mm_O → mm_S → Prop} {S : mm_S} {L : mm_L} {v : Int32}
theorem lw_al {r : List Value} (h : lw_W scr 1000 281 Q (27, L, .int (Int32.ofNat scr.1) :: r, S)) : lw_W scr 1000 281 Q (26, L, .ref mm_big :: r, S) := by
  refine lw_st (i := .arraylength) (nx := 27) (tg := 0) rfl rfl rfl ?_ h
  have e1 : mm_al pg_TT scr 27 L (.ref mm_big :: r) S = some (27, L, .int (Int32.ofNat scr.1) :: r, S) := by
    unfold mm_al
    (try dsimp only)
    exact if_pos rfl
  show (match mm_al pg_TT scr 27 L (.ref mm_big :: r) S with
    | some k => some k
    | none => mm_st2 pg_TT (mm_pool pg_G 281) scr .arraylength 27 0 L (.ref mm_big :: r) S) = _
  rw [e1]
theorem lw_sw {p : Nat} {n : Int} (hv : v.toInt = n) (hp : mm_tsw 40 816 0 14 #[76, 152, 180, 193, 209, 261, 341, 385, 441, 509, 622, 647, 691, 732, 788] L [.int (Int32.ofInt n)] S = some (p, L, [], S)) (h : lw_W scr 1000 281 Q (p, L, [], S)) : lw_W scr 1000 281 Q (40, L, [.int v], S) := by
  refine lw_st (i := .tableswitch 816 0 14 #[76, 152, 180, 193, 209, 261, 341, 385, 441, 509, 622, 647, 691, 732, 788]) (nx := 116) (tg := 0) rfl rfl rfl ?_ h
  have e : v = Int32.ofInt n := by rw [← hv, Int32.ofInt_toInt]
  rw [e]
  show (match mm_tsw 40 816 0 14 #[76, 152, 180, 193, 209, 261, 341, 385, 441, 509, 622, 647, 691, 732, 788] L [.int (Int32.ofInt n)] S with
    | some k => some k
    | none => _) = _
  rw [hp]
end LO
def lw_QQ (o : mm_O) (S : mm_S) : Prop := o = .inl (some (.int 1)) ∧ S.1 ≤ 601024 ∧ S.2.1 ≤ 7293034
theorem lw_loop {scr : Nat × (Nat → Int32)} (hN : scr.1 ≤ 3072) : ∀ (m k : Nat) (i : Int32) (a b : Option Value) (S : mm_S), 512 ≤ k + m → k ≤ 512 → i.toInt = 6 * (k : Int) → lw_J k S → lw_W scr 1000 281 lw_QQ (23, [some (.ref mm_big), some (.ref 0), some (.ref 1654), some (.ref 3296), some (.int i), a, b], [], S) := by
  intro m
  induction m with
  | zero =>
    intro k i a b S hm hk hi hj
    refine lw_st (i := .iload 4) (nx := 25) (tg := 0) rfl rfl rfl rfl ?_
    refine lw_st (i := .aload_n 0) (nx := 26) (tg := 0) rfl rfl rfl rfl ?_
    refine lw_al ?_
    refine lw_st (i := .bipush 6) (nx := 29) (tg := 0) rfl rfl rfl rfl ?_
    refine lw_st (i := .isub) (nx := 30) (tg := 0) rfl rfl rfl rfl ?_
    refine lw_if2 (nx := 33) (tg := 862) rfl rfl (fun q => ?_) (fun q => ?_)
    · refine lw_st (i := .iconst 1) (nx := 863) (tg := 0) rfl rfl rfl rfl ?_
      obtain ⟨f, er, g, Do, Yo, hB, hM, hs1, hs2⟩ := hj
      exact lw_rt (nx := 864) (tg := 0) rfl ⟨_, rfl, rfl⟩ ⟨rfl, by omega, by omega⟩
    · exfalso
      have h0 : i.toInt ≤ (Int32.ofNat scr.1 - (Int8.ofInt 6).toInt32).toInt := by
        have q1 : ¬ (Int32.ofNat scr.1 - (Int8.ofInt 6).toInt32) < i := fun z => q (decide_eq_true z)
        rw [Int32.lt_iff_toInt_lt] at q1
        omega
      rw [lw_le hN] at h0
      omega
  | succ m ih =>
    intro k i a b S hm hk hi hj
    refine lw_st (i := .iload 4) (nx := 25) (tg := 0) rfl rfl rfl rfl ?_
    refine lw_st (i := .aload_n 0) (nx := 26) (tg := 0) rfl rfl rfl rfl ?_
    refine lw_al ?_
    refine lw_st (i := .bipush 6) (nx := 29) (tg := 0) rfl rfl rfl rfl ?_
    refine lw_st (i := .isub) (nx := 30) (tg := 0) rfl rfl rfl rfl ?_
    refine lw_if2 (nx := 33) (tg := 862) rfl rfl (fun q => ?_) (fun q => ?_)
    · refine lw_st (i := .iconst 1) (nx := 863) (tg := 0) rfl rfl rfl rfl ?_
      obtain ⟨f, er, g, Do, Yo, hB, hM, hs1, hs2⟩ := hj
      exact lw_rt (nx := 864) (tg := 0) rfl ⟨_, rfl, rfl⟩ ⟨rfl, by omega, by omega⟩
    · have h0 : i.toInt ≤ (Int32.ofNat scr.1 - (Int8.ofInt 6).toInt32).toInt := by
        have q1 : ¬ (Int32.ofNat scr.1 - (Int8.ofInt 6).toInt32) < i := fun z => q (decide_eq_true z)
        rw [Int32.lt_iff_toInt_lt] at q1
        omega
      rw [lw_le hN] at h0
      have hk' : k ≤ 511 := by omega
      have hl : 6 * k + 6 ≤ scr.1 := by omega
      have hn : ∀ a b S', lw_J (k + 1) S' → lw_W scr 1000 281 lw_QQ (856, [some (.ref mm_big), some (.ref 0), some (.ref 1654), some (.ref 3296), some (.int i), a, b], [], S') := fun a b S' hj' => by
        refine lw_st (k := (859, [some (.ref mm_big), some (.ref 0), some (.ref 1654), some (.ref 3296), some (.int (i + Int32.ofInt 6)), a, b], [], S')) (i := .iinc 4 6) (nx := 859) (tg := 0) rfl rfl rfl rfl ?_
        refine lw_st (i := .goto (-836)) (nx := 862) (tg := 23) rfl rfl rfl rfl ?_
        exact ih (k + 1) (i + Int32.ofInt 6) a b S' (by omega) (by omega) (lw_ic hi hk') hj'
      refine lw_st (i := .aload_n 0) (nx := 34) (tg := 0) rfl rfl rfl rfl ?_
      refine lw_st (i := .iload 4) (nx := 36) (tg := 0) rfl rfl rfl rfl ?_
      refine lw_ia (nx := 37) (tg := 0) rfl rfl (lw_i0 hi hl) ?_
      refine lw_st (i := .bipush 15) (nx := 39) (tg := 0) rfl rfl rfl rfl ?_
      refine lw_st (i := .iand) (nx := 40) (tg := 0) rfl rfl rfl rfl ?_
      have hv := lw_an (scr.2 i.toNatClampNeg)
      generalize hV : (scr.2 i.toNatClampNeg &&& (Int8.ofInt 15).toInt32) = V at hv
      show lw_W scr 1000 281 lw_QQ (40, [some (.ref mm_big), some (.ref 0), some (.ref 1654), some (.ref 3296), some (.int i), a, b], [.int (scr.2 i.toNatClampNeg &&& (Int8.ofInt 15).toInt32)], S)
      rw [hV]
      have c : V.toInt = 0 ∨ V.toInt = 1 ∨ V.toInt = 2 ∨ V.toInt = 3 ∨ V.toInt = 4 ∨ V.toInt = 5 ∨ V.toInt = 6 ∨ V.toInt = 7 ∨ V.toInt = 8 ∨ V.toInt = 9 ∨ V.toInt = 10 ∨ V.toInt = 11 ∨ V.toInt = 12 ∨ V.toInt = 13 ∨ V.toInt = 14 ∨ V.toInt = 15 := by omega
      rcases c with c | c | c | c | c | c | c | c | c | c | c | c | c | c | c | c
      · refine lw_sw (n := 0) c (p := 116) rfl ?_
        exact lk_feed hj hk' hi hl hn
      · refine lw_sw (n := 1) c (p := 192) rfl ?_
        exact lk_end hj hk' hi hl hn
      · refine lw_sw (n := 2) c (p := 220) rfl ?_
        exact lk_wrong hj hk' hi hl hn
      · refine lw_sw (n := 3) c (p := 233) rfl ?_
        exact lk_explore hj hk' hi hl hn
      · refine lw_sw (n := 4) c (p := 249) rfl ?_
        exact lk_state hj hk' hi hl hn
      · refine lw_sw (n := 5) c (p := 301) rfl ?_
        exact lk_outcome hj hk' hi hl hn
      · refine lw_sw (n := 6) c (p := 381) rfl ?_
        exact lk_solve hj hk' hi hl hn
      · refine lw_sw (n := 7) c (p := 425) rfl ?_
        exact lk_value hj hk' hi hl hn
      · refine lw_sw (n := 8) c (p := 481) rfl ?_
        exact lk_within hj hk' hi hl hn
      · refine lw_sw (n := 9) c (p := 549) rfl ?_
        exact lk_claim hj hk' hi hl hn
      · refine lw_sw (n := 10) c (p := 662) rfl ?_
        exact lk_claimResult hj hk' hi hl hn
      · refine lw_sw (n := 11) c (p := 687) rfl ?_
        exact lk_check hj hk' hi hl hn
      · refine lw_sw (n := 12) c (p := 731) rfl ?_
        exact lk_bits hj hk' hi hl hn
      · refine lw_sw (n := 13) c (p := 772) rfl ?_
        exact lk_part hj hk' hi hl hn
      · refine lw_sw (n := 14) c (p := 828) rfl ?_
        exact lk_count hj hk' hi hl hn
      · refine lw_sw (n := 15) c (p := 856) rfl ?_
        obtain ⟨f, er, g, Do, Yo, hB, hM, hs1, hs2⟩ := hj
        exact hn a b S ⟨f, er, g, Do, Yo, hB, hM, by omega, by omega⟩
theorem lw_end0 : fx_mem fl_T1 3296 = .inl (1, 1, .inr (.inl (fun _ => 0))) := by
  have e : fx_look fl_T1 3296 = some (.inl (1, 1, [])) := by decide +kernel
  unfold fx_mem
  rw [e]
  rfl
theorem lw_J0 : lw_J 0 (3297, 529432, fx_mem fl_T1) := ⟨0, 0, fun _ => 0, none, none, ⟨⟨w3_Z, w3_I, w3_RS _⟩, ⟨_, lw_end0⟩, Nat.le_refl _⟩, ⟨w4_Z, w4_I, w4_RS _⟩, Nat.le_refl _, Nat.le_refl _⟩
theorem lw_runs (L : Nat) (xs : Nat → Int32) (h : L ≤ 3072) : mm_ex pg_G pg_TT (L, xs) 1001 281 [.ref mm_big] pg_S0 (fun o S => o = .inl (some (.int 1)) ∧ S.1 ≤ 601024 ∧ S.2.1 ≤ 7293034) := by
  refine fl_start ?_
  show lw_W (L, xs) 1000 281 lw_QQ (20, [some (.ref mm_big), some (.ref 0), some (.ref 1654), some (.ref 3296), none, none, none], [], (3297, 529432, fx_mem fl_T1))
  refine lw_st (i := .iconst 0) (nx := 21) (tg := 0) rfl rfl rfl rfl ?_
  refine lw_st (k := (23, [some (.ref mm_big), some (.ref 0), some (.ref 1654), some (.ref 3296), some (.int 0), none, none], [], (3297, 529432, fx_mem fl_T1))) (i := .istore 4) (nx := 23) (tg := 0) rfl rfl rfl rfl ?_
  exact lw_loop h 512 0 0 none none _ (by decide) (by decide) (by decide) lw_J0
