/-! steps of the law and of its wrappers -/
def lw_W (scr : Nat × (Nat → Int32)) (d f : Nat) (Q : mm_O → mm_S → Prop) (k : mm_Kf) : Prop := ∃ n, mm_wp pg_G pg_TT scr (mm_ex pg_G pg_TT scr d) f Q n k
def lw_pl (i : Instr) : Bool := match i with
  | .return_ | .ireturn | .lreturn | .areturn | .invokespecial _ | .invokevirtual _ | .invokestatic _ => false
  | _ => true
/-- what a call must bring about -/
def lw_po (scr : Nat × (Nat → Int32)) (d f : Nat) (Q : mm_O → mm_S → Prop) (pc nx : Nat) (L : mm_L) (r : List Value) (o : mm_O) (S' : mm_S) : Prop := match o with
  | .inl v => lw_W scr d f Q (nx, L, v.toList ++ r, S')
  | .inr (ec, a) => match mm_hnd pg_G f pc ec with
    | some (some h) => (a < S'.1 ∧ ∃ vs, S'.2.2 a = .inr (ec, vs)) ∧ lw_W scr d f Q (h, L, [.ref a], S')
    | some none => Q (.inr (ec, a)) S'
    | none => False
section LW
variable {scr : Nat × (Nat → Int32)} {d f g pc nx tg x : Nat} {Q : mm_O → mm_S → Prop} {L : mm_L} {st r : List Value} {S S' : mm_S} {k : mm_Kf} {i : Instr}
theorem lw_st (hc : mm_code pg_G f pc = some (i, nx, tg)) (hp : lw_pl i = true) (ht : mm_thr pg_G f pc = none) (hk : mm_stp pg_TT (mm_ini pg_G f) (mm_oc pg_G f) (mm_pool pg_G f) scr i pc nx tg L st S = some k) (h : lw_W scr d f Q k) : lw_W scr d f Q (pc, L, st, S) := by
  obtain ⟨n, hn⟩ := h
  refine ⟨n + 1, ?_⟩
  show mm_body pg_G pg_TT scr (mm_ex pg_G pg_TT scr d) f Q (mm_wp pg_G pg_TT scr (mm_ex pg_G pg_TT scr d) f Q n) pc L st S (mm_code pg_G f pc)
  rw [hc]
  have key : (match mm_thr pg_G f pc with
      | some ec => S.1 + 1 ≤ mm_lc pg_TT ∧ S.2.1 + 6 ≤ mm_lsl pg_TT ∧ (st.map Value.category).sum ≤ 8 ∧ Q (.inr (ec, S.1)) (mm_add S 6 (.inr (ec, [])))
      | none => match mm_st0 i pc nx tg L st S with
        | some k => mm_wp pg_G pg_TT scr (mm_ex pg_G pg_TT scr d) f Q n k
        | none => match mm_st1 pg_TT (mm_ini pg_G f) (mm_oc pg_G f) (mm_pool pg_G f) scr i nx L st S with
          | some k => mm_wp pg_G pg_TT scr (mm_ex pg_G pg_TT scr d) f Q n k
          | none => match mm_st2 pg_TT (mm_pool pg_G f) scr i nx tg L st S with
            | some k => mm_wp pg_G pg_TT scr (mm_ex pg_G pg_TT scr d) f Q n k
            | none => False) := by
    rw [ht]
    unfold mm_stp at hk
    dsimp only
    cases e0 : mm_st0 i pc nx tg L st S with
    | some k0 =>
      rw [e0] at hk
      cases hk
      exact hn
    | none =>
      rw [e0] at hk
      dsimp only at hk ⊢
      cases e1 : mm_st1 pg_TT (mm_ini pg_G f) (mm_oc pg_G f) (mm_pool pg_G f) scr i nx L st S with
      | some k0 =>
        rw [e1] at hk
        cases hk
        exact hn
      | none =>
        rw [e1] at hk
        dsimp only at hk ⊢
        rw [hk]
        exact hn
  cases i
  all_goals first | exact key | exact (Bool.false_ne_true hp).elim
theorem lw_rt {v : Int32} (hc : mm_code pg_G f pc = some (.ireturn, nx, tg)) (hr : ∃ ty, mm_rt pg_G f = some ty ∧ narrow ty (.int v) = .int v) (hQ : Q (.inl (some (.int v))) S) : lw_W scr d f Q (pc, L, [.int v], S) := by
  refine ⟨1, ?_⟩
  show mm_body pg_G pg_TT scr (mm_ex pg_G pg_TT scr d) f Q _ pc L [.int v] S (mm_code pg_G f pc)
  rw [hc]
  exact ⟨v, rfl, hr, hQ⟩
theorem lw_cl {n : Nat} (h0 : S.1 ≤ mm_lc pg_TT ∧ S.2.1 ≤ mm_lsl pg_TT) (h1 : mm_na' pg_G g ≤ st.length) (h2 : ((st.drop (mm_na' pg_G g)).map Value.category).sum ≤ 8) (h3 : mm_rok pg_TT (mm_stc pg_G g) (mm_oc pg_G g) (st.take (mm_na' pg_G g)).reverse S = true) (hx : mm_ex pg_G pg_TT scr d g (st.take (mm_na' pg_G g)).reverse S (lw_po scr d f Q pc nx L (st.drop (mm_na' pg_G g)))) :
    ∃ n, mm_cl pg_G pg_TT (mm_ex pg_G pg_TT scr d) f g (mm_wp pg_G pg_TT scr (mm_ex pg_G pg_TT scr d) f Q n) Q pc nx L st S := by
  obtain ⟨o, S', hq, hx'⟩ := mm_ex_det _ _ _ _ _ hx
  rcases o with v | ⟨ec, a⟩
  · obtain ⟨n, hn⟩ := hq
    refine ⟨n, h0, h1, h2, h3, mm_ex_mono _ _ _ _ _ _ (fun o2 S2 e => ?_) hx'⟩
    obtain ⟨rfl, rfl⟩ := e
    exact hn
  · unfold lw_po at hq
    dsimp only at hq
    cases hh : mm_hnd pg_G f pc ec with
    | none =>
      rw [hh] at hq
      exact hq.elim
    | some u =>
      rw [hh] at hq
      cases u with
      | none =>
        refine ⟨0, h0, h1, h2, h3, mm_ex_mono _ _ _ _ _ _ (fun o2 S2 e => ?_) hx'⟩
        obtain ⟨rfl, rfl⟩ := e
        dsimp only
        rw [hh]
        exact hq
      | some h =>
        obtain ⟨ha, n, hn⟩ := hq
        refine ⟨n, h0, h1, h2, h3, mm_ex_mono _ _ _ _ _ _ (fun o2 S2 e => ?_) hx'⟩
        obtain ⟨rfl, rfl⟩ := e
        dsimp only
        rw [hh]
        exact ⟨ha, hn⟩
theorem lw_iv (hc : mm_code pg_G f pc = some (.invokevirtual x, nx, tg)) (hp : mm_pool pg_G f x = some (.inr (.inl (g + 1)))) (hs : mm_stc pg_G (g + 1) = false) (hi : mm_ini pg_G (g + 1) = false) (h0 : S.1 ≤ mm_lc pg_TT ∧ S.2.1 ≤ mm_lsl pg_TT) (h1 : mm_na' pg_G (g + 1) ≤ st.length) (h2 : ((st.drop (mm_na' pg_G (g + 1))).map Value.category).sum ≤ 8) (h3 : mm_rok pg_TT (mm_stc pg_G (g + 1)) (mm_oc pg_G (g + 1)) (st.take (mm_na' pg_G (g + 1))).reverse S = true) (hx : mm_ex pg_G pg_TT scr d (g + 1) (st.take (mm_na' pg_G (g + 1))).reverse S (lw_po scr d f Q pc nx L (st.drop (mm_na' pg_G (g + 1))))) : lw_W scr d f Q (pc, L, st, S) := by
  obtain ⟨n, hn⟩ := lw_cl (n := 0) h0 h1 h2 h3 hx
  refine ⟨n + 1, ?_⟩
  show mm_body pg_G pg_TT scr (mm_ex pg_G pg_TT scr d) f Q (mm_wp pg_G pg_TT scr (mm_ex pg_G pg_TT scr d) f Q n) pc L st S (mm_code pg_G f pc)
  rw [hc]
  unfold mm_body
  dsimp only
  rw [hp]
  exact ⟨hs, hi, hn⟩
theorem lw_is (hc : mm_code pg_G f pc = some (.invokestatic x, nx, tg)) (hp : mm_pool pg_G f x = some (.inr (.inl (g + 1)))) (hs : mm_stc pg_G (g + 1) = true) (h0 : S.1 ≤ mm_lc pg_TT ∧ S.2.1 ≤ mm_lsl pg_TT) (h1 : mm_na' pg_G (g + 1) ≤ st.length) (h2 : ((st.drop (mm_na' pg_G (g + 1))).map Value.category).sum ≤ 8) (h3 : mm_rok pg_TT (mm_stc pg_G (g + 1)) (mm_oc pg_G (g + 1)) (st.take (mm_na' pg_G (g + 1))).reverse S = true) (hx : mm_ex pg_G pg_TT scr d (g + 1) (st.take (mm_na' pg_G (g + 1))).reverse S (lw_po scr d f Q pc nx L (st.drop (mm_na' pg_G (g + 1))))) : lw_W scr d f Q (pc, L, st, S) := by
  obtain ⟨n, hn⟩ := lw_cl (n := 0) h0 h1 h2 h3 hx
  refine ⟨n + 1, ?_⟩
  show mm_body pg_G pg_TT scr (mm_ex pg_G pg_TT scr d) f Q (mm_wp pg_G pg_TT scr (mm_ex pg_G pg_TT scr d) f Q n) pc L st S (mm_code pg_G f pc)
  rw [hc]
  unfold mm_body
  dsimp only
  rw [hp]
  exact ⟨hs, hn⟩
theorem lw_ph {ec a h : Nat} (hh : mm_hnd pg_G f pc ec = some (some h)) (ha : a < S'.1 ∧ ∃ vs, S'.2.2 a = .inr (ec, vs)) (hw : lw_W scr d f Q (h, L, [.ref a], S')) : lw_po scr d f Q pc nx L r (.inr (ec, a)) S' := by
  unfold lw_po
  dsimp only
  rw [hh]
  exact ⟨ha, hw⟩
theorem lw_if {o : ClassFile.Cond} {off : Int} {v : Int32} (hc : mm_code pg_G f pc = some (.ifCond o off, nx, tg)) (ht : mm_thr pg_G f pc = none) (h1 : mm_icmp o v 0 = true → lw_W scr d f Q (tg, L, r, S)) (h2 : ¬ mm_icmp o v 0 = true → lw_W scr d f Q (nx, L, r, S)) : lw_W scr d f Q (pc, L, .int v :: r, S) := by
  by_cases h : mm_icmp o v 0 = true
  · refine lw_st hc rfl ht (k := (tg, L, r, S)) ?_ (h1 h)
    show some (if mm_icmp o v 0 = true then tg else nx, L, r, S) = _
    rw [if_pos h]
  · refine lw_st hc rfl ht (k := (nx, L, r, S)) ?_ (h2 h)
    show some (if mm_icmp o v 0 = true then tg else nx, L, r, S) = _
    rw [if_neg h]
theorem lw_if2 {o : ClassFile.Cond} {off : Int} {v w : Int32} (hc : mm_code pg_G f pc = some (.if_icmp o off, nx, tg)) (ht : mm_thr pg_G f pc = none) (h1 : mm_icmp o v w = true → lw_W scr d f Q (tg, L, r, S)) (h2 : ¬ mm_icmp o v w = true → lw_W scr d f Q (nx, L, r, S)) : lw_W scr d f Q (pc, L, .int w :: .int v :: r, S) := by
  by_cases h : mm_icmp o v w = true
  · refine lw_st hc rfl ht (k := (tg, L, r, S)) ?_ (h1 h)
    show some (if mm_icmp o v w = true then tg else nx, L, r, S) = _
    rw [if_pos h]
  · refine lw_st hc rfl ht (k := (nx, L, r, S)) ?_ (h2 h)
    show some (if mm_icmp o v w = true then tg else nx, L, r, S) = _
    rw [if_neg h]
/-- the law's own array of one long -/
theorem lw_js {y : Int64} {e : Nat → Int64} (hO : S.2.2 3296 = .inl (1, 1, .inr (.inl e))) (hS : 3297 ≤ S.1) (hc : mm_code pg_G f pc = some (.lastore, nx, tg)) (ht : mm_thr pg_G f pc = none) (h : lw_W scr d f Q (nx, L, r, mm_up S 3296 (.inl (1, 1, .inr (.inl (vp_updL e 0 y)))))) : lw_W scr d f Q (pc, L, .long y :: .int 0 :: .ref 3296 :: r, S) := by
  refine lw_st hc rfl ht ?_ h
  have e1 : mm_js nx L (.long y :: .int 0 :: .ref 3296 :: r) S = some (nx, L, r, mm_up S 3296 (.inl (1, 1, .inr (.inl (vp_updL e 0 y))))) := by
    unfold mm_js
    (try dsimp only)
    rw [hO]
    (try dsimp only)
    exact (if_pos ⟨(show (3296 : Nat) < S.1 by omega), by decide⟩).trans rfl
  show (match mm_js nx L (.long y :: .int 0 :: .ref 3296 :: r) S with
    | some k => some k
    | none => _) = _
  rw [e1]
end LW
theorem lw_us {S : mm_S} {a : Nat} {e : mm_E} : (mm_up S a e).2.2 a = e := by
  show va_up S.2.2 a e a = e
  exact va_up_self _ _ _
theorem lw_as {S : mm_S} {n : Nat} {e : mm_E} : (mm_add S n e).2.2 S.1 = e := by
  show va_up S.2.2 S.1 e S.1 = e
  exact va_up_self _ _ _
theorem lw_RS {T : hw_T} {Z : hw_Z} {S S' : mm_S} (h : hw_RS T Z S) (h1 : S.1 ≤ S'.1) (h2 : S'.1 ≤ mm_big) (h3 : ∀ a, T.2.2.1 a → S'.2.2 a = S.2.2 a) : hw_RS T Z S' := by
  refine ⟨h2, fun a ha => ?_⟩
  obtain ⟨q1, q2⟩ := h.2 a ha
  refine ⟨Nat.lt_of_lt_of_le q1 h1, ?_⟩
  rw [h3 a ha]
  exact q2
/-- the class between calls and the law's array -/
def lw_B (f : Int) (g : Int → Int) (Do : Option dT) (Yo : Option qY) (S : mm_S) : Prop := (∃ Z, hv_I f g Do Yo Z ∧ hw_RS w3_T Z S) ∧ (∃ e : Nat → Int64, S.2.2 3296 = .inl (1, 1, .inr (.inl e))) ∧ 3297 ≤ S.1
def lw_R (S S' : mm_S) : Prop := S.1 ≤ S'.1 ∧ S'.1 ≤ S.1 + 1 ∧ S'.2.1 ≤ S.2.1 + 6 ∧ ∀ b, 1654 ≤ b → b < 3296 → S'.2.2 b = S.2.2 b
theorem w3_no {b : Nat} (h : 1654 ≤ b) : ¬ w3_ob b = true := fun e => by
  have := w3_in_ob e
  omega
theorem lw_lim {S : mm_S} (h : hw_room pg_TT S) : S.1 ≤ mm_lc pg_TT ∧ S.2.1 ≤ mm_lsl pg_TT := ⟨Nat.le_of_succ_le h.1, Nat.le_trans (Nat.le_add_right _ _) h.2⟩
theorem lw_big {n : Nat} (h : n ≤ mm_lc pg_TT) : n ≤ mm_big := Nat.le_trans h (by decide)
theorem lw_rk0 {Z : hw_Z} {S : mm_S} {as : List Value} (h : hw_RS w3_T Z S) : mm_rok pg_TT false 0 (.ref 0 :: as) S = true := by
  obtain ⟨h1, h2⟩ := h.2 0 (show w3_ob 0 = true by rfl)
  obtain ⟨vs, h3, -⟩ : ∃ vs, S.2.2 0 = .inr (0, vs) ∧ True := by
    have e : hw_sh w3_T 0 = hv_KT 2 := rfl
    rw [e] at h2
    obtain ⟨vs, h3, -⟩ := h2
    exact ⟨vs, h3, True.intro⟩
  unfold mm_rok
  dsimp only
  rw [h3, decide_eq_true h1]
  rfl
theorem lw_own0 : w3_T.2.2.1 0 ∧ w3_T.2.1 0 = (2, 0) ∧ (2 : Nat) < 1000000 := ⟨rfl, rfl, by decide⟩
theorem lw_v0 : hw_v w3_T (hw_R 2 0) (.ref 0) := ⟨0, rfl, Or.inl lw_own0⟩
section LX
variable {f : Int} {g : Int → Int} {Do : Option dT} {Yo : Option qY} {Z : hw_Z} {S S' : mm_S} {e : Nat → Int64}
theorem lw_o1 (hO : S.2.2 3296 = .inl (1, 1, .inr (.inl e))) (he : hw_el w3_T S S') : S'.2.2 3296 = .inl (1, 1, .inr (.inl e)) := (he.2.2 3296 (w3_no (by decide))).trans hO
theorem lw_dn (hI : hv_I f g Do Yo Z) (hR : hw_RS w3_T Z S') (he : hw_el w3_T S S') (hO : S.2.2 3296 = .inl (1, 1, .inr (.inl e))) (h3 : 3297 ≤ S.1) : lw_B f g Do Yo S' ∧ lw_R S S' := by
  obtain ⟨e1, e2, e3⟩ := he
  exact ⟨⟨⟨Z, hI, hR⟩, ⟨e, lw_o1 hO ⟨e1, e2, e3⟩⟩, by omega⟩, by omega, by omega, by omega, fun b h1 _ => e3 b (w3_no h1)⟩
theorem lw_dr {e' : Nat → Int64} (hI : hv_I f g Do Yo Z) (hR : hw_RS w3_T Z S') (he : hw_el w3_T S S') (h3 : 3297 ≤ S.1) : lw_B f g Do Yo (mm_up S' 3296 (.inl (1, 1, .inr (.inl e')))) ∧ lw_R S (mm_up S' 3296 (.inl (1, 1, .inr (.inl e')))) := by
  obtain ⟨e1, e2, e3⟩ := he
  have u : ∀ b, b < 3296 → (mm_up S' 3296 (.inl (1, 1, .inr (.inl e')))).2.2 b = S'.2.2 b := fun b hb => va_up_ne _ _ (Nat.ne_of_lt hb)
  refine ⟨⟨⟨Z, hI, lw_RS hR (Nat.le_refl _) hR.1 (fun a ha => u a ?_)⟩, ⟨e', lw_us⟩, show 3297 ≤ S'.1 by omega⟩, show S.1 ≤ S'.1 by omega, show S'.1 ≤ S.1 + 1 by omega, show S'.2.1 ≤ S.2.1 + 6 by omega, fun b h1 h2 => (u b h2).trans (e3 b (w3_no h1))⟩
  have := w3_in_ob ha
  omega
theorem lw_dt {ec : Nat} (hI : hv_I f g Do Yo Z) (hR : hw_RS w3_T Z S') (he : hw_el w3_T S S') (hO : S.2.2 3296 = .inl (1, 1, .inr (.inl e))) (h3 : 3297 ≤ S.1) (hr : hw_room pg_TT S) : lw_B f g Do Yo (mm_add S' 6 (.inr (ec, []))) ∧ lw_R S (mm_add S' 6 (.inr (ec, []))) := by
  have hO' := lw_o1 hO he
  obtain ⟨e1, e2, e3⟩ := he
  have u : ∀ b, b < S'.1 → (mm_add S' 6 (.inr (ec, []))).2.2 b = S'.2.2 b := fun b hb => va_up_ne _ _ (Nat.ne_of_lt hb)
  refine ⟨⟨⟨Z, hI, lw_RS hR (Nat.le_succ _) ?_ (fun a ha => u a ?_)⟩, ⟨e, (u 3296 (by omega)).trans hO'⟩, show 3297 ≤ S'.1 + 1 by omega⟩, show S.1 ≤ S'.1 + 1 by omega, show S'.1 + 1 ≤ S.1 + 1 by omega, show S'.2.1 + 6 ≤ S.2.1 + 6 by omega, fun b h1 h2 => (u b (by omega)).trans (e3 b (w3_no h1))⟩
  · show S'.1 + 1 ≤ mm_big
    rw [e1]
    exact lw_big hr.1
  · have := w3_in_ob ha
    omega
theorem lw_ha {ec : Nat} : S'.1 < (mm_add S' 6 (.inr (ec, []))).1 ∧ ∃ vs, (mm_add S' 6 (.inr (ec, []))).2.2 S'.1 = .inr (ec, vs) := ⟨Nat.lt_succ_self _, [], lw_as⟩
end LX
theorem lw_fe {e : Nat → Int64} {y : Int32} {x : Int} (h : y.toInt = x) : (vp_updL e 0 y.toInt64 0).toInt = x := by
  have e1 : vp_updL e 0 y.toInt64 0 = y.toInt64 := if_pos rfl
  rw [e1, Int32.toInt_toInt64]
  exact h
