/-! the abstract machine's stores, lengths, constants, switches are the small machine's -/
theorem hw_up_upd {g : Int → Int} {f : Nat → Int32} {i : Int} {x : Int32} {n : Nat} (hi : 0 ≤ i) (hf : ∀ q : Nat, q < n → g q = (f q).toInt) : ∀ q : Nat, q < n → hw_up g i x.toInt q = (upd f i.toNat x q).toInt := by
  intro q hq
  unfold hw_up upd
  by_cases h : (q : Int) = i
  · rw [if_pos h, if_pos (by omega)]
  · rw [if_neg h, if_neg (by omega), hf q hq]
theorem hw_up_updL {g : Int → Int} {f : Nat → Int64} {i : Int} {x : Int64} {n : Nat} (hi : 0 ≤ i) (hf : ∀ q : Nat, q < n → g q = (f q).toInt) : ∀ q : Nat, q < n → hw_up g i x.toInt q = (vp_updL f i.toNat x q).toInt := by
  intro q hq
  unfold hw_up vp_updL
  by_cases h : (q : Int) = i
  · rw [if_pos h, if_pos (by omega)]
  · rw [if_neg h, if_neg (by omega), hf q hq]
theorem hw_full_32 {kk : Nat} (hkk : kk = 0 ∨ kk = 2) {lo hi m i : Int} {x : Int32} {P : Prop} (h : bif hw_full kk lo hi m then P else ((lo ≤ x.toInt ∧ x.toInt ≤ hi + m * i) ∧ P)) : (lo ≤ x.toInt ∧ x.toInt ≤ hi + m * i) ∧ P := by
  cases hf : hw_full kk lo hi m with
  | false => rw [hf] at h; exact h
  | true =>
    rw [hf] at h
    refine ⟨?_, h⟩
    have hx := hw_i32 x
    unfold hw_iI at hx
    unfold hw_full at hf
    rcases hkk with q | q <;> subst q <;> (
      simp only [Bool.and_eq_true, decide_eq_true_eq, cond_false, Nat.beq] at hf
      obtain ⟨h1, h2, h3⟩ := hf
      subst h3
      rw [Int.zero_mul]
      omega)
theorem hw_full_64 {lo hi m i : Int} {x : Int64} {P : Prop} (h : bif hw_full 1 lo hi m then P else ((lo ≤ x.toInt ∧ x.toInt ≤ hi + m * i) ∧ P)) : (lo ≤ x.toInt ∧ x.toInt ≤ hi + m * i) ∧ P := by
  cases hf : hw_full 1 lo hi m with
  | false => rw [hf] at h; exact h
  | true =>
    rw [hf] at h
    refine ⟨?_, h⟩
    have hx := hw_i64 x
    unfold hw_iJ at hx
    unfold hw_full at hf
    simp only [Bool.and_eq_true, decide_eq_true_eq, cond_true, Nat.beq] at hf
    obtain ⟨h1, h2, h3⟩ := hf
    subst h3
    rw [Int.zero_mul]
    omega
section HWT
variable {TT : mm_T} {T : hw_T} {P : Nat → Option hw_P} {pool : Nat → Option mm_P} {ini : Bool} {oc : Nat} {scr : Nat × (Nat → Int32)} {pc nx tg : Nat} {L : hw_L} {st : List hw_V} {Z : hw_Z} {w : hw_K → Prop} {M : mm_L} {us : List Value} {S : mm_S}
theorem hw_wa_32 (hU : hw_U T) (hR : hw_RS T Z S) {a : Nat} (ha : T.2.2 a) {A : hw_A} (hT : T.1 (T.2.1 a) = .inr A) {kk : Nat} (hkk : kk = 0 ∨ kk = 2) {i : Int} {x : Int32} {v : hw_Z → Prop} (h : hw_wa kk A i x.toInt Z v) :
    ∃ (n : Nat) (f : Nat → Int32), (0 ≤ i ∧ i < n) ∧ S.2.2 a = .inl (kk, n, .inl f) ∧ ∃ Z', hw_RS T Z' (mm_up S a (.inl (kk, n, .inl (upd f i.toNat x)))) ∧ v Z' := by
  have hc := (hR.2 a ha).2
  rw [hT] at hc
  obtain ⟨k', n, ⟨lo, hi, m⟩ | c | j⟩ := A
  · obtain ⟨h1, h2, h34⟩ := hw_bif h
    obtain ⟨h3, h4⟩ := hw_full_32 hkk h34
    have h1 := Nat.eq_of_beq_eq_true h1
    subst h1
    obtain ⟨g, hg, hb⟩ := hc
    rcases hg with ⟨-, f, he, hf⟩ | ⟨q, -⟩
    · refine ⟨n, f, h2, he, Z, hw_RS_na hR ha hT ⟨hw_up g i x.toInt, Or.inl ⟨hkk, _, rfl, hw_up_upd h2.1 hf⟩, fun q hq => ?_⟩, h4⟩
      unfold hw_up
      by_cases e : (q : Int) = i
      · rw [if_pos e, e]
        exact h3
      · rw [if_neg e]
        exact hb q hq
    · rcases hkk with z | z <;> rw [z] at q <;> cases q
  · exact h.elim
  · obtain ⟨h1, h2, h3⟩ := hw_bif h
    have h1 := Nat.eq_of_beq_eq_true h1
    subst h1
    obtain ⟨g, hg, hb⟩ := hc
    rw [hg] at h3
    replace h3 := hw_nl_of h3
    rcases hb with ⟨-, f, he, hf⟩ | ⟨q, -⟩
    · exact ⟨n, f, h2, he, _, hw_RS_ta hU hR ha hT (Or.inl ⟨hkk, _, rfl, hw_up_upd h2.1 hf⟩), h3⟩
    · rcases hkk with z | z <;> rw [z] at q <;> cases q
theorem hw_wa_64 (hU : hw_U T) (hR : hw_RS T Z S) {a : Nat} (ha : T.2.2 a) {A : hw_A} (hT : T.1 (T.2.1 a) = .inr A) {i : Int} {x : Int64} {v : hw_Z → Prop} (h : hw_wa 1 A i x.toInt Z v) :
    ∃ (n : Nat) (f : Nat → Int64), (0 ≤ i ∧ i < n) ∧ S.2.2 a = .inl (1, n, .inr (.inl f)) ∧ ∃ Z', hw_RS T Z' (mm_up S a (.inl (1, n, .inr (.inl (vp_updL f i.toNat x))))) ∧ v Z' := by
  have hc := (hR.2 a ha).2
  rw [hT] at hc
  obtain ⟨k', n, ⟨lo, hi, m⟩ | c | j⟩ := A
  · obtain ⟨h1, h2, h34⟩ := hw_bif h
    obtain ⟨h3, h4⟩ := hw_full_64 h34
    have h1 := Nat.eq_of_beq_eq_true h1
    subst h1
    obtain ⟨g, hg, hb⟩ := hc
    rcases hg with ⟨q, -⟩ | ⟨-, f, he, hf⟩
    · rcases q with q | q <;> cases q
    · refine ⟨n, f, h2, he, Z, hw_RS_na hR ha hT ⟨hw_up g i x.toInt, Or.inr ⟨rfl, _, rfl, hw_up_updL h2.1 hf⟩, fun q hq => ?_⟩, h4⟩
      unfold hw_up
      by_cases e : (q : Int) = i
      · rw [if_pos e, e]
        exact h3
      · rw [if_neg e]
        exact hb q hq
  · exact h.elim
  · obtain ⟨h1, h2, h3⟩ := hw_bif h
    have h1 := Nat.eq_of_beq_eq_true h1
    subst h1
    obtain ⟨g, hg, hb⟩ := hc
    rw [hg] at h3
    replace h3 := hw_nl_of h3
    rcases hb with ⟨q, -⟩ | ⟨-, f, he, hf⟩
    · rcases q with q | q <;> cases q
    · exact ⟨n, f, h2, he, _, hw_RS_ta hU hR ha hT (Or.inr ⟨rfl, _, rfl, hw_up_updL h2.1 hf⟩), h3⟩
theorem hw1_iastore (hU : hw_U T) (hR : hw_RS T Z S) (h : hw_m TT T P .iastore pc nx tg L st Z w) (hL : hw_ls T L M) (hs : hw_st T st us) : hw_t1 T S w (mm_st1 TT ini oc pool scr .iastore nx M us S) := by
  replace h : hw_is T st Z (fun st Z => w (nx, L, st, Z)) := h
  unfold hw_is at h
  split at h
  · obtain ⟨hk, A, hT, h⟩ := hw_oa_inv h
    obtain ⟨_, _, rfl, ⟨x, rfl, rfl⟩, _, us1, rfl, ⟨j, rfl, rfl⟩, _, us', rfl, hv, hr⟩ := hs
    obtain ⟨a, rfl, ha, hka⟩ := hw_own hv hk
    obtain ⟨n, f, hi, he, Z', hR', h⟩ := hw_wa_32 hU hR ha (by rw [hka]; exact hT) (Or.inl rfl) h
    refine ⟨nx, M, _, _, L, _, Z', ?_, hL, hr, hR', hw_el_up ha, h⟩
    show mm_is nx M (.int x :: .int j :: .ref a :: us') S = _
    unfold mm_is
    dsimp only
    rw [he]
    exact if_pos (c := a < S.1 ∧ mm_inb j n = true) ⟨(hR.2 a ha).1, hw_inb hi⟩
  · exact h.elim
theorem hw_nar {x : Int32} (h : x.toInt = 0 ∨ x.toInt = 1) : vp_nar .boolean x = x := by
  rcases h with q | q
  · have : x = 0 := Int32.toInt_inj.mp (q.trans rfl)
    subst this
    decide +kernel
  · have : x = 1 := Int32.toInt_inj.mp (q.trans rfl)
    subst this
    decide +kernel
theorem hw1_bastore (hU : hw_U T) (hR : hw_RS T Z S) (h : hw_m TT T P .bastore pc nx tg L st Z w) (hL : hw_ls T L M) (hs : hw_st T st us) : hw_t1 T S w (mm_st1 TT ini oc pool scr .bastore nx M us S) := by
  replace h : hw_zs T st Z (fun st Z => w (nx, L, st, Z)) := h
  unfold hw_zs at h
  split at h
  · obtain ⟨hx, h⟩ := h
    obtain ⟨hk, A, hT, h⟩ := hw_oa_inv h
    obtain ⟨_, _, rfl, ⟨x, rfl, rfl⟩, _, us1, rfl, ⟨j, rfl, rfl⟩, _, us', rfl, hv, hr⟩ := hs
    obtain ⟨a, rfl, ha, hka⟩ := hw_own hv hk
    obtain ⟨n, f, hi, he, Z', hR', h⟩ := hw_wa_32 hU hR ha (by rw [hka]; exact hT) (Or.inr rfl) h
    refine ⟨nx, M, _, _, L, _, Z', ?_, hL, hr, hR', hw_el_up ha, h⟩
    show mm_zs nx M (.int x :: .int j :: .ref a :: us') S = _
    unfold mm_zs
    dsimp only
    rw [he]
    refine (if_pos (c := a < S.1 ∧ mm_inb j n = true) ⟨(hR.2 a ha).1, hw_inb hi⟩).trans ?_
    rw [hw_nar hx]
    rfl
  · exact h.elim
theorem hw1_lastore (hU : hw_U T) (hR : hw_RS T Z S) (h : hw_m TT T P .lastore pc nx tg L st Z w) (hL : hw_ls T L M) (hs : hw_st T st us) : hw_t1 T S w (mm_st1 TT ini oc pool scr .lastore nx M us S) := by
  replace h : hw_js T st Z (fun st Z => w (nx, L, st, Z)) := h
  unfold hw_js at h
  split at h
  · obtain ⟨hk, A, hT, h⟩ := hw_oa_inv h
    obtain ⟨_, _, rfl, ⟨x, rfl, rfl⟩, _, us1, rfl, ⟨j, rfl, rfl⟩, _, us', rfl, hv, hr⟩ := hs
    obtain ⟨a, rfl, ha, hka⟩ := hw_own hv hk
    obtain ⟨n, f, hi, he, Z', hR', h⟩ := hw_wa_64 hU hR ha (by rw [hka]; exact hT) h
    refine ⟨nx, M, _, _, L, _, Z', ?_, hL, hr, hR', hw_el_up ha, h⟩
    show mm_js nx M (.long x :: .int j :: .ref a :: us') S = _
    unfold mm_js
    dsimp only
    rw [he]
    exact if_pos (c := a < S.1 ∧ mm_inb j n = true) ⟨(hR.2 a ha).1, hw_inb hi⟩
  · exact h.elim
theorem hw_len {e : mm_E} {A : hw_A} (h : hw_cok T Z (.inr A) e) : ∃ q, e = .inl (A.1, A.2.1, q) := by
  obtain ⟨k', n, ⟨lo, hi, m⟩ | c | j⟩ := A
  · obtain ⟨g, ⟨-, f, he, -⟩ | ⟨rfl, f, he, -⟩, -⟩ := h
    · exact ⟨_, he⟩
    · exact ⟨_, he⟩
  · obtain ⟨-, f, he, -⟩ := h
    exact ⟨_, he⟩
  · obtain ⟨g, -, ⟨-, f, he, -⟩ | ⟨rfl, f, he, -⟩⟩ := h
    · exact ⟨_, he⟩
    · exact ⟨_, he⟩
theorem hw1_arraylength (hR : hw_RS T Z S) (h : hw_m TT T P .arraylength pc nx tg L st Z w) (hL : hw_ls T L M) (hs : hw_st T st us) : hw_t1 T S w (mm_st1 TT ini oc pool scr .arraylength nx M us S) := by
  replace h : hw_al TT T st (fun st => w (nx, L, st, Z)) := h
  unfold hw_al at h
  split at h
  · obtain ⟨hk, ⟨kk, n, sp⟩, hT, h⟩ := hw_oa_inv h
    dsimp only at h
    obtain ⟨h1, h⟩ := hw_bif h
    rw [Bool.and_eq_true] at h1
    obtain ⟨_, us', rfl, hv, hr⟩ := hs
    obtain ⟨a, rfl, ha, hka⟩ := hw_own hv hk
    obtain ⟨hlt, hc⟩ := hR.2 a ha
    rw [hka, hT] at hc
    obtain ⟨q, he⟩ := hw_len hc
    refine ⟨nx, M, _, S, L, _, Z, ?_, hL, hw_st_ie (a := Int32.ofNat n) (Int32.toInt_ofNat_of_lt (Nat.blt_eq.mp h1.2)) hr, hR, hw_el_rf _ _, h⟩
    show mm_al TT scr nx M (.ref a :: us') S = _
    unfold mm_al
    dsimp only
    rw [if_neg (hw_nbig hR ha), he]
    exact if_pos (c := a < S.1 ∧ kk < mm_nk TT) ⟨hlt, Nat.blt_eq.mp h1.1⟩
  · exact h.elim
theorem hw1_ldc (hR : hw_RS T Z S) (hP : hw_pk P pool) {x : Nat} (h : hw_m TT T P (.ldc x) pc nx tg L st Z w) (hL : hw_ls T L M) (hs : hw_st T st us) : hw_t1 T S w (mm_st1 TT ini oc pool scr (.ldc x) nx M us S) := by
  unfold hw_m at h
  dsimp only at h
  split at h
  · rename_i c hx
    obtain ⟨v, hp, hv⟩ := hP _ _ hx
    refine ⟨nx, M, _, S, L, _, Z, ?_, hL, hw_st_ie (a := v) hv hs, hR, hw_el_rf _ _, h⟩
    show mm_lc1 pool x nx M us S = _
    unfold mm_lc1
    rw [hp]
  · rename_i k hx
    have hp : pool x = some (.inr (.inr (.inr (.inr (.inr k))))) := hP _ _ hx
    refine ⟨nx, M, _, S, L, _, Z, ?_, hL, hw_st_v (v := .inr (.inr (1000000 + k))) (u := .ref (mm_big + k)) ⟨_, rfl, Or.inr ⟨k, rfl, rfl⟩⟩ hs, hR, hw_el_rf _ _, h⟩
    show mm_lc1 pool x nx M us S = _
    unfold mm_lc1
    rw [hp]
  · exact h.elim
theorem hw1_ldc_w (hR : hw_RS T Z S) (hP : hw_pk P pool) {x : Nat} (h : hw_m TT T P (.ldc_w x) pc nx tg L st Z w) (hL : hw_ls T L M) (hs : hw_st T st us) : hw_t1 T S w (mm_st1 TT ini oc pool scr (.ldc_w x) nx M us S) := by
  unfold hw_m at h
  dsimp only at h
  split at h
  · rename_i c hx
    obtain ⟨v, hp, hv⟩ := hP _ _ hx
    refine ⟨nx, M, _, S, L, _, Z, ?_, hL, hw_st_ie (a := v) hv hs, hR, hw_el_rf _ _, h⟩
    show mm_lcw pool x nx M us S = _
    unfold mm_lcw
    rw [hp]
  · exact h.elim
theorem hw1_ldc2_w (hR : hw_RS T Z S) (hP : hw_pk P pool) {x : Nat} (h : hw_m TT T P (.ldc2_w x) pc nx tg L st Z w) (hL : hw_ls T L M) (hs : hw_st T st us) : hw_t1 T S w (mm_st1 TT ini oc pool scr (.ldc2_w x) nx M us S) := by
  unfold hw_m at h
  dsimp only at h
  split at h
  · rename_i c hx
    obtain ⟨v, hp, hv⟩ := hP _ _ hx
    refine ⟨nx, M, _, S, L, _, Z, ?_, hL, hw_st_je (a := v) hv hs, hR, hw_el_rf _ _, h⟩
    show mm_lc2 pool x nx M us S = _
    unfold mm_lc2
    rw [hp]
  · exact h.elim
theorem hw1_if_acmp (hR : hw_RS T Z S) {o : ClassFile.ACond} {off : Int} (h : hw_m TT T P (.if_acmp o off) pc nx tg L st Z w) (hL : hw_ls T L M) (hs : hw_st T st us) : hw_to T S Z w (mm_st0 (.if_acmp o off) pc nx tg M us S) := by
  replace h : hw_ac T st (fun st => w (tg, L, st, Z)) (fun st => w (nx, L, st, Z)) := h
  unfold hw_ac at h
  split at h
  · obtain ⟨h1, h, h'⟩ := hw_bif h
    rw [Bool.and_eq_true] at h1
    obtain ⟨_, _, rfl, hv, _, us', rfl, hv', hr⟩ := hs
    obtain ⟨a, rfl, ha, -⟩ := hw_own hv h1.1
    obtain ⟨b, rfl, hb, -⟩ := hw_own hv' h1.2
    have q0 := hR.1
    have qa := (hR.2 a ha).1
    have qb := (hR.2 b hb).1
    have hc : b < mm_big ∧ a < mm_big := ⟨Nat.lt_of_lt_of_le qb q0, Nat.lt_of_lt_of_le qa q0⟩
    have key : mm_st0 (.if_acmp o off) pc nx tg M (.ref a :: .ref b :: us') S = some (match o with
      | .eq => if b = a then tg else nx
      | .ne => if b = a then nx else tg, M, us', S) := if_pos hc
    rw [key]
    cases o with
    | eq =>
      by_cases e : b = a
      · exact ⟨tg, M, us', L, _, congrArg (fun t => some (t, M, us', S)) (if_pos e), hL, hr, h⟩
      · exact ⟨nx, M, us', L, _, congrArg (fun t => some (t, M, us', S)) (if_neg e), hL, hr, h'⟩
    | ne =>
      by_cases e : b = a
      · exact ⟨nx, M, us', L, _, congrArg (fun t => some (t, M, us', S)) (if_pos e), hL, hr, h'⟩
      · exact ⟨tg, M, us', L, _, congrArg (fun t => some (t, M, us', S)) (if_neg e), hL, hr, h⟩
  · exact h.elim
theorem hw_sw_ts {x : Int} {v : Nat → Prop} {df : Nat} : ∀ (offs : List Int) (c : Int), hw_sw x v df (hw_tsl pc c offs) → (∃ (i : Nat) (off : Int), offs[i]? = some off ∧ x = c + i ∧ v ((pc : Int) + off).toNat) ∨ ((x < c ∨ c + offs.length ≤ x) ∧ v df) := by
  intro offs
  induction offs with
  | nil =>
    intro c h
    refine Or.inr ⟨?_, h⟩
    simp only [List.length_nil]
    omega
  | cons o r ih =>
    intro c h
    by_cases e : x = c
    · exact Or.inl ⟨0, o, rfl, by omega, h.1 e⟩
    · rcases ih (c + 1) (h.2 e) with ⟨i, off, h1, h2, h3⟩ | ⟨h1, h2⟩
      · exact Or.inl ⟨i + 1, off, h1, by omega, h3⟩
      · refine Or.inr ⟨?_, h2⟩
        simp only [List.length_cons]
        omega
theorem hw1_tableswitch {df lo hi : Int} {offs : Array Int} (h : hw_m TT T P (.tableswitch df lo hi offs) pc nx tg L st Z w) (hL : hw_ls T L M) (hs : hw_st T st us) : hw_to T S Z w (mm_st0 (.tableswitch df lo hi offs) pc nx tg M us S) := by
  replace h : hw_i1 st (fun x r => hw_ts pc df lo hi offs.toList x (fun t => w (t, L, r, Z))) := h
  obtain ⟨x, r, rfl, h⟩ := hw_i1_inv h
  obtain ⟨_, us', rfl, ⟨a, rfl, rfl⟩, hr⟩ := hs
  obtain ⟨h1, h⟩ := hw_bif h
  simp only [Bool.and_eq_true, decide_eq_true_eq, List.all_eq_true] at h1
  obtain ⟨h1, h2, h3⟩ := h1
  have hlen : offs.toList.length = offs.size := rfl
  rcases hw_sw_ts _ _ h with ⟨i, off, e1, e2, e3⟩ | ⟨e1, e2⟩
  · have hil : i < offs.toList.length := (List.getElem?_eq_some_iff.mp e1).1
    have ho : offs[(a.toInt - lo).toNat]? = some off := by
      have : (a.toInt - lo).toNat = i := by omega
      rw [this, ← Array.getElem?_toList]
      exact e1
    have hp := h3 off (List.mem_of_getElem? e1)
    refine ⟨((pc : Int) + off).toNat, M, us', L, r, ?_, hL, hr, e3⟩
    show mm_tsw pc df lo hi offs M (.int a :: us') S = _
    unfold mm_tsw
    dsimp only
    rw [if_neg (by omega), ho]
    exact if_pos hp
  · refine ⟨((pc : Int) + df).toNat, M, us', L, r, ?_, hL, hr, e2⟩
    show mm_tsw pc df lo hi offs M (.int a :: us') S = _
    unfold mm_tsw
    dsimp only
    rw [if_pos (by omega), if_pos h2]
theorem hw_sw_lk {x : Int} {v : Nat → Prop} {df : Int} : ∀ (ps : List (Int × Int)), (∀ o ∈ ps, 0 ≤ (pc : Int) + o.2) → 0 ≤ (pc : Int) + df → hw_sw x v ((pc : Int) + df).toNat (hw_lsl pc ps) → 0 ≤ (pc : Int) + Op.lookupswitch.offset ps df x ∧ v ((pc : Int) + Op.lookupswitch.offset ps df x).toNat := by
  intro ps
  induction ps with
  | nil => intro _ h0 h; exact ⟨h0, h⟩
  | cons o r ih =>
    intro hp h0 h
    obtain ⟨c, t⟩ := o
    rw [Op.lookupswitch.offset_cons]
    by_cases e : c = x
    · rw [if_pos e]
      exact ⟨hp _ List.mem_cons_self, h.1 e.symm⟩
    · rw [if_neg e]
      exact ih (fun o ho => hp o (List.mem_cons_of_mem _ ho)) h0 (h.2 (fun q => e q.symm))
theorem hw1_lookupswitch {df : Int} {ps : Array (Int × Int)} (h : hw_m TT T P (.lookupswitch df ps) pc nx tg L st Z w) (hL : hw_ls T L M) (hs : hw_st T st us) : hw_to T S Z w (mm_st0 (.lookupswitch df ps) pc nx tg M us S) := by
  replace h : hw_i1 st (fun x r => hw_lk pc df ps.toList x (fun t => w (t, L, r, Z))) := h
  obtain ⟨x, r, rfl, h⟩ := hw_i1_inv h
  obtain ⟨_, us', rfl, ⟨a, rfl, rfl⟩, hr⟩ := hs
  obtain ⟨h1, h⟩ := hw_bif h
  rw [Bool.and_eq_true, Bool.and_eq_true] at h1
  obtain ⟨h1, h2, h3⟩ := h1
  have h2 := of_decide_eq_true h2
  have h3 : ∀ o ∈ ps.toList, 0 ≤ (pc : Int) + o.2 := fun o ho => of_decide_eq_true (List.all_eq_true.mp h3 o ho)
  obtain ⟨q1, q2⟩ := hw_sw_lk _ h3 h2 h
  exact ⟨_, M, us', L, r, if_pos ⟨h1, q1⟩, hL, hr, q2⟩
end HWT
