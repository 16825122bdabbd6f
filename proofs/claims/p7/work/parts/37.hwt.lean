/-! the abstract machine's stores, lengths, constants, switches are the small machine's -/
theorem hw_up_upd {g : Int → Int} {f : Nat → Int32} {i : Int} {x : Int32} {n : Nat} (hi : 0 ≤ i) (hf : ∀ q : Nat, q < n → g q = (f q).toInt) : ∀ q : Nat, q < n → hw_up g i x.toInt q = (upd f i.toNat x q).toInt := by
  intro q hq
  unfold hw_up upd
  by_cases h : (q : Int) = i
  · rw [if_pos h, if_pos (by omega)]
  · rw [if_neg h, if_neg (by omega), hf q hq]
theorem hw_up_updL {g : Int → Int} {f : Nat → Int64} {i : Int} {x : Int64} {n : Nat} (hi : 0 ≤ i) (hf : ∀ q : Nat, q < n → g q = (f q).toInt) : ∀ q : Nat, q < n → hw_up g i x.toInt q = (vp_updL f i.toNat x q).toInt := by
  intro q hq
  unfold hw_up vp_updL
  by_cases h : (q : Int) = i
  · rw [if_pos h, if_pos (by omega)]
  · rw [if_neg h, if_neg (by omega), hf q hq]
theorem mm_nbg (j : Nat) : ¬ mm_big + 1000 + j = mm_big := by omega
theorem mm_nlb {j : Nat} : ¬ mm_big + j < mm_big := by omega
theorem mm_bj {j j' : Nat} : mm_big + j' = mm_big + j ↔ (j : Int) = j' := by omega
theorem hw_st_cat' {T : hw_T} : ∀ {st : List hw_V} {us : List Value}, hw_st T st us → us.map Value.category = st.map hw_cat := by
  intro st
  induction st with
  | nil => intro us h; rw [show us = [] from h]; rfl
  | cons v r ih =>
    intro us h
    obtain ⟨u, us', rfl, hv, h⟩ := h
    rw [List.map_cons, List.map_cons, ih h, hw_v_cat hv]
section HWT
variable {TT : mm_T} {T : hw_T} {P : Nat → Option hw_P} {pool : Nat → Option mm_P} {ini : Bool} {oc : Nat} {scr : Nat × (Nat → Int32)} {pc nx tg : Nat} {L : hw_L} {st : List hw_V} {Z : hw_Z} {w : hw_K → Prop} {M : mm_L} {us : List Value} {S : mm_S}
theorem hw_ao_ok {b : Option (Int × Int × Int)} {p x : Int} {P : Prop} (h : hw_ao b p x P) : hw_ab b p x ∧ P := by
  rcases b with _ | ⟨lo, hi, m⟩
  · exact ⟨trivial, h⟩
  · exact h
theorem hw_wa_32 (hU : hw_U T) (hR : hw_RS T Z S) {a : Nat} (ha : T.2.2.1 a) {A : hw_A} (hT : hw_sh T a = .inr A) {kk : Nat} (hkk : kk = 0 ∨ kk = 2) {p : Int} {x : Int32} {v : hw_Z → Prop} (h : hw_wa (T.2.2.2 (T.2.1 a).2) kk A (T.2.1 a).2 p x.toInt Z v) :
    ∃ (n : Nat) (f : Nat → Int32), (0 ≤ p ∧ p < n) ∧ S.2.2 a = .inl (kk, n, .inl f) ∧ ∃ Z', hw_RS T Z' (mm_up S a (.inl (kk, n, .inl (upd f p.toNat x)))) ∧ v Z' := by
  have hc := (hR.2 a ha).2
  rw [hT] at hc
  obtain ⟨k', ln, ⟨tr, b⟩ | ⟨c, o⟩⟩ := A
  · obtain ⟨h1, hq, h5⟩ := hw_bif h
    have h1 := Nat.eq_of_beq_eq_true h1
    subst h1
    obtain ⟨n, g, hn, hg, hta, hb⟩ := hc
    have hp := hw_lq_ok hq hn
    obtain ⟨hx, h6⟩ := hw_ao_ok h5
    have hb' : ∀ q : Nat, q < n → hw_ab b q (hw_up g p x.toInt q) := by
      intro q hq
      unfold hw_up
      by_cases e : (q : Int) = p
      · rw [if_pos e, e]
        exact hx
      · rw [if_neg e]
        exact hb q hq
    rcases hg with ⟨-, f, he, hf⟩ | ⟨q, -⟩
    · exact ⟨n, f, hp, he, _, hw_RS_ia hU hR ha hT hn hta (Or.inl ⟨hkk, _, rfl, hw_up_upd hp.1 hf⟩) hb', hw_az_ok h6⟩
    · rcases hkk with z | z <;> rw [z] at q <;> cases q
  · exact h.elim
theorem hw_wa_64 (hU : hw_U T) (hR : hw_RS T Z S) {a : Nat} (ha : T.2.2.1 a) {A : hw_A} (hT : hw_sh T a = .inr A) {p : Int} {x : Int64} {v : hw_Z → Prop} (h : hw_wa (T.2.2.2 (T.2.1 a).2) 1 A (T.2.1 a).2 p x.toInt Z v) :
    ∃ (n : Nat) (f : Nat → Int64), (0 ≤ p ∧ p < n) ∧ S.2.2 a = .inl (1, n, .inr (.inl f)) ∧ ∃ Z', hw_RS T Z' (mm_up S a (.inl (1, n, .inr (.inl (vp_updL f p.toNat x))))) ∧ v Z' := by
  have hc := (hR.2 a ha).2
  rw [hT] at hc
  obtain ⟨k', ln, ⟨tr, b⟩ | ⟨c, o⟩⟩ := A
  · obtain ⟨h1, hq, h5⟩ := hw_bif h
    have h1 := Nat.eq_of_beq_eq_true h1
    subst h1
    obtain ⟨n, g, hn, hg, hta, hb⟩ := hc
    have hp := hw_lq_ok hq hn
    obtain ⟨hx, h6⟩ := hw_ao_ok h5
    have hb' : ∀ q : Nat, q < n → hw_ab b q (hw_up g p x.toInt q) := by
      intro q hq
      unfold hw_up
      by_cases e : (q : Int) = p
      · rw [if_pos e, e]
        exact hx
      · rw [if_neg e]
        exact hb q hq
    rcases hg with ⟨q, -⟩ | ⟨-, f, he, hf⟩
    · rcases q with q | q <;> cases q
    · exact ⟨n, f, hp, he, _, hw_RS_ia hU hR ha hT hn hta (Or.inr ⟨rfl, _, rfl, hw_up_updL hp.1 hf⟩) hb', hw_az_ok h6⟩
  · exact h.elim
theorem hw1_iastore (hU : hw_U T) (hR : hw_RS T Z S) (h : hw_m TT T P .iastore pc nx tg L st Z w) (hL : hw_ls T L M) (hs : hw_st T st us) : hw_t1 T S w (mm_st1 TT ini oc pool scr .iastore nx M us S) := by
  replace h : hw_is T st Z (fun st Z => w (nx, L, st, Z)) := h
  unfold hw_is at h
  split at h
  · obtain ⟨hk, A, hT, h⟩ := hw_oa_inv (hw_rmk_of h)
    obtain ⟨_, _, rfl, ⟨x, rfl, rfl⟩, _, us1, rfl, ⟨j, rfl, rfl⟩, _, us', rfl, hv, hr⟩ := hs
    obtain ⟨a, rfl, ha, hka⟩ := hw_own hv hk
    obtain ⟨n, f, hi, he, Z', hR', h⟩ := hw_wa_32 hU hR ha (A := A) (by unfold hw_sh; rw [hka]; exact hT) (Or.inl rfl) (by rw [hka]; exact h)
    refine ⟨nx, M, _, _, L, _, Z', ?_, hL, hr, hR', hw_el_up ha, h⟩
    show mm_is nx M (.int x :: .int j :: .ref a :: us') S = _
    unfold mm_is
    dsimp only
    rw [he]
    exact if_pos (c := a < S.1 ∧ mm_inb j n = true) ⟨(hR.2 a ha).1, hw_inb hi⟩
  · exact h.elim
theorem hw_nar {x : Int32} (h : x.toInt = 0 ∨ x.toInt = 1) : vp_nar .boolean x = x := by
  rcases h with q | q
  · have : x = 0 := Int32.toInt_inj.mp (q.trans rfl)
    subst this
    decide +kernel
  · have : x = 1 := Int32.toInt_inj.mp (q.trans rfl)
    subst this
    decide +kernel
theorem hw1_bastore (hU : hw_U T) (hR : hw_RS T Z S) (h : hw_m TT T P .bastore pc nx tg L st Z w) (hL : hw_ls T L M) (hs : hw_st T st us) : hw_t1 T S w (mm_st1 TT ini oc pool scr .bastore nx M us S) := by
  replace h : hw_zs T st Z (fun st Z => w (nx, L, st, Z)) := h
  unfold hw_zs at h
  split at h
  · obtain ⟨hx, h⟩ := h
    obtain ⟨hk, A, hT, h⟩ := hw_oa_inv (hw_rmk_of h)
    obtain ⟨_, _, rfl, ⟨x, rfl, rfl⟩, _, us1, rfl, ⟨j, rfl, rfl⟩, _, us', rfl, hv, hr⟩ := hs
    obtain ⟨a, rfl, ha, hka⟩ := hw_own hv hk
    obtain ⟨n, f, hi, he, Z', hR', h⟩ := hw_wa_32 hU hR ha (A := A) (by unfold hw_sh; rw [hka]; exact hT) (Or.inr rfl) (by rw [hka]; exact h)
    refine ⟨nx, M, _, _, L, _, Z', ?_, hL, hr, hR', hw_el_up ha, h⟩
    show mm_zs nx M (.int x :: .int j :: .ref a :: us') S = _
    unfold mm_zs
    dsimp only
    rw [he]
    refine (if_pos (c := a < S.1 ∧ mm_inb j n = true) ⟨(hR.2 a ha).1, hw_inb hi⟩).trans ?_
    rw [hw_nar hx]
    rfl
  · exact h.elim
theorem hw1_lastore (hU : hw_U T) (hR : hw_RS T Z S) (h : hw_m TT T P .lastore pc nx tg L st Z w) (hL : hw_ls T L M) (hs : hw_st T st us) : hw_t1 T S w (mm_st1 TT ini oc pool scr .lastore nx M us S) := by
  replace h : hw_js T st Z (fun st Z => w (nx, L, st, Z)) := h
  unfold hw_js at h
  split at h
  · obtain ⟨hk, A, hT, h⟩ := hw_oa_inv (hw_rmk_of h)
    obtain ⟨_, _, rfl, ⟨x, rfl, rfl⟩, _, us1, rfl, ⟨j, rfl, rfl⟩, _, us', rfl, hv, hr⟩ := hs
    obtain ⟨a, rfl, ha, hka⟩ := hw_own hv hk
    obtain ⟨n, f, hi, he, Z', hR', h⟩ := hw_wa_64 hU hR ha (A := A) (by unfold hw_sh; rw [hka]; exact hT) (by rw [hka]; exact h)
    refine ⟨nx, M, _, _, L, _, Z', ?_, hL, hr, hR', hw_el_up ha, h⟩
    show mm_js nx M (.long x :: .int j :: .ref a :: us') S = _
    unfold mm_js
    dsimp only
    rw [he]
    exact if_pos (c := a < S.1 ∧ mm_inb j n = true) ⟨(hR.2 a ha).1, hw_inb hi⟩
  · exact h.elim
theorem hw_len {e : mm_E} {A : hw_A} {i : Int} (h : hw_cok T Z i (.inr A) e) : ∃ (n : Nat) (q : _), e = .inl (A.1, n, q) ∧ (n : Int) = hw_ln A.2.1 (T.2.2.2 i) := by
  obtain ⟨k', ln, ⟨tr, b⟩ | ⟨c, o⟩⟩ := A
  · obtain ⟨n, g, hn, ⟨-, f, he, -⟩ | ⟨rfl, f, he, -⟩, -⟩ := h
    · exact ⟨n, _, he, hn⟩
    · exact ⟨n, _, he, hn⟩
  · obtain ⟨-, n, f, hn, he, -⟩ := h
    exact ⟨n, _, he, hn⟩
theorem hw1_arraylength (hU : hw_U T) (hR : hw_RS T Z S) (h : hw_al TT T st (fun st => w (nx, L, st, Z))) (hL : hw_ls T L M) (hs : hw_st T st us) : hw_t1 T S w (mm_st1 TT ini oc pool scr .arraylength nx M us S) := by
  unfold hw_al at h
  split at h
  · rename_i k i r
    obtain ⟨hk, ⟨kk, ln, sp⟩, hT, h⟩ := hw_oa_inv (hw_rmk_of h)
    dsimp only at h
    obtain ⟨h1, h⟩ := hw_bif h
    obtain ⟨_, us', rfl, hv, hr⟩ := hs
    obtain ⟨a, rfl, ha, hka⟩ := hw_own hv hk
    obtain ⟨hlt, hc⟩ := hR.2 a ha
    unfold hw_sh at hc
    rw [hka] at hc
    dsimp only at hc
    rw [hT] at hc
    obtain ⟨n, q, he, hn⟩ := hw_len hc
    have hrm := hU.2.2.2 i
    have h2 : n < 2 ^ 31 ∧ w (nx, L, .inl (n : Int) :: r, Z) := by
      rcases ln with _ | m
      · have hn : (n : Int) = T.2.2.2 i := hn
        refine ⟨by omega, ?_⟩
        rw [hn]
        exact h hrm
      · have hn : (n : Int) = (m : Int) := hn
        have hn : n = m := by omega
        subst hn
        obtain ⟨h2, h⟩ := hw_bif h
        exact ⟨Nat.blt_eq.mp h2, h⟩
    refine ⟨nx, M, _, S, L, _, Z, ?_, hL, hw_st_ie (a := Int32.ofNat n) (Int32.toInt_ofNat_of_lt h2.1) hr, hR, hw_el_rf _ _, h2.2⟩
    show mm_al TT scr nx M (.ref a :: us') S = _
    unfold mm_al
    dsimp only
    rw [if_neg (hw_nbig hR ha), he]
    exact if_pos (c := a < S.1 ∧ kk < mm_nk TT) ⟨hlt, Nat.blt_eq.mp h1⟩
  · exact h.elim
theorem hw2_arraylength (hU : hw_U T) (hR : hw_RS T Z S) (h : hw_m TT T P .arraylength pc nx tg L st Z w) (hL : hw_ls T L M) (hs : hw_st T st us) : hw_t1 T S w (mm_stp TT ini oc pool scr .arraylength pc nx tg M us S) := by
  replace h : hw_aln TT T st (fun st => w (nx, L, st, Z)) := h
  unfold hw_aln at h
  split at h
  · rename_i k i r
    cases hk : Nat.beq k 1000001 with
    | false =>
      rw [hk, cond_false] at h
      exact hw_stp1 rfl (hw1_arraylength (pool := pool) (ini := ini) (oc := oc) (scr := scr) hU hR h hL hs)
    | true =>
      rw [hk, cond_true] at h
      obtain ⟨hi, h⟩ := hw_nxk_of h
      obtain ⟨_, us', rfl, hv, hr⟩ := hs
      obtain ⟨j, rfl, rfl, ho, he⟩ := hw_oarr (TT := TT) hv hk hi
      have hS := hR.1
      refine hw_stp2 rfl ?_ ⟨nx, M, _, S, L, _, Z, ?_, hL, hw_st_i (a := Int32.ofNat (mm_sb TT j).length) hr, hR, hw_el_rf _ _, h _ (hw_i32 _) ?_⟩
      · show mm_al TT scr nx M (.ref (mm_big + 1000 + j) :: us') S = none
        unfold mm_al
        dsimp only
        rw [if_neg (mm_nbg j)]
        split
        · exact if_neg (fun z => mm_nlt hS z.1)
        · rfl
      · show mm_sal TT nx M (.ref (mm_big + 1000 + j) :: us') S = _
        unfold mm_sal
        dsimp only
        rw [he]
        exact if_pos ho
      · rfl
  · exact h.elim
theorem hw1_ldc (hR : hw_RS T Z S) (hP : hw_pk P pool) {x : Nat} (h : hw_m TT T P (.ldc x) pc nx tg L st Z w) (hL : hw_ls T L M) (hs : hw_st T st us) : hw_t1 T S w (mm_st1 TT ini oc pool scr (.ldc x) nx M us S) := by
  unfold hw_m at h
  dsimp only at h
  split at h
  · rename_i c hx
    obtain ⟨v, hp, hv⟩ := hP _ _ hx
    refine ⟨nx, M, _, S, L, _, Z, ?_, hL, hw_st_ie (a := v) hv hs, hR, hw_el_rf _ _, h⟩
    show mm_lc1 pool x nx M us S = _
    unfold mm_lc1
    rw [hp]
  · rename_i k hx
    have hp : pool x = some (.inr (.inr (.inr (.inr (.inr k))))) := hP _ _ hx
    obtain ⟨hb, h⟩ := hw_bif h
    rw [Bool.and_eq_true] at hb
    refine ⟨nx, M, _, S, L, _, Z, ?_, hL, hw_st_v (v := .inr (.inr (1000000, (k : Int)))) (u := .ref (mm_big + k)) ⟨_, rfl, Or.inr (Or.inl ⟨rfl, k, rfl, rfl⟩)⟩ hs, hR, hw_el_rf _ _, h⟩
    show mm_lc1 pool x nx M us S = _
    unfold mm_lc1
    rw [hp]
    exact if_pos ⟨Nat.blt_eq.mp hb.1, Nat.blt_eq.mp hb.2⟩
  · exact h.elim
theorem hw1_ldc_w (hR : hw_RS T Z S) (hP : hw_pk P pool) {x : Nat} (h : hw_m TT T P (.ldc_w x) pc nx tg L st Z w) (hL : hw_ls T L M) (hs : hw_st T st us) : hw_t1 T S w (mm_st1 TT ini oc pool scr (.ldc_w x) nx M us S) := by
  unfold hw_m at h
  dsimp only at h
  split at h
  · rename_i c hx
    obtain ⟨v, hp, hv⟩ := hP _ _ hx
    refine ⟨nx, M, _, S, L, _, Z, ?_, hL, hw_st_ie (a := v) hv hs, hR, hw_el_rf _ _, h⟩
    show mm_lcw pool x nx M us S = _
    unfold mm_lcw
    rw [hp]
  · exact h.elim
theorem hw1_ldc2_w (hR : hw_RS T Z S) (hP : hw_pk P pool) {x : Nat} (h : hw_m TT T P (.ldc2_w x) pc nx tg L st Z w) (hL : hw_ls T L M) (hs : hw_st T st us) : hw_t1 T S w (mm_st1 TT ini oc pool scr (.ldc2_w x) nx M us S) := by
  unfold hw_m at h
  dsimp only at h
  split at h
  · rename_i c hx
    obtain ⟨v, hp, hv⟩ := hP _ _ hx
    refine ⟨nx, M, _, S, L, _, Z, ?_, hL, hw_st_je (a := v) hv hs, hR, hw_el_rf _ _, h⟩
    show mm_lc2 pool x nx M us S = _
    unfold mm_lc2
    rw [hp]
  · exact h.elim
theorem hw1_if_acmp (hU : hw_U T) (hR : hw_RS T Z S) {o : ClassFile.ACond} {off : Int} (h : hw_ac T o st (fun st => w (tg, L, st, Z)) (fun st => w (nx, L, st, Z))) (hL : hw_ls T L M) (hs : hw_st T st us) : hw_to T S Z w (mm_st0 (.if_acmp o off) pc nx tg M us S) := by
  unfold hw_ac at h
  split at h
  · rename_i k i k' i' r
    obtain ⟨h1, h⟩ := hw_bif h
    rw [Bool.and_eq_true] at h1
    obtain ⟨_, _, rfl, hv, _, us', rfl, hv', hr⟩ := hs
    obtain ⟨a, rfl, ha, hka⟩ := hw_own hv h1.1
    obtain ⟨b, rfl, hb, hkb⟩ := hw_own hv' h1.2
    have q0 := hR.1
    have qa := (hR.2 a ha).1
    have qb := (hR.2 b hb).1
    have hc : b < mm_big ∧ a < mm_big := ⟨Nat.lt_of_lt_of_le qb q0, Nat.lt_of_lt_of_le qa q0⟩
    have key : ∀ o', mm_st0 (.if_acmp o' off) pc nx tg M (.ref a :: .ref b :: us') S = some (match o' with
      | .eq => if b = a then tg else nx
      | .ne => if b = a then nx else tg, M, us', S) := fun _ => if_pos hc
    have hab : b = a ↔ (k = k' ∧ i = i') := by
      constructor
      · intro e
        subst e
        rw [hka] at hkb
        cases hkb
        exact ⟨rfl, rfl⟩
      · intro e
        obtain ⟨rfl, rfl⟩ := e
        exact hU.1 b a hb ha (by rw [hka, hkb])
    rw [key]
    cases o with
    | eq =>
      dsimp only at h
      cases hk : Nat.beq k k' with
      | true =>
        rw [hk] at h
        have hk := Nat.eq_of_beq_eq_true hk
        by_cases e : i = i'
        · exact ⟨tg, M, us', L, _, congrArg (fun t => some (t, M, us', S)) (if_pos (hab.mpr ⟨hk, e⟩)), hL, hr, h.1 e⟩
        · exact ⟨nx, M, us', L, _, congrArg (fun t => some (t, M, us', S)) (if_neg (fun q => e (hab.mp q).2)), hL, hr, h.2 e⟩
      | false =>
        rw [hk] at h
        exact ⟨nx, M, us', L, _, congrArg (fun t => some (t, M, us', S)) (if_neg (fun q => by have := (hab.mp q).1; rw [this, Nat.beq_refl] at hk; cases hk)), hL, hr, h⟩
    | ne =>
      dsimp only at h
      cases hk : Nat.beq k k' with
      | true =>
        rw [hk] at h
        have hk := Nat.eq_of_beq_eq_true hk
        by_cases e : i = i'
        · exact ⟨nx, M, us', L, _, congrArg (fun t => some (t, M, us', S)) (if_pos (hab.mpr ⟨hk, e⟩)), hL, hr, h.2 e⟩
        · exact ⟨tg, M, us', L, _, congrArg (fun t => some (t, M, us', S)) (if_neg (fun q => e (hab.mp q).2)), hL, hr, h.1 e⟩
      | false =>
        rw [hk] at h
        exact ⟨tg, M, us', L, _, congrArg (fun t => some (t, M, us', S)) (if_neg (fun q => by have := (hab.mp q).1; rw [this, Nat.beq_refl] at hk; cases hk)), hL, hr, h⟩
  · exact h.elim
theorem hw2_if_acmp (hR : hw_RS T Z S) {o : ClassFile.ACond} {off : Int} {k k' : Nat} {i i' : Int} {r : List hw_V} (hst : st = .inr (.inr (k, i)) :: .inr (.inr (k', i')) :: r) (hk : Nat.beq k 1000000 = true ∧ Nat.beq k' 1000000 = true) (h : hw_nxk TT (fun n _ => ((1 ≤ i ∧ i ≤ (n : Int)) ∧ (1 ≤ i' ∧ i' ≤ (n : Int))) ∧ (match o with
    | .eq => (i = i' → w (tg, L, r, Z)) ∧ (¬ i = i' → w (nx, L, r, Z))
    | .ne => (¬ i = i' → w (tg, L, r, Z)) ∧ (i = i' → w (nx, L, r, Z))))) (hL : hw_ls T L M) (hs : hw_st T st us) : hw_t1 T S w (mm_stp TT ini oc pool scr (.if_acmp o off) pc nx tg M us S) := by
  subst hst
  obtain ⟨⟨hi, hi'⟩, h⟩ := hw_nxk_of h
  obtain ⟨_, _, rfl, hv, _, us', rfl, hv', hr⟩ := hs
  obtain ⟨j, rfl, rfl, ho⟩ := hw_ostr (TT := TT) hv hk.1 hi
  obtain ⟨j', rfl, rfl, ho'⟩ := hw_ostr (TT := TT) hv' hk.2 hi'
  have e0 : mm_st0 (.if_acmp o off) pc nx tg M (.ref (mm_big + j) :: .ref (mm_big + j') :: us') S = none := if_neg (fun z => mm_nlb z.1)
  have key : ∀ o', mm_st2 TT pool scr (.if_acmp o' off) nx tg M (.ref (mm_big + j) :: .ref (mm_big + j') :: us') S = some (match o' with
      | .eq => if mm_big + j' = mm_big + j then tg else nx
      | .ne => if mm_big + j' = mm_big + j then nx else tg, M, us', S) := fun _ => if_pos ⟨ho', ho⟩
  refine hw_stp2 e0 rfl ?_
  rw [key]
  cases o with
  | eq =>
    dsimp only at h ⊢
    by_cases e : (j : Int) = j'
    · exact ⟨tg, M, us', S, L, r, Z, congrArg (fun t => some (t, M, us', S)) (if_pos (mm_bj.mpr e)), hL, hr, hR, hw_el_rf _ _, h.1 e⟩
    · exact ⟨nx, M, us', S, L, r, Z, congrArg (fun t => some (t, M, us', S)) (if_neg (fun q => e (mm_bj.mp q))), hL, hr, hR, hw_el_rf _ _, h.2 e⟩
  | ne =>
    dsimp only at h ⊢
    by_cases e : (j : Int) = j'
    · exact ⟨nx, M, us', S, L, r, Z, congrArg (fun t => some (t, M, us', S)) (if_pos (mm_bj.mpr e)), hL, hr, hR, hw_el_rf _ _, h.2 e⟩
    · exact ⟨tg, M, us', S, L, r, Z, congrArg (fun t => some (t, M, us', S)) (if_neg (fun q => e (mm_bj.mp q))), hL, hr, hR, hw_el_rf _ _, h.1 e⟩
theorem hw_lqe_ok {ln : Option Nat} {rm e : Int} {n : Nat} (h : hw_lqe ln rm e) (hn : (n : Int) = hw_ln ln rm) : e ≤ n := by
  rcases ln with _ | m
  · have hn : (n : Int) = rm := hn
    rw [hn]
    exact h
  · have hn : (n : Int) = m := hn
    rw [hn]
    exact h
theorem hw_nn32 {z : Int32} (h : 0 ≤ z.toInt) : ¬ z < 0 ∧ (z.toNatClampNeg : Int) = z.toInt := by
  refine ⟨fun q => ?_, ?_⟩
  · have := Int32.lt_iff_toInt_lt.mp q
    have h0 : (0 : Int32).toInt = 0 := rfl
    omega
  · show ((z.toInt.toNat : Nat) : Int) = z.toInt
    omega
theorem hw_cpf_ok {f g : Int → Int} {f0 g0 : Nat → Int32} {s d m : Int} {s' d' m' na nb : Nat} (hs : (s' : Int) = s) (hd : (d' : Int) = d) (hm : (m' : Int) = m) (hf : ∀ q : Nat, q < nb → f q = (f0 q).toInt) (hg : ∀ q : Nat, q < na → g q = (g0 q).toInt) (hb : s' + m' ≤ nb) : ∀ q : Nat, q < na → hw_cpf f g s d m q = (va_cpy f0 g0 s' d' m' q).toInt := by
  intro q hq
  unfold hw_cpf va_cpy
  by_cases c : d' ≤ q ∧ q < d' + m'
  · rw [if_pos c, if_pos (by omega), ← hf _ (by omega)]
    exact congrArg f (by omega)
  · rw [if_neg c, if_neg (by omega)]
    exact hg q hq
theorem hw2_copy (hU : hw_U T) (hR : hw_RS T Z S) (hP : hw_pk P pool) {x : Nat} (hx : P x = some (.inr (.inr (.inr (.inr 0))))) (h : hw_cpy T st Z (fun st Z => w (nx, L, st, Z))) (hL : hw_ls T L M) (hs : hw_st T st us) : hw_t1 T S w (mm_st2 TT pool scr (.invokestatic x) nx tg M us S) := by
  have hp : pool x = some (.inr (.inr (.inr (.inr (.inr 0))))) := hP _ _ hx
  unfold hw_cpy at h
  split at h
  · rename_i n dp k i sp k' i' r
    obtain ⟨hc, h⟩ := hw_bif h
    obtain ⟨hk, A, hT, h⟩ := hw_oa_inv (hw_rmk_of (hw_rmk_of h))
    obtain ⟨hk', A', hT', h⟩ := hw_oa_inv h
    obtain ⟨kk, ln, ⟨tr0, b0⟩ | ⟨c0, o0⟩⟩ := A
    case inr => exact h.elim
    obtain ⟨kk', ln', ⟨tr', b'⟩ | ⟨c1, o1⟩⟩ := A'
    case inr =>
      rcases tr0 with _ | j | j
      · cases b0 <;> exact h.elim
      · cases b0 <;> exact h.elim
      · exact h.elim
    rcases tr0 with _ | j | j
    · cases b0 with
      | some _ => exact h.elim
      | none =>
        obtain ⟨hb, ⟨g1, g2, g3, g4, g5⟩, h7⟩ := hw_bif h
        rw [Bool.and_eq_true] at hb
        have hb1 := Nat.eq_of_beq_eq_true hb.1
        have hb2 := Nat.eq_of_beq_eq_true hb.2
        subst hb1
        subst hb2
        obtain ⟨_, _, rfl, ⟨n32, rfl, rfl⟩, _, _, rfl, ⟨d32, rfl, rfl⟩, _, _, rfl, hv, _, _, rfl, ⟨s32, rfl, rfl⟩, _, us', rfl, hv', hr⟩ := hs
        obtain ⟨a, rfl, ha, hka⟩ := hw_own hv hk
        obtain ⟨b, rfl, hb', hkb⟩ := hw_own hv' hk'
        obtain ⟨hlt, hca⟩ := hR.2 a ha
        obtain ⟨hlt', hcb⟩ := hR.2 b hb'
        have hTa : hw_sh T a = .inr (0, ln, .inl (none, none)) := by unfold hw_sh; rw [hka]; exact hT
        have hTb : hw_sh T b = .inr (0, ln', .inl (tr', b')) := by unfold hw_sh; rw [hkb]; exact hT'
        rw [hTa] at hca
        rw [hTb] at hcb
        rw [hka] at hca
        rw [hkb] at hcb
        obtain ⟨na, ga, ea, fa, -, -⟩ := hca
        obtain ⟨nb, gb, eb, fb, -, -⟩ := hcb
        rcases fa with ⟨-, fa, qa, ra⟩ | ⟨q, -⟩
        · rcases fb with ⟨-, fb, qb, rb⟩ | ⟨q, -⟩
          · have l1 := hw_lqe_ok g4 eb
            have l2 := hw_lqe_ok g5 ea
            obtain ⟨m1, m2⟩ := hw_nn32 g1
            obtain ⟨m3, m4⟩ := hw_nn32 g2
            obtain ⟨m5, m6⟩ := hw_nn32 g3
            have hcat : (us'.map Value.category).sum ≤ 8 := by rw [hw_st_cat' hr]; exact Nat.le_of_ble_eq_true hc
            refine ⟨nx, M, us', mm_up S a (.inl (0, na, .inl (va_cpy fb fa s32.toNatClampNeg d32.toNatClampNeg n32.toNatClampNeg))), L, _, Z, ?_, hL, hr, ?_, hw_el_up ha, h7⟩
            · show mm_cpy pool x nx M (.int n32 :: .int d32 :: .ref a :: .int s32 :: .ref b :: us') S = _
              unfold mm_cpy
              rw [hp]
              dsimp only
              rw [qa, qb]
              exact if_pos ⟨rfl, hlt, hlt', m1, m3, m5, by omega, by omega, hcat⟩
            · have := hw_RS_up (Z' := Z) (e := .inl (0, na, .inl (va_cpy fb fa s32.toNatClampNeg d32.toNatClampNeg n32.toNatClampNeg))) hR ha ?_ (fun _ _ _ _ q => q)
              · exact this
              · rw [hTa, hka]
                exact ⟨na, fun q => ((va_cpy fb fa s32.toNatClampNeg d32.toNatClampNeg n32.toNatClampNeg) q.toNat).toInt, ea, Or.inl ⟨Or.inl rfl, _, rfl, fun q _ => by dsimp only; rw [Int.toNat_natCast]⟩, trivial, fun _ _ => trivial⟩
          · cases q
        · cases q
    · cases b0 with
      | some _ => exact h.elim
      | none =>
      rcases tr' with _ | j' | j'
      · exact h.elim
      · obtain ⟨hb, ⟨g1, g2, g3, g4, g5⟩, h7⟩ := hw_bif h
        obtain ⟨z1, z2, z3⟩ := Z
        dsimp only at h7
        split at h7
        case h_2 => exact h7.elim
        rename_i gA gB eA eB
        have h7 := hw_nl_of h7
        rw [Bool.and_eq_true] at hb
        have hb1 := Nat.eq_of_beq_eq_true hb.1
        have hb2 := Nat.eq_of_beq_eq_true hb.2
        subst hb1
        subst hb2
        obtain ⟨_, _, rfl, ⟨n32, rfl, rfl⟩, _, _, rfl, ⟨d32, rfl, rfl⟩, _, _, rfl, hv, _, _, rfl, ⟨s32, rfl, rfl⟩, _, us', rfl, hv', hr⟩ := hs
        obtain ⟨a, rfl, ha, hka⟩ := hw_own hv hk
        obtain ⟨b, rfl, hb', hkb⟩ := hw_own hv' hk'
        obtain ⟨hlt, hca⟩ := hR.2 a ha
        obtain ⟨hlt', hcb⟩ := hR.2 b hb'
        have hTa : hw_sh T a = .inr (0, ln, .inl (some (.inl j), none)) := by unfold hw_sh; rw [hka]; exact hT
        have hTb : hw_sh T b = .inr (0, ln', .inl (some (.inl j'), b')) := by unfold hw_sh; rw [hkb]; exact hT'
        rw [hTa] at hca
        rw [hTb] at hcb
        rw [hka] at hca
        rw [hkb] at hcb
        obtain ⟨na, ga, ea, fa, ta, -⟩ := hca
        obtain ⟨nb, gb, eb, fb, tb, -⟩ := hcb
        rcases fa with ⟨-, fa, qa, ra⟩ | ⟨q, -⟩
        · rcases fb with ⟨-, fb, qb, rb⟩ | ⟨q, -⟩
          · have l1 := hw_lqe_ok g4 eb
            have l2 := hw_lqe_ok g5 ea
            obtain ⟨m1, m2⟩ := hw_nn32 g1
            obtain ⟨m3, m4⟩ := hw_nn32 g2
            obtain ⟨m5, m6⟩ := hw_nn32 g3
            have hcat : (us'.map Value.category).sum ≤ 8 := by rw [hw_st_cat' hr]; exact Nat.le_of_ble_eq_true hc
            have ta : z2[j]? = some ga := ta
            have tb : z2[j']? = some gb := tb
            rw [eA] at ta
            rw [eB] at tb
            injection ta with ta
            injection tb with tb
            subst ta
            subst tb
            refine ⟨nx, M, us', mm_up S a (.inl (0, na, .inl (va_cpy fb fa s32.toNatClampNeg d32.toNatClampNeg n32.toNatClampNeg))), L, _, _, ?_, hL, hr, ?_, hw_el_up ha, h7⟩
            · show mm_cpy pool x nx M (.int n32 :: .int d32 :: .ref a :: .int s32 :: .ref b :: us') S = _
              unfold mm_cpy
              rw [hp]
              dsimp only
              rw [qa, qb]
              exact if_pos ⟨rfl, hlt, hlt', m1, m3, m5, by omega, by omega, hcat⟩
            · exact hw_RS_sa (g := gA) hU hR ha hTa (by rw [hka]; exact ea) eA (Or.inl ⟨Or.inl rfl, _, rfl, hw_cpf_ok m2 m4 m6 rb ra (by omega)⟩) (fun _ _ => trivial)
          · cases q
        · cases q
      · exact h.elim
    · exact h.elim
  · exact h.elim
theorem hw_sw_ts {x : Int} {v : Nat → Prop} {df : Nat} : ∀ (offs : List Int) (c : Int), hw_sw x v df (hw_tsl pc c offs) → (∃ (i : Nat) (off : Int), offs[i]? = some off ∧ x = c + i ∧ v ((pc : Int) + off).toNat) ∨ ((x < c ∨ c + offs.length ≤ x) ∧ v df) := by
  intro offs
  induction offs with
  | nil =>
    intro c h
    refine Or.inr ⟨?_, h⟩
    simp only [List.length_nil]
    omega
  | cons o r ih =>
    intro c h
    by_cases e : x = c
    · exact Or.inl ⟨0, o, rfl, by omega, h.1 e⟩
    · rcases ih (c + 1) (h.2 e) with ⟨i, off, h1, h2, h3⟩ | ⟨h1, h2⟩
      · exact Or.inl ⟨i + 1, off, h1, by omega, h3⟩
      · refine Or.inr ⟨?_, h2⟩
        simp only [List.length_cons]
        omega
theorem hw1_tableswitch {df lo hi : Int} {offs : Array Int} (h : hw_m TT T P (.tableswitch df lo hi offs) pc nx tg L st Z w) (hL : hw_ls T L M) (hs : hw_st T st us) : hw_to T S Z w (mm_st0 (.tableswitch df lo hi offs) pc nx tg M us S) := by
  replace h : hw_i1 st (fun x r => hw_ts pc df lo hi offs.toList x (fun t => w (t, L, r, Z))) := h
  obtain ⟨x, r, rfl, h⟩ := hw_i1_inv h
  obtain ⟨_, us', rfl, ⟨a, rfl, rfl⟩, hr⟩ := hs
  obtain ⟨h1, h⟩ := hw_bif h
  simp only [Bool.and_eq_true, decide_eq_true_eq, List.all_eq_true] at h1
  obtain ⟨h1, h2, h3⟩ := h1
  have hlen : offs.toList.length = offs.size := rfl
  rcases hw_sw_ts _ _ h with ⟨i, off, e1, e2, e3⟩ | ⟨e1, e2⟩
  · have hil : i < offs.toList.length := (List.getElem?_eq_some_iff.mp e1).1
    have ho : offs[(a.toInt - lo).toNat]? = some off := by
      have : (a.toInt - lo).toNat = i := by omega
      rw [this, ← Array.getElem?_toList]
      exact e1
    have hp := h3 off (List.mem_of_getElem? e1)
    refine ⟨((pc : Int) + off).toNat, M, us', L, r, ?_, hL, hr, e3⟩
    show mm_tsw pc df lo hi offs M (.int a :: us') S = _
    unfold mm_tsw
    dsimp only
    rw [if_neg (by omega), ho]
    exact if_pos hp
  · refine ⟨((pc : Int) + df).toNat, M, us', L, r, ?_, hL, hr, e2⟩
    show mm_tsw pc df lo hi offs M (.int a :: us') S = _
    unfold mm_tsw
    dsimp only
    rw [if_pos (by omega), if_pos h2]
theorem hw_sw_lk {x : Int} {v : Nat → Prop} {df : Int} : ∀ (ps : List (Int × Int)), (∀ o ∈ ps, 0 ≤ (pc : Int) + o.2) → 0 ≤ (pc : Int) + df → hw_sw x v ((pc : Int) + df).toNat (hw_lsl pc ps) → 0 ≤ (pc : Int) + Op.lookupswitch.offset ps df x ∧ v ((pc : Int) + Op.lookupswitch.offset ps df x).toNat := by
  intro ps
  induction ps with
  | nil => intro _ h0 h; exact ⟨h0, h⟩
  | cons o r ih =>
    intro hp h0 h
    obtain ⟨c, t⟩ := o
    rw [Op.lookupswitch.offset_cons]
    by_cases e : c = x
    · rw [if_pos e]
      exact ⟨hp _ List.mem_cons_self, h.1 e.symm⟩
    · rw [if_neg e]
      exact ih (fun o ho => hp o (List.mem_cons_of_mem _ ho)) h0 (h.2 (fun q => e q.symm))
theorem hw1_lookupswitch {df : Int} {ps : Array (Int × Int)} (h : hw_m TT T P (.lookupswitch df ps) pc nx tg L st Z w) (hL : hw_ls T L M) (hs : hw_st T st us) : hw_to T S Z w (mm_st0 (.lookupswitch df ps) pc nx tg M us S) := by
  replace h : hw_i1 st (fun x r => hw_lk pc df ps.toList x (fun t => w (t, L, r, Z))) := h
  obtain ⟨x, r, rfl, h⟩ := hw_i1_inv h
  obtain ⟨_, us', rfl, ⟨a, rfl, rfl⟩, hr⟩ := hs
  obtain ⟨h1, h⟩ := hw_bif h
  rw [Bool.and_eq_true, Bool.and_eq_true] at h1
  obtain ⟨h1, h2, h3⟩ := h1
  have h2 := of_decide_eq_true h2
  have h3 : ∀ o ∈ ps.toList, 0 ≤ (pc : Int) + o.2 := fun o ho => of_decide_eq_true (List.all_eq_true.mp h3 o ho)
  obtain ⟨q1, q2⟩ := hw_sw_lk _ h3 h2 h
  exact ⟨_, M, us', L, r, if_pos ⟨h1, q1⟩, hL, hr, q2⟩
end HWT
