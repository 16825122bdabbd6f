/-! the abstract machine's instructions on cells are the small machine's -/
def hw_t1 (T : hw_T) (S : mm_S) (w : hw_K → Prop) (o : Option mm_Kf) : Prop := ∃ pc M us S' L st Z, o = some (pc, M, us, S') ∧ hw_ls T L M ∧ hw_st T st us ∧ hw_RS T Z S' ∧ hw_el T S S' ∧ w (pc, L, st, Z)
theorem hw_own {T : hw_T} {k : Nat} {i : Int} {u : Value} (h : hw_v T (.inr (.inr (k, i))) u) (hk : Nat.blt k 1000000 = true) : ∃ a, u = .ref a ∧ T.2.2.1 a ∧ T.2.1 a = (k, i) := by
  obtain ⟨a, rfl, h⟩ := h
  rcases h with ⟨h1, h2, -⟩ | ⟨h1, -⟩ | ⟨h1, -⟩
  · exact ⟨a, rfl, h1, h2⟩
  · have := Nat.blt_eq.mp hk
    have h1 : k = 1000000 := h1
    omega
  · have := Nat.blt_eq.mp hk
    have h1 : k = 1000001 := h1
    omega
theorem hw_nxk_of {TT : mm_T} {k : Nat → (Nat → List Int32) → Prop} (h : hw_nxk TT k) : k (mm_nx TT) (mm_sb TT) := h
/-- a String that stands from the start, its array -/
theorem hw_ostr {TT : mm_T} {T : hw_T} {k : Nat} {i : Int} {u : Value} (h : hw_v T (.inr (.inr (k, i))) u) (hk : Nat.beq k 1000000 = true) (hi : 1 ≤ i ∧ i ≤ (mm_nx TT : Int)) : ∃ j : Nat, i = j ∧ u = .ref (mm_big + j) ∧ mm_ost TT (mm_big + j) = true := by
  have hk := Nat.eq_of_beq_eq_true hk
  subst hk
  obtain ⟨a, rfl, h⟩ := h
  rcases h with ⟨-, -, h1⟩ | ⟨-, j, h1, h2⟩ | ⟨h1, -⟩
  · exact absurd h1 (Nat.lt_irrefl _)
  · have h1 : i = j := h1
    refine ⟨j, h1, by rw [h2], ?_⟩
    unfold mm_ost
    rw [Bool.and_eq_true, decide_eq_true_eq, decide_eq_true_eq]
    omega
  · cases h1
theorem hw_oarr {TT : mm_T} {T : hw_T} {k : Nat} {i : Int} {u : Value} (h : hw_v T (.inr (.inr (k, i))) u) (hk : Nat.beq k 1000001 = true) (hi : 1 ≤ i ∧ i ≤ (mm_nx TT : Int)) : ∃ j : Nat, i = j ∧ u = .ref (mm_big + 1000 + j) ∧ mm_oar TT (mm_big + 1000 + j) = true ∧ mm_big + 1000 + j - mm_big - 1000 = j := by
  have hk := Nat.eq_of_beq_eq_true hk
  subst hk
  obtain ⟨a, rfl, h⟩ := h
  rcases h with ⟨-, -, h1⟩ | ⟨h1, -⟩ | ⟨-, j, h1, h2⟩
  · exact absurd h1 (by show ¬ (1000001 : Nat) < 1000000; omega)
  · cases h1
  · have h1 : i = j := h1
    refine ⟨j, h1, by rw [h2], ?_, by omega⟩
    unfold mm_oar
    rw [Bool.and_eq_true, decide_eq_true_eq, decide_eq_true_eq]
    omega
theorem mm_nlt {n j : Nat} (h : n ≤ mm_big) : ¬ mm_big + 1000 + j < n := by omega
theorem mm_a1 (j : Nat) : mm_big + j + 1000 = mm_big + 1000 + j := by omega
def mm_stp (TT : mm_T) (ini : Bool) (oc : Nat) (pool : Nat → Option mm_P) (scr : Nat × (Nat → Int32)) (i : Instr) (pc nx tg : Nat) (M : mm_L) (us : List Value) (S : mm_S) : Option mm_Kf := match mm_st0 i pc nx tg M us S with
  | some k => some k
  | none => match mm_st1 TT ini oc pool scr i nx M us S with
    | some k => some k
    | none => mm_st2 TT pool scr i nx tg M us S
theorem hw_stp1 {TT : mm_T} {T : hw_T} {pool : Nat → Option mm_P} {ini : Bool} {oc : Nat} {scr : Nat × (Nat → Int32)} {i : Instr} {pc nx tg : Nat} {w : hw_K → Prop} {M : mm_L} {us : List Value} {S : mm_S} (h0 : mm_st0 i pc nx tg M us S = none) (h : hw_t1 T S w (mm_st1 TT ini oc pool scr i nx M us S)) : hw_t1 T S w (mm_stp TT ini oc pool scr i pc nx tg M us S) := by
  obtain ⟨pc', M', us', S', L', st', Z', e, q⟩ := h
  refine ⟨pc', M', us', S', L', st', Z', ?_, q⟩
  unfold mm_stp
  rw [h0]
  dsimp only
  rw [e]
theorem hw_stp2 {TT : mm_T} {T : hw_T} {pool : Nat → Option mm_P} {ini : Bool} {oc : Nat} {scr : Nat × (Nat → Int32)} {i : Instr} {pc nx tg : Nat} {w : hw_K → Prop} {M : mm_L} {us : List Value} {S : mm_S} (h0 : mm_st0 i pc nx tg M us S = none) (h1 : mm_st1 TT ini oc pool scr i nx M us S = none) (h : hw_t1 T S w (mm_st2 TT pool scr i nx tg M us S)) : hw_t1 T S w (mm_stp TT ini oc pool scr i pc nx tg M us S) := by
  obtain ⟨pc', M', us', S', L', st', Z', e, q⟩ := h
  refine ⟨pc', M', us', S', L', st', Z', ?_, q⟩
  unfold mm_stp
  rw [h0]
  dsimp only
  rw [h1]
  exact e
theorem hw_rmk_of {T : hw_T} {i : Int} {k : Int → Prop} (h : hw_rmk T i k) : k (T.2.2.2 i) := h
theorem hw_of_inv {T : hw_T} {k ci p : Nat} {g : hw_F → Prop} (h : hw_of T k ci p g) : Nat.blt k 1000000 = true ∧ ∃ fs f, T.1 k = .inl (ci, fs) ∧ fs[p]? = some f ∧ g f := by
  obtain ⟨h1, h3⟩ := hw_bif h
  refine ⟨h1, ?_⟩
  cases hT : T.1 k with
  | inr o => rw [hT] at h3; exact h3.elim
  | inl o =>
    obtain ⟨c, fs⟩ := o
    rw [hT] at h3
    obtain ⟨h2, h4⟩ := hw_bif h3
    have h2 : c = ci := Nat.eq_of_beq_eq_true h2
    cases hf : fs[p]? with
    | none => rw [hf] at h4; exact h4.elim
    | some f =>
      rw [hf] at h4
      exact ⟨fs, f, by rw [h2], hf, h4⟩
theorem hw_oa_inv {T : hw_T} {k : Nat} {g : hw_A → Prop} (h : hw_oa T k g) : Nat.blt k 1000000 = true ∧ ∃ A, T.1 k = .inr A ∧ g A := by
  obtain ⟨h1, h⟩ := hw_bif h
  refine ⟨h1, ?_⟩
  split at h
  · rename_i a hT
    exact ⟨a, hT, h⟩
  · exact h.elim
theorem hw_bi_ok {rm : Int} {b : hw_B} {x : Int32} {P : Prop} (h : hw_bi rm b x.toInt P) (hr : rm ≤ 2000) (hb : hw_bq rm b x.toInt) : P := by
  rcases b with _ | ⟨lo, _ | hi⟩
  · exact h (hw_i32 x)
  · exact h ⟨hb.1, hb.2, hr⟩
  · exact h hb
theorem hw_rf_ok {T : hw_T} (hr : ∀ i, T.2.2.2 i ≤ 2000) {f : hw_F} {i : Int} {Z : hw_Z} {k : hw_V → Prop} {v : Value} (h : hw_rf (T.2.2.2 i) f i Z k) (hv : hw_fok T Z i f v) : ∃ v', hw_v T v' v ∧ k v' := by
  rcases f with ⟨tr, b⟩ | ⟨lo, hi⟩ | ⟨c, o⟩
  · obtain ⟨x, rfl, h2, h3⟩ := hv
    refine ⟨.inl x.toInt, ⟨x, rfl, rfl⟩, ?_⟩
    rcases tr with _ | j | j
    · exact hw_bi_ok (h x.toInt) (hr i) h3
    · have h2 : Z.1[j]? = some x.toInt := h2
      unfold hw_rf at h
      dsimp only at h
      rw [h2] at h
      exact hw_bi_ok h (hr i) h3
    · obtain ⟨f, h2, h4⟩ := h2
      unfold hw_rf at h
      dsimp only at h
      rw [h2] at h
      dsimp only at h
      rw [h4] at h
      exact hw_bi_ok h (hr i) h3
  · obtain ⟨x, rfl, h2, h3⟩ := hv
    exact ⟨.inr (.inl x.toInt), ⟨x, rfl, rfl⟩, h _ (hw_i64 x) h2 h3⟩
  · rcases o with _ | d | ⟨d, b⟩
    · exact ⟨.inr (.inr (c, i)), hv, h⟩
    · exact ⟨.inr (.inr (c, d)), hv, h⟩
    · exact ⟨.inr (.inr (c, d + b * i)), hv, h⟩
theorem hw_bo_ok {rm : Int} {b : hw_B} {x : Int} {P : Prop} (h : hw_bo rm b x P) : hw_bq rm b x ∧ P := by
  rcases b with _ | ⟨lo, _ | hi⟩
  · exact ⟨trivial, h⟩
  · exact h
  · exact h
theorem hw_tz_ok {Z : hw_Z} {i : Int} {tr : hw_Tr} {x : Int} {w : hw_Z → Prop} (h : hw_tz Z i tr x w) : w (hw_tset Z i tr x) := by
  obtain ⟨z1, z2, z3, z4⟩ := Z
  rcases tr with _ | j | j
  · exact h
  · exact hw_nl_of h
  · unfold hw_tz at h
    unfold hw_tset
    dsimp only at h ⊢
    split at h
    · rename_i f hf
      rw [hf]
      exact hw_nl_of h
    · exact h.elim
theorem hw_az_ok {Z : hw_Z} {i p : Int} {tr : hw_Tr} {x : Int} {w : hw_Z → Prop} (h : hw_az Z i tr p x w) : w (hw_aset Z i tr p x) := by
  obtain ⟨z1, z2, z3, z4⟩ := Z
  rcases tr with _ | j | j
  · exact h
  · unfold hw_az at h
    unfold hw_aset
    dsimp only at h ⊢
    split at h
    · rename_i f hf
      rw [hf]
      exact hw_nl_of h
    · exact h.elim
  · unfold hw_az at h
    unfold hw_aset
    dsimp only at h ⊢
    split at h
    · rename_i f hf
      rw [hf]
      exact hw_nl_of h
    · exact h.elim
theorem hw_fitI_ok {ty : FieldType} {x : Int32} {P : Prop} (h : hw_fitI ty x.toInt P) : mm_fit ty (.int x) = true ∧ P := by
  unfold hw_fitI at h
  split at h
  · exact ⟨rfl, h⟩
  · refine ⟨?_, h.2⟩
    show (x == 0 || x == 1) = true
    rcases h.1 with q | q
    · have : x = 0 := Int32.toInt_inj.mp (q.trans rfl)
      subst this
      rfl
    · have : x = 1 := Int32.toInt_inj.mp (q.trans rfl)
      subst this
      rfl
  · exact h.elim
theorem hw_fitJ_ok {ty : FieldType} {x : Int64} {P : Prop} (h : hw_fitJ ty P) : mm_fit ty (.long x) = true ∧ P := by
  unfold hw_fitJ at h
  split at h
  · exact ⟨rfl, h⟩
  · exact h.elim
section HWS
variable {TT : mm_T} {T : hw_T} {P : Nat → Option hw_P} {pool : Nat → Option mm_P} {ini : Bool} {oc : Nat} {scr : Nat × (Nat → Int32)} {pc nx tg : Nat} {L : hw_L} {st : List hw_V} {Z : hw_Z} {w : hw_K → Prop} {M : mm_L} {us : List Value} {S : mm_S}
theorem hw1_getfield (hU : hw_U T) (hR : hw_RS T Z S) (hP : hw_pk P pool) {x ci p : Nat} (hx : P x = some (.inl (ci, p))) (h : hw_gf T ci p st Z (fun st => w (nx, L, st, Z))) (hL : hw_ls T L M) (hs : hw_st T st us) : hw_t1 T S w (mm_st1 TT ini oc pool scr (.getfield x) nx M us S) := by
  have hp : pool x = some (.inl (ci, p)) := hP _ _ hx
  unfold hw_gf at h
  split at h
  · obtain ⟨hk, fs, f, hT, hf, h⟩ := hw_of_inv (hw_rmk_of h)
    obtain ⟨_, us', rfl, hv, hr⟩ := hs
    obtain ⟨a, rfl, ha, hka⟩ := hw_own hv hk
    obtain ⟨hlt, hc⟩ := hR.2 a ha
    unfold hw_sh at hc
    rw [hka] at hc
    dsimp only at hc
    rw [hT] at hc
    obtain ⟨vs, he, hlen, hcell⟩ := hc
    obtain ⟨v, hv1, hv2⟩ := hcell p f hf
    obtain ⟨v', hq, hw⟩ := hw_rf_ok (fun i => (hU.2.2.2 i).2) h hv2
    refine ⟨nx, M, _, S, L, _, Z, ?_, hL, hw_st_v hq hr, hR, hw_el_rf _ _, hw⟩
    show mm_gf pool x nx M (.ref a :: us') S = _
    unfold mm_gf
    rw [hp]
    dsimp only
    rw [he]
    dsimp only
    rw [if_pos ⟨hlt, rfl⟩, hv1]
  · exact h.elim
theorem hw2_getfield (hP : hw_pk P pool) (hR : hw_RS T Z S) {x k : Nat} (hx : P x = some (.inr (.inr (.inr (.inr k))))) (h : hw_sg TT k st (fun st => w (nx, L, st, Z))) (hL : hw_ls T L M) (hs : hw_st T st us) : hw_t1 T S w (mm_stp TT ini oc pool scr (.getfield x) pc nx tg M us S) := by
  have hp : pool x = some (.inr (.inr (.inr (.inr (.inr k))))) := hP _ _ hx
  unfold hw_sg at h
  split at h
  · obtain ⟨hk, h⟩ := hw_bif h
    obtain ⟨hi, h⟩ := hw_nxk_of h
    obtain ⟨_, us', rfl, hv, hr⟩ := hs
    obtain ⟨j, rfl, rfl, ho⟩ := hw_ostr (TT := TT) hv hk hi
    refine hw_stp2 rfl ?_ ?_
    · show mm_gf pool x nx M (.ref (mm_big + j) :: us') S = none
      unfold mm_gf
      rw [hp]
    · cases h1 : Nat.beq k 2000 with
      | true =>
        rw [h1, cond_true] at h
        have h1 := Nat.eq_of_beq_eq_true h1
        refine ⟨nx, M, _, S, L, _, Z, ?_, hL, hw_st_v (v := .inr (.inr (1000001, (j : Int)))) (u := .ref (mm_big + j + 1000)) ⟨_, rfl, Or.inr (Or.inr ⟨rfl, j, rfl, mm_a1 j⟩)⟩ hr, hR, hw_el_rf _ _, h⟩
        show mm_sgf TT pool x nx M (.ref (mm_big + j) :: us') S = _
        unfold mm_sgf
        rw [hp]
        dsimp only
        rw [if_pos ho, if_pos h1]
      | false =>
        rw [h1, cond_false] at h
        obtain ⟨h2, h⟩ := hw_bif h
        have h2 := Nat.eq_of_beq_eq_true h2
        have h1 : ¬ k = 2000 := by omega
        refine ⟨nx, M, _, S, L, _, Z, ?_, hL, hw_st_ie (a := 0) rfl hr, hR, hw_el_rf _ _, h⟩
        show mm_sgf TT pool x nx M (.ref (mm_big + j) :: us') S = _
        unfold mm_sgf
        rw [hp]
        dsimp only
        rw [if_pos ho, if_neg h1, if_pos h2]
  · exact h.elim
theorem hw2_getstatic (hP : hw_pk P pool) (hR : hw_RS T Z S) {x : Nat} (h : hw_m TT T P (.getstatic x) pc nx tg L st Z w) (hL : hw_ls T L M) (hs : hw_st T st us) : hw_t1 T S w (mm_stp TT ini oc pool scr (.getstatic x) pc nx tg M us S) := by
  unfold hw_m at h
  dsimp only at h
  split at h
  · rename_i k hx
    have hp : pool x = some (.inr (.inr (.inr (.inr (.inr k))))) := hP _ _ hx
    obtain ⟨h1, h⟩ := hw_bif h
    have h1 := Nat.eq_of_beq_eq_true h1
    refine hw_stp2 rfl rfl ⟨nx, M, _, S, L, _, Z, ?_, hL, hw_st_ie (a := 1) rfl hs, hR, hw_el_rf _ _, h⟩
    show mm_sgs pool scr x nx M us S = _
    unfold mm_sgs
    rw [hp]
    dsimp only
    rw [if_pos h1]
  · exact h.elim
theorem hw2_instanceof (hP : hw_pk P pool) (hR : hw_RS T Z S) {x : Nat} (h : hw_m TT T P (.instanceof x) pc nx tg L st Z w) (hL : hw_ls T L M) (hs : hw_st T st us) : hw_t1 T S w (mm_stp TT ini oc pool scr (.instanceof x) pc nx tg M us S) := by
  unfold hw_m at h
  dsimp only at h
  split at h
  · rename_i k hx
    have hp : pool x = some (.inr (.inr (.inr (.inr (.inr k))))) := hP _ _ hx
    unfold hw_sio at h
    split at h
    · rename_i kd i r
      obtain ⟨hk, h5⟩ := hw_bif h
      rw [Bool.and_eq_true] at hk
      obtain ⟨hi, h6⟩ := hw_nxk_of h5
      have hkd := Nat.eq_of_beq_eq_true hk.1
      subst hkd
      obtain ⟨_, us', rfl, hv, hr⟩ := hs
      have hv0 := hv
      obtain ⟨j, rfl, rfl, ho⟩ := hw_ostr (TT := TT) hv0 hk.1 hi
      refine hw_stp2 rfl rfl ⟨nx, M, _, S, L, _, Z, ?_, hL, hw_st_ie (a := 1) rfl hr, hR, hw_el_rf _ _, h6⟩
      show mm_sio TT pool x nx M (.ref (mm_big + j) :: us') S = _
      unfold mm_sio
      rw [hp]
      dsimp only
      rw [if_pos ⟨ho, Nat.eq_of_beq_eq_true hk.2⟩]
    · exact h.elim
  · exact h.elim
theorem hw2_checkcast (hP : hw_pk P pool) (hR : hw_RS T Z S) {x : Nat} (h : hw_m TT T P (.checkcast x) pc nx tg L st Z w) (hL : hw_ls T L M) (hs : hw_st T st us) : hw_t1 T S w (mm_stp TT ini oc pool scr (.checkcast x) pc nx tg M us S) := by
  unfold hw_m at h
  dsimp only at h
  split at h
  · rename_i k hx
    have hp : pool x = some (.inr (.inr (.inr (.inr (.inr k))))) := hP _ _ hx
    unfold hw_scc at h
    split at h
    · rename_i kd i r
      obtain ⟨hk, h5⟩ := hw_bif h
      rw [Bool.and_eq_true] at hk
      obtain ⟨hi, h6⟩ := hw_nxk_of h5
      have hkd := Nat.eq_of_beq_eq_true hk.1
      subst hkd
      obtain ⟨_, us', rfl, hv, hr⟩ := hs
      have hv0 := hv
      obtain ⟨j, rfl, rfl, ho⟩ := hw_ostr (TT := TT) hv0 hk.1 hi
      refine hw_stp2 rfl rfl ⟨nx, M, _, S, L, _, Z, ?_, hL, hw_st_v hv hr, hR, hw_el_rf _ _, h6⟩
      show mm_scc TT pool x nx M (.ref (mm_big + j) :: us') S = _
      unfold mm_scc
      rw [hp]
      dsimp only
      rw [if_pos ⟨ho, Nat.eq_of_beq_eq_true hk.2⟩]
    · exact h.elim
  · exact h.elim
theorem hw1_putfield (hU : hw_U T) (hR : hw_RS T Z S) (hP : hw_pk P pool) {x : Nat} (h : hw_m TT T P (.putfield x) pc nx tg L st Z w) (hL : hw_ls T L M) (hs : hw_st T st us) : hw_t1 T S w (mm_st1 TT ini oc pool scr (.putfield x) nx M us S) := by
  unfold hw_m at h
  dsimp only at h
  split at h
  · rename_i ci p hx
    have hp : pool x = some (.inl (ci, p)) := hP _ _ hx
    unfold hw_pf at h
    split at h
    · obtain ⟨hfi, h⟩ := hw_bif h
      have hfi : mm_fi TT ci p = false := by simpa using hfi
      obtain ⟨hk, fs, f, hT, hf, h⟩ := hw_of_inv (hw_rmk_of h)
      obtain ⟨u, us1, rfl, hu, _, us', rfl, hv, hr⟩ := hs
      obtain ⟨a, rfl, ha, hka⟩ := hw_own hv hk
      obtain ⟨hlt, hc⟩ := hR.2 a ha
      have hT' : hw_sh T a = .inl (ci, fs) := by unfold hw_sh; rw [hka]; exact hT
      have hi : (T.2.1 a).2 = _ := congrArg Prod.snd hka
      dsimp only at hi
      rw [hT'] at hc
      obtain ⟨vs, he, hlen, hcell⟩ := hc
      obtain ⟨v0, hv1, -⟩ := hcell p f hf
      have hkl : p < vs.length := hw_get_lt hv1
      have key : mm_fit (mm_ft TT ci p) u = true → mm_st1 TT ini oc pool scr (.putfield x) nx M (u :: .ref a :: us') S = some (nx, M, us', mm_up S a (.inr (ci, vs.set p u))) := by
        intro hfit
        show mm_pf TT ini oc pool x nx M (u :: .ref a :: us') S = _
        unfold mm_pf
        rw [hp]
        dsimp only
        rw [he]
        dsimp only
        rw [if_pos ⟨hlt, rfl, hkl, hfit, Or.inl hfi⟩]
      rw [← hi] at h
      unfold hw_wf at h
      split at h
      · rename_i tr b y
        obtain ⟨x32, rfl, rfl⟩ := hu
        obtain ⟨hfit, h⟩ := hw_fitI_ok h
        obtain ⟨hb, h⟩ := hw_bo_ok h
        exact ⟨nx, M, _, _, L, _, _, key hfit, hL, hr, hw_RS_if hU hR ha hT' hf he hb, hw_el_up ha, hw_tz_ok h⟩
      · rename_i lo hi y
        obtain ⟨x64, rfl, rfl⟩ := hu
        obtain ⟨hfit, h1, h2, h⟩ := hw_fitJ_ok (x := x64) h
        exact ⟨nx, M, _, _, L, _, Z, key hfit, hL, hr, hw_RS_lf hR ha hT' hf he ⟨_, rfl, h1, h2⟩, hw_el_up ha, h⟩
      · exact h.elim
    · exact h.elim
  · exact h.elim
theorem hw_aq_ok {kk : Nat} {b : Option (Int × Int × Int)} {p x : Int} {P : Prop} (h : hw_aq kk b p x P) (hb : hw_ab b p x) (h1 : kk = 1 → hw_iJ x) (h2 : ¬ kk = 1 → hw_iI x) : P := by
  rcases b with _ | ⟨lo, hi, m⟩
  · unfold hw_aq at h
    dsimp only at h
    cases hk : Nat.beq kk 1 with
    | true =>
      rw [hk] at h
      exact h (h1 (Nat.eq_of_beq_eq_true hk))
    | false =>
      rw [hk] at h
      exact h (h2 (fun q => by rw [q] at hk; cases hk))
  · exact h hb
theorem hw_lq_ok {ln : Option Nat} {rm p : Int} {n : Nat} (h : hw_lq ln rm p) (hn : (n : Int) = hw_ln ln rm) : 0 ≤ p ∧ p < n := by
  rcases ln with _ | m
  · have hn : (n : Int) = rm := hn
    rw [hn]
    exact h
  · have hn : (n : Int) = m := hn
    rw [hn]
    exact h
theorem hw_ra_tr {kk : Nat} {tr : hw_Tr} {b : Option (Int × Int × Int)} {i p : Int} {k : Int → Prop} {g : Int → Int} (h : match tr with
    | none => ∀ x, hw_aq kk b p x (k x)
    | some (.inl j) => match Z.2.1[j]? with
      | some g => hw_aq kk b p (g p) (k (g p))
      | none => False
    | some (.inr j) => match Z.2.2.2[j]? with
      | some h => hw_aq kk b p (h i p) (k (h i p))
      | none => False) (hg : hw_ta Z i tr g) : hw_aq kk b p (g p) (k (g p)) := by
  rcases tr with _ | j | j
  · exact h (g p)
  · have hg : Z.2.1[j]? = some g := hg
    dsimp only at h
    rw [hg] at h
    exact h
  · obtain ⟨f, h1, rfl⟩ := hg
    dsimp only at h
    rw [h1] at h
    exact h
/-- an element that is read -/
theorem hw_ra_ok {kk : Nat} {A : hw_A} {i p : Int} {k : Int → Prop} {e : mm_E} (h : hw_ra (T.2.2.2 i) kk A i p Z k) (hc : hw_cok T Z i (.inr A) e) : ∃ n : Nat, (0 ≤ p ∧ p < n) ∧ (((kk = 0 ∨ kk = 2) ∧ ∃ f : Nat → Int32, e = .inl (kk, n, .inl f) ∧ k (f p.toNat).toInt) ∨ (kk = 1 ∧ ∃ f : Nat → Int64, e = .inl (1, n, .inr (.inl f)) ∧ k (f p.toNat).toInt)) := by
  obtain ⟨k', ln, ⟨tr, b⟩ | ⟨c, o⟩⟩ := A
  · obtain ⟨h1, hq, h⟩ := hw_bif h
    have h1 := Nat.eq_of_beq_eq_true h1
    subst h1
    obtain ⟨n, g, hn, hg, hta, hb⟩ := hc
    have hp := hw_lq_ok hq hn
    have ei : ((p.toNat : Nat) : Int) = p := Int.toNat_of_nonneg hp.1
    have hb := hb p.toNat (by omega)
    rw [ei] at hb
    have h := hw_ra_tr h hta
    refine ⟨n, hp, ?_⟩
    rcases hg with ⟨h1, f, h2, h3⟩ | ⟨h1, f, h2, h3⟩
    · refine Or.inl ⟨h1, f, h2, ?_⟩
      have e := h3 p.toNat (by omega)
      rw [ei] at e
      rw [e] at h hb
      exact hw_aq_ok h hb (fun q => by rcases h1 with z | z <;> rw [z] at q <;> cases q) (fun _ => hw_i32 _)
    · refine Or.inr ⟨h1, f, h2, ?_⟩
      have e := h3 p.toNat (by omega)
      rw [ei] at e
      rw [e] at h hb
      exact hw_aq_ok h hb (fun _ => hw_i64 _) (fun q => absurd h1 q)
  · exact h.elim
theorem hw_inb {j : Int32} {n : Nat} (h : 0 ≤ j.toInt ∧ j.toInt < n) : mm_inb j n = true := by
  unfold mm_inb
  rw [Bool.and_eq_true, decide_eq_true_eq, decide_eq_true_eq]
  exact h
theorem hw_nbig (hR : hw_RS T Z S) {a : Nat} (ha : T.2.2.1 a) : ¬ a = mm_big := by
  have h1 := hR.1
  have h2 := (hR.2 a ha).1
  omega
theorem hw1_iaload (hR : hw_RS T Z S) (h : hw_m TT T P .iaload pc nx tg L st Z w) (hL : hw_ls T L M) (hs : hw_st T st us) : hw_t1 T S w (mm_st1 TT ini oc pool scr .iaload nx M us S) := by
  replace h : hw_ia 0 T st Z (fun st => w (nx, L, st, Z)) := h
  unfold hw_ia at h
  split at h
  · obtain ⟨hk, A, hT, h⟩ := hw_oa_inv (hw_rmk_of h)
    obtain ⟨_, us1, rfl, ⟨j, rfl, rfl⟩, _, us', rfl, hv, hr⟩ := hs
    obtain ⟨a, rfl, ha, hka⟩ := hw_own hv hk
    obtain ⟨hlt, hc⟩ := hR.2 a ha
    unfold hw_sh at hc
    rw [hka] at hc
    dsimp only at hc
    rw [hT] at hc
    obtain ⟨n, hi, ⟨-, f, he, hq⟩ | ⟨q, -⟩⟩ := hw_ra_ok h hc
    · refine ⟨nx, M, _, S, L, _, Z, ?_, hL, hw_st_i (a := f j.toInt.toNat) hr, hR, hw_el_rf _ _, hq⟩
      show mm_ia scr nx M (.int j :: .ref a :: us') S = _
      unfold mm_ia
      dsimp only
      rw [if_neg (hw_nbig hR ha), he]
      exact if_pos (c := a < S.1 ∧ mm_inb j n = true) ⟨hlt, hw_inb hi⟩
    · cases q
  · exact h.elim
theorem hw1_baload (hR : hw_RS T Z S) (h : hw_ia 2 T st Z (fun st => w (nx, L, st, Z))) (hL : hw_ls T L M) (hs : hw_st T st us) : hw_t1 T S w (mm_st1 TT ini oc pool scr .baload nx M us S) := by
  unfold hw_ia at h
  split at h
  · obtain ⟨hk, A, hT, h⟩ := hw_oa_inv (hw_rmk_of h)
    obtain ⟨_, us1, rfl, ⟨j, rfl, rfl⟩, _, us', rfl, hv, hr⟩ := hs
    obtain ⟨a, rfl, ha, hka⟩ := hw_own hv hk
    obtain ⟨hlt, hc⟩ := hR.2 a ha
    unfold hw_sh at hc
    rw [hka] at hc
    dsimp only at hc
    rw [hT] at hc
    obtain ⟨n, hi, ⟨-, f, he, hq⟩ | ⟨q, -⟩⟩ := hw_ra_ok h hc
    · refine ⟨nx, M, _, S, L, _, Z, ?_, hL, hw_st_i (a := f j.toInt.toNat) hr, hR, hw_el_rf _ _, hq⟩
      show mm_za nx M (.int j :: .ref a :: us') S = _
      unfold mm_za
      dsimp only
      rw [he]
      exact if_pos (c := a < S.1 ∧ mm_inb j n = true) ⟨hlt, hw_inb hi⟩
    · cases q
  · exact h.elim
theorem hw2_baload (hR : hw_RS T Z S) (h : hw_m TT T P .baload pc nx tg L st Z w) (hL : hw_ls T L M) (hs : hw_st T st us) : hw_t1 T S w (mm_stp TT ini oc pool scr .baload pc nx tg M us S) := by
  replace h : hw_ba TT T st Z (fun st => w (nx, L, st, Z)) := h
  unfold hw_ba at h
  split at h
  · rename_i p k i r
    cases hk : Nat.beq k 1000001 with
    | false =>
      rw [hk, cond_false] at h
      exact hw_stp1 rfl (hw1_baload (pool := pool) (ini := ini) (oc := oc) (scr := scr) hR h hL hs)
    | true =>
      rw [hk, cond_true] at h
      obtain ⟨hi, hp, h⟩ := hw_nxk_of h
      obtain ⟨_, us1, rfl, ⟨q, rfl, rfl⟩, _, us', rfl, hv, hr⟩ := hs
      obtain ⟨j, rfl, rfl, ho, he⟩ := hw_oarr (TT := TT) hv hk hi
      have hS := hR.1
      have hin : mm_inb q (mm_sb TT j).length = true := by
        refine hw_inb ⟨hp.1, ?_⟩
        have h1 := hp.2
        have h2 := hw_on (mm_sb TT ((j : Int).toNat)).length
        unfold hw_sl at h1
        rw [Int.toNat_natCast] at h1 h2
        omega
      refine hw_stp2 rfl ?_ ⟨nx, M, _, S, L, _, Z, ?_, hL, hw_st_i (a := (mm_sb TT j).getD q.toNatClampNeg 0) hr, hR, hw_el_rf _ _, h _ (hw_i32 _) ?_⟩
      · show mm_za nx M (.int q :: .ref (mm_big + 1000 + j) :: us') S = none
        unfold mm_za
        dsimp only
        split
        · exact if_neg (fun z => mm_nlt hS z.1)
        · rfl
      · show mm_sba TT nx M (.int q :: .ref (mm_big + 1000 + j) :: us') S = _
        unfold mm_sba
        dsimp only
        rw [he]
        exact if_pos ⟨ho, hin⟩
      · rfl
  · exact h.elim
theorem hw1_laload (hR : hw_RS T Z S) (h : hw_m TT T P .laload pc nx tg L st Z w) (hL : hw_ls T L M) (hs : hw_st T st us) : hw_t1 T S w (mm_st1 TT ini oc pool scr .laload nx M us S) := by
  replace h : hw_ja T st Z (fun st => w (nx, L, st, Z)) := h
  unfold hw_ja at h
  split at h
  · obtain ⟨hk, A, hT, h⟩ := hw_oa_inv (hw_rmk_of h)
    obtain ⟨_, us1, rfl, ⟨j, rfl, rfl⟩, _, us', rfl, hv, hr⟩ := hs
    obtain ⟨a, rfl, ha, hka⟩ := hw_own hv hk
    obtain ⟨hlt, hc⟩ := hR.2 a ha
    unfold hw_sh at hc
    rw [hka] at hc
    dsimp only at hc
    rw [hT] at hc
    obtain ⟨n, hi, ⟨q, -⟩ | ⟨-, f, he, hq⟩⟩ := hw_ra_ok h hc
    · rcases q with q | q <;> cases q
    · refine ⟨nx, M, _, S, L, _, Z, ?_, hL, hw_st_j (a := f j.toInt.toNat) hr, hR, hw_el_rf _ _, hq⟩
      show mm_ja nx M (.int j :: .ref a :: us') S = _
      unfold mm_ja
      dsimp only
      rw [he]
      exact if_pos (c := a < S.1 ∧ mm_inb j n = true) ⟨hlt, hw_inb hi⟩
  · exact h.elim
theorem hw1_aaload (hR : hw_RS T Z S) (h : hw_m TT T P .aaload pc nx tg L st Z w) (hL : hw_ls T L M) (hs : hw_st T st us) : hw_t1 T S w (mm_st1 TT ini oc pool scr .aaload nx M us S) := by
  replace h : hw_aa TT T st (fun st => w (nx, L, st, Z)) := h
  unfold hw_aa at h
  split at h
  · rename_i p0 k0 i0 r0
    obtain ⟨hk, A, hT, h⟩ := hw_oa_inv (hw_rmk_of h)
    obtain ⟨_, us1, rfl, ⟨j, rfl, rfl⟩, _, us', rfl, hv, hr⟩ := hs
    obtain ⟨a, rfl, ha, hka⟩ := hw_own hv hk
    obtain ⟨hlt, hc⟩ := hR.2 a ha
    unfold hw_sh at hc
    rw [hka] at hc
    dsimp only at hc
    rw [hT] at hc
    split at h
    · rename_i kk ln c o
      obtain ⟨h1, hq, h⟩ := hw_bif h
      obtain ⟨h3, n, f, hn, he, hf⟩ := hc
      have hi := hw_lq_ok hq hn
      obtain ⟨b, hb, hvb⟩ := hf j.toInt.toNat (by omega)
      have ei : ((j.toInt.toNat : Nat) : Int) = j.toInt := Int.toNat_of_nonneg hi.1
      rw [ei] at hvb
      have h : w (nx, L, .inr (.inr (c, hw_io o i0 j.toInt)) :: r0, Z) := by
        rcases o with _ | d | ⟨d, b⟩
        · exact h
        · exact h
        · exact h
      refine ⟨nx, M, _, S, L, _, Z, ?_, hL, hw_st_v hvb hr, hR, hw_el_rf _ _, h⟩
      show mm_aa TT nx M (.int j :: .ref a :: us') S = _
      unfold mm_aa
      dsimp only
      rw [he]
      refine (if_pos (c := a < S.1 ∧ mm_inb j n = true ∧ 3 ≤ kk ∧ kk < mm_nk TT) ⟨hlt, hw_inb hi, h3, Nat.blt_eq.mp h1⟩).trans ?_
      show some (nx, M, va_rf (f j.toInt.toNat) :: us', S) = _
      rw [hb]
      rfl
    · exact h.elim
  · exact h.elim
end HWS
