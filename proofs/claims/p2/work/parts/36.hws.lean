/-! the abstract machine's instructions on cells are the small machine's -/
def hw_t1 (T : hw_T) (S : mm_S) (w : hw_K → Prop) (o : Option mm_Kf) : Prop := ∃ pc M us S' L st Z, o = some (pc, M, us, S') ∧ hw_ls T L M ∧ hw_st T st us ∧ hw_RS T Z S' ∧ hw_el T S S' ∧ w (pc, L, st, Z)
theorem hw_own {T : hw_T} {k : Nat} {u : Value} (h : hw_v T (.inr (.inr k)) u) (hk : Nat.blt k 1000000 = true) : ∃ a, u = .ref a ∧ T.2.2 a ∧ T.2.1 a = k := by
  obtain ⟨a, rfl, h⟩ := h
  rcases h with ⟨h1, h2, -⟩ | ⟨j, h1, -⟩
  · exact ⟨a, rfl, h1, h2⟩
  · have := Nat.blt_eq.mp hk
    omega
theorem hw_of_inv {T : hw_T} {k ci p : Nat} {g : hw_F → Prop} (h : hw_of T k ci p g) : Nat.blt k 1000000 = true ∧ ∃ fs f, T.1 k = .inl (ci, fs) ∧ fs[p]? = some f ∧ g f := by
  obtain ⟨h1, h3⟩ := hw_bif h
  refine ⟨h1, ?_⟩
  cases hT : T.1 k with
  | inr o => rw [hT] at h3; exact h3.elim
  | inl o =>
    obtain ⟨c, fs⟩ := o
    rw [hT] at h3
    obtain ⟨h2, h4⟩ := hw_bif h3
    have h2 : c = ci := Nat.eq_of_beq_eq_true h2
    cases hf : fs[p]? with
    | none => rw [hf] at h4; exact h4.elim
    | some f =>
      rw [hf] at h4
      exact ⟨fs, f, by rw [h2], hf, h4⟩
theorem hw_oa_inv {T : hw_T} {k : Nat} {g : hw_A → Prop} (h : hw_oa T k g) : Nat.blt k 1000000 = true ∧ ∃ A, T.1 k = .inr A ∧ g A := by
  obtain ⟨h1, h⟩ := hw_bif h
  refine ⟨h1, ?_⟩
  split at h
  · rename_i a hT
    exact ⟨a, hT, h⟩
  · exact h.elim
theorem hw_rf_ok {T : hw_T} {f : hw_F} {Z : hw_Z} {k : hw_V → Prop} {v : Value} (h : hw_rf f Z k) (hv : hw_fok T Z f v) : ∃ v', hw_v T v' v ∧ k v' := by
  rcases f with ⟨j, b⟩ | ⟨lo, hi⟩ | ⟨lo, hi⟩ | c
  · obtain ⟨x, rfl, h2, h3⟩ := hv
    unfold hw_rf at h
    dsimp only at h
    rw [h2] at h
    have h := h (hw_i32 x)
    refine ⟨.inl x.toInt, ⟨x, rfl, rfl⟩, ?_⟩
    cases b with
    | true => exact h (h3 rfl)
    | false => exact h
  · obtain ⟨x, rfl, h2, h3⟩ := hv
    exact ⟨.inl x.toInt, ⟨x, rfl, rfl⟩, h _ (hw_i32 x) h2 h3⟩
  · obtain ⟨x, rfl, h2, h3⟩ := hv
    exact ⟨.inr (.inl x.toInt), ⟨x, rfl, rfl⟩, h _ (hw_i64 x) h2 h3⟩
  · exact ⟨.inr (.inr c), hv, h⟩
theorem hw_fitI_ok {ty : FieldType} {x : Int32} {P : Prop} (h : hw_fitI ty x.toInt P) : mm_fit ty (.int x) = true ∧ P := by
  unfold hw_fitI at h
  split at h
  · exact ⟨rfl, h⟩
  · refine ⟨?_, h.2⟩
    show (x == 0 || x == 1) = true
    rcases h.1 with q | q
    · have : x = 0 := Int32.toInt_inj.mp (q.trans rfl)
      subst this
      rfl
    · have : x = 1 := Int32.toInt_inj.mp (q.trans rfl)
      subst this
      rfl
  · exact h.elim
theorem hw_fitJ_ok {ty : FieldType} {x : Int64} {P : Prop} (h : hw_fitJ ty P) : mm_fit ty (.long x) = true ∧ P := by
  unfold hw_fitJ at h
  split at h
  · exact ⟨rfl, h⟩
  · exact h.elim
theorem hw_bb {b : Bool} {P R : Prop} (h : bif b then (P ∧ R) else R) : (b = true → P) ∧ R := by
  cases b with
  | true => exact ⟨fun _ => h.1, h.2⟩
  | false => exact ⟨fun q => (by cases q), h⟩
section HWS
variable {TT : mm_T} {T : hw_T} {P : Nat → Option hw_P} {pool : Nat → Option mm_P} {ini : Bool} {oc : Nat} {scr : Nat × (Nat → Int32)} {pc nx tg : Nat} {L : hw_L} {st : List hw_V} {Z : hw_Z} {w : hw_K → Prop} {M : mm_L} {us : List Value} {S : mm_S}
theorem hw1_getfield (hR : hw_RS T Z S) (hP : hw_pk P pool) {x : Nat} (h : hw_m TT T P (.getfield x) pc nx tg L st Z w) (hL : hw_ls T L M) (hs : hw_st T st us) : hw_t1 T S w (mm_st1 TT ini oc pool scr (.getfield x) nx M us S) := by
  unfold hw_m at h
  dsimp only at h
  split at h
  · rename_i ci p hx
    have hp : pool x = some (.inl (ci, p)) := hP _ _ hx
    unfold hw_gf at h
    split at h
    · obtain ⟨hk, fs, f, hT, hf, h⟩ := hw_of_inv h
      obtain ⟨_, us', rfl, hv, hr⟩ := hs
      obtain ⟨a, rfl, ha, hka⟩ := hw_own hv hk
      obtain ⟨hlt, hc⟩ := hR.2 a ha
      rw [hka, hT] at hc
      obtain ⟨vs, he, hlen, hcell⟩ := hc
      obtain ⟨v, hv1, hv2⟩ := hcell p f hf
      obtain ⟨v', hq, hw⟩ := hw_rf_ok h hv2
      refine ⟨nx, M, _, S, L, _, Z, ?_, hL, hw_st_v hq hr, hR, hw_el_rf _ _, hw⟩
      show mm_gf pool x nx M (.ref a :: us') S = _
      unfold mm_gf
      rw [hp]
      dsimp only
      rw [he]
      dsimp only
      rw [if_pos ⟨hlt, rfl⟩, hv1]
    · exact h.elim
  · exact h.elim
theorem hw1_putfield (hU : hw_U T) (hR : hw_RS T Z S) (hP : hw_pk P pool) {x : Nat} (h : hw_m TT T P (.putfield x) pc nx tg L st Z w) (hL : hw_ls T L M) (hs : hw_st T st us) : hw_t1 T S w (mm_st1 TT ini oc pool scr (.putfield x) nx M us S) := by
  unfold hw_m at h
  dsimp only at h
  split at h
  · rename_i ci p hx
    have hp : pool x = some (.inl (ci, p)) := hP _ _ hx
    unfold hw_pf at h
    split at h
    · obtain ⟨hfi, h⟩ := hw_bif h
      have hfi : mm_fi TT ci p = false := by simpa using hfi
      obtain ⟨hk, fs, f, hT, hf, h⟩ := hw_of_inv h
      obtain ⟨u, us1, rfl, hu, _, us', rfl, hv, hr⟩ := hs
      obtain ⟨a, rfl, ha, hka⟩ := hw_own hv hk
      obtain ⟨hlt, hc⟩ := hR.2 a ha
      rw [hka, hT] at hc
      obtain ⟨vs, he, hlen, hcell⟩ := hc
      obtain ⟨v0, hv1, -⟩ := hcell p f hf
      have hT' : T.1 (T.2.1 a) = .inl (ci, fs) := by rw [hka]; exact hT
      have hkl : p < vs.length := by
        rcases Nat.lt_or_ge p vs.length with q | q
        · exact q
        · rw [List.getElem?_eq_none q] at hv1; cases hv1
      have key : mm_fit (mm_ft TT ci p) u = true → mm_st1 TT ini oc pool scr (.putfield x) nx M (u :: .ref a :: us') S = some (nx, M, us', mm_up S a (.inr (ci, vs.set p u))) := by
        intro hfit
        show mm_pf TT ini oc pool x nx M (u :: .ref a :: us') S = _
        unfold mm_pf
        rw [hp]
        dsimp only
        rw [he]
        dsimp only
        rw [if_pos ⟨hlt, rfl, hkl, hfit, Or.inl hfi⟩]
      unfold hw_wf at h
      split at h
      · rename_i j b y
        obtain ⟨x32, rfl, rfl⟩ := hu
        obtain ⟨hfit, h⟩ := hw_fitI_ok h
        obtain ⟨hb, h⟩ := hw_bb h
        exact ⟨nx, M, _, _, L, _, _, key hfit, hL, hr, hw_RS_tf hU hR ha hT' hf he hb, hw_el_up ha, hw_nl_of h⟩
      · rename_i lo hi y
        obtain ⟨x32, rfl, rfl⟩ := hu
        obtain ⟨hfit, h1, h2, h⟩ := hw_fitI_ok h
        exact ⟨nx, M, _, _, L, _, Z, key hfit, hL, hr, hw_RS_nf hR ha hT' hf he ⟨_, rfl, h1, h2⟩, hw_el_up ha, h⟩
      · rename_i lo hi y
        obtain ⟨x64, rfl, rfl⟩ := hu
        obtain ⟨hfit, h1, h2, h⟩ := hw_fitJ_ok (x := x64) h
        exact ⟨nx, M, _, _, L, _, Z, key hfit, hL, hr, hw_RS_nf hR ha hT' hf he ⟨_, rfl, h1, h2⟩, hw_el_up ha, h⟩
      · exact h.elim
    · exact h.elim
  · exact h.elim
/-- an element that is read -/
theorem hw_ra_ok {kk : Nat} {A : hw_A} {i : Int} {k : Int → Prop} {e : mm_E} (h : hw_ra kk A i Z k) (hc : hw_cok T Z (.inr A) e) : ∃ n : Nat, (0 ≤ i ∧ i < n) ∧ (((kk = 0 ∨ kk = 2) ∧ ∃ f : Nat → Int32, e = .inl (kk, n, .inl f) ∧ k (f i.toNat).toInt) ∨ (kk = 1 ∧ ∃ f : Nat → Int64, e = .inl (1, n, .inr (.inl f)) ∧ k (f i.toNat).toInt)) := by
  have main : ∀ (n : Nat) (g : Int → Int), (0 ≤ i ∧ i < n) → hw_af kk n e g → k (g i) → ∃ n : Nat, (0 ≤ i ∧ i < n) ∧ (((kk = 0 ∨ kk = 2) ∧ ∃ f : Nat → Int32, e = .inl (kk, n, .inl f) ∧ k (f i.toNat).toInt) ∨ (kk = 1 ∧ ∃ f : Nat → Int64, e = .inl (1, n, .inr (.inl f)) ∧ k (f i.toNat).toInt)) := by
    intro n g hi ha hk
    have ei : ((i.toNat : Nat) : Int) = i := Int.toNat_of_nonneg hi.1
    refine ⟨n, hi, ?_⟩
    rcases ha with ⟨h1, f, h2, h3⟩ | ⟨h1, f, h2, h3⟩
    · refine Or.inl ⟨h1, f, h2, ?_⟩
      rw [← h3 i.toNat (by omega), ei]
      exact hk
    · refine Or.inr ⟨h1, f, h2, ?_⟩
      rw [← h3 i.toNat (by omega), ei]
      exact hk
  obtain ⟨k', n, ⟨lo, hi, m⟩ | c | j⟩ := A
  · obtain ⟨h1, h2, h3⟩ := hw_bif h
    have h1 := Nat.eq_of_beq_eq_true h1
    subst h1
    obtain ⟨g, hg, hb⟩ := hc
    have ei : ((i.toNat : Nat) : Int) = i := Int.toNat_of_nonneg h2.1
    have hb := hb i.toNat (by omega)
    rw [ei] at hb
    exact main n g h2 hg (h3 _ hb.1 hb.2)
  · exact h.elim
  · obtain ⟨h1, h2, h3⟩ := hw_bif h
    have h1 := Nat.eq_of_beq_eq_true h1
    subst h1
    obtain ⟨g, hg, hb⟩ := hc
    rw [hg] at h3
    exact main n g h2 hb h3
theorem hw_inb {j : Int32} {n : Nat} (h : 0 ≤ j.toInt ∧ j.toInt < n) : mm_inb j n = true := by
  unfold mm_inb
  rw [Bool.and_eq_true, decide_eq_true_eq, decide_eq_true_eq]
  exact h
theorem hw_nbig (hR : hw_RS T Z S) {a : Nat} (ha : T.2.2 a) : ¬ a = mm_big := by
  have h1 := hR.1
  have h2 := (hR.2 a ha).1
  omega
theorem hw1_iaload (hR : hw_RS T Z S) (h : hw_m TT T P .iaload pc nx tg L st Z w) (hL : hw_ls T L M) (hs : hw_st T st us) : hw_t1 T S w (mm_st1 TT ini oc pool scr .iaload nx M us S) := by
  replace h : hw_ia 0 T st Z (fun st => w (nx, L, st, Z)) := h
  unfold hw_ia at h
  split at h
  · obtain ⟨hk, A, hT, h⟩ := hw_oa_inv h
    obtain ⟨_, us1, rfl, ⟨j, rfl, rfl⟩, _, us', rfl, hv, hr⟩ := hs
    obtain ⟨a, rfl, ha, hka⟩ := hw_own hv hk
    obtain ⟨hlt, hc⟩ := hR.2 a ha
    rw [hka, hT] at hc
    obtain ⟨n, hi, ⟨-, f, he, hq⟩ | ⟨q, -⟩⟩ := hw_ra_ok h hc
    · refine ⟨nx, M, _, S, L, _, Z, ?_, hL, hw_st_i (a := f j.toInt.toNat) hr, hR, hw_el_rf _ _, hq (hw_i32 _)⟩
      show mm_ia scr nx M (.int j :: .ref a :: us') S = _
      unfold mm_ia
      dsimp only
      rw [if_neg (hw_nbig hR ha), he]
      exact if_pos (c := a < S.1 ∧ mm_inb j n = true) ⟨hlt, hw_inb hi⟩
    · cases q
  · exact h.elim
theorem hw1_baload (hR : hw_RS T Z S) (h : hw_m TT T P .baload pc nx tg L st Z w) (hL : hw_ls T L M) (hs : hw_st T st us) : hw_t1 T S w (mm_st1 TT ini oc pool scr .baload nx M us S) := by
  replace h : hw_ia 2 T st Z (fun st => w (nx, L, st, Z)) := h
  unfold hw_ia at h
  split at h
  · obtain ⟨hk, A, hT, h⟩ := hw_oa_inv h
    obtain ⟨_, us1, rfl, ⟨j, rfl, rfl⟩, _, us', rfl, hv, hr⟩ := hs
    obtain ⟨a, rfl, ha, hka⟩ := hw_own hv hk
    obtain ⟨hlt, hc⟩ := hR.2 a ha
    rw [hka, hT] at hc
    obtain ⟨n, hi, ⟨-, f, he, hq⟩ | ⟨q, -⟩⟩ := hw_ra_ok h hc
    · refine ⟨nx, M, _, S, L, _, Z, ?_, hL, hw_st_i (a := f j.toInt.toNat) hr, hR, hw_el_rf _ _, hq (hw_i32 _)⟩
      show mm_za nx M (.int j :: .ref a :: us') S = _
      unfold mm_za
      dsimp only
      rw [he]
      exact if_pos (c := a < S.1 ∧ mm_inb j n = true) ⟨hlt, hw_inb hi⟩
    · cases q
  · exact h.elim
theorem hw1_laload (hR : hw_RS T Z S) (h : hw_m TT T P .laload pc nx tg L st Z w) (hL : hw_ls T L M) (hs : hw_st T st us) : hw_t1 T S w (mm_st1 TT ini oc pool scr .laload nx M us S) := by
  replace h : hw_ja T st Z (fun st => w (nx, L, st, Z)) := h
  unfold hw_ja at h
  split at h
  · obtain ⟨hk, A, hT, h⟩ := hw_oa_inv h
    obtain ⟨_, us1, rfl, ⟨j, rfl, rfl⟩, _, us', rfl, hv, hr⟩ := hs
    obtain ⟨a, rfl, ha, hka⟩ := hw_own hv hk
    obtain ⟨hlt, hc⟩ := hR.2 a ha
    rw [hka, hT] at hc
    obtain ⟨n, hi, ⟨q, -⟩ | ⟨-, f, he, hq⟩⟩ := hw_ra_ok h hc
    · rcases q with q | q <;> cases q
    · refine ⟨nx, M, _, S, L, _, Z, ?_, hL, hw_st_j (a := f j.toInt.toNat) hr, hR, hw_el_rf _ _, hq (hw_i64 _)⟩
      show mm_ja nx M (.int j :: .ref a :: us') S = _
      unfold mm_ja
      dsimp only
      rw [he]
      exact if_pos (c := a < S.1 ∧ mm_inb j n = true) ⟨hlt, hw_inb hi⟩
  · exact h.elim
theorem hw1_aaload (hR : hw_RS T Z S) (h : hw_m TT T P .aaload pc nx tg L st Z w) (hL : hw_ls T L M) (hs : hw_st T st us) : hw_t1 T S w (mm_st1 TT ini oc pool scr .aaload nx M us S) := by
  replace h : hw_aa TT T st (fun st => w (nx, L, st, Z)) := h
  unfold hw_aa at h
  split at h
  · obtain ⟨hk, A, hT, h⟩ := hw_oa_inv h
    obtain ⟨_, us1, rfl, ⟨j, rfl, rfl⟩, _, us', rfl, hv, hr⟩ := hs
    obtain ⟨a, rfl, ha, hka⟩ := hw_own hv hk
    obtain ⟨hlt, hc⟩ := hR.2 a ha
    rw [hka, hT] at hc
    split at h
    · rename_i kk n c
      obtain ⟨h1, hi, h⟩ := hw_bif h
      obtain ⟨h3, f, he, hf⟩ := hc
      obtain ⟨b, hb, hvb⟩ := hf j.toInt.toNat (by omega)
      refine ⟨nx, M, _, S, L, _, Z, ?_, hL, hw_st_v hvb hr, hR, hw_el_rf _ _, h⟩
      show mm_aa TT nx M (.int j :: .ref a :: us') S = _
      unfold mm_aa
      dsimp only
      rw [he]
      refine (if_pos (c := a < S.1 ∧ mm_inb j n = true ∧ 3 ≤ kk ∧ kk < mm_nk TT) ⟨hlt, hw_inb hi, h3, Nat.blt_eq.mp h1⟩).trans ?_
      show some (nx, M, va_rf (f j.toInt.toNat) :: us', S) = _
      rw [hb]
      rfl
    · exact h.elim
  · exact h.elim
end HWS
