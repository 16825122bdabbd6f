/-! the evaluator is sound -/
theorem fx_fn_eq {β : Type} (n : Nat) (g : Nat → β) : fx_fn n g = g n := by
  cases n <;> rfl
theorem fx_nl_eq {α β : Type} : ∀ (l : List α) (g : List α → β), fx_nl l g = g l := by
  intro l
  induction l with
  | nil => intro g; rfl
  | cons a l ih =>
    intro g
    show fx_nl l (fun r => g (a :: r)) = g (a :: l)
    rw [ih]
theorem fx_fi_eq {β : Type} (x : Int32) (g : Int32 → β) : fx_fi x g = g x := by
  unfold fx_fi
  rw [fx_fn_eq]
  have h : Int32.ofNat x.toBitVec.toNat = x := by
    apply Int32.toBitVec.inj
    simp
  rw [h]
theorem fx_mk_eq {α β : Type} {h : α → (α → β) → β} {m : α → α} (hm : ∀ a g, h a g = g (m a)) : ∀ (l : List α) (n : Nat) (g : List α → β), fx_mk h l n g = g (fx_mod m l n) := by
  intro l
  induction l with
  | nil => intro n g; rfl
  | cons a l ih =>
    intro n g
    cases n with
    | zero =>
      show h a (fun b => g (b :: l)) = g (m a :: l)
      rw [hm]
    | succ n =>
      show fx_mk h l n (fun r => g (a :: r)) = g (a :: fx_mod m l n)
      rw [ih]
theorem fx_sk_eq {β : Type} (T : fx_T) (a : Nat) (e : fx_C) (g : fx_T → β) : fx_sk T a e g = g (fx_set T a e) := by
  unfold fx_sk fx_set
  exact fx_mk_eq (fun u g => fx_mk_eq (fun w g => fx_mk_eq (fun _ _ => rfl) w _ g) u _ g) T _ g
theorem fx_nth_nil {α : Type} (j : Nat) : fx_nth ([] : List α) j = none := rfl
theorem fx_nth_z {α : Type} (a : α) (l : List α) : fx_nth (a :: l) 0 = some a := rfl
theorem fx_nth_s {α : Type} (a : α) (l : List α) (j : Nat) : fx_nth (a :: l) (j + 1) = fx_nth l j := rfl
theorem fx_mod_nil {α : Type} (g : α → α) (j : Nat) : fx_mod g [] j = [] := rfl
theorem fx_mod_z {α : Type} (g : α → α) (a : α) (l : List α) : fx_mod g (a :: l) 0 = g a :: l := rfl
theorem fx_mod_s {α : Type} (g : α → α) (a : α) (l : List α) (j : Nat) : fx_mod g (a :: l) (j + 1) = a :: fx_mod g l j := rfl
theorem fx_nth_mod {α : Type} (g : α → α) : ∀ (l : List α) (i j : Nat), fx_nth (fx_mod g l i) j = if j = i then (fx_nth l j).map g else fx_nth l j := by
  intro l
  induction l with
  | nil => intro i j; rw [fx_mod_nil, fx_nth_nil]; simp
  | cons a l ih =>
    intro i j
    cases i with
    | zero =>
      rw [fx_mod_z]
      cases j with
      | zero => rw [fx_nth_z, fx_nth_z, if_pos rfl]; rfl
      | succ j => rw [fx_nth_s, fx_nth_s, if_neg (Nat.succ_ne_zero j)]
    | succ i =>
      rw [fx_mod_s]
      cases j with
      | zero => rw [fx_nth_z, fx_nth_z, if_neg (fun q => Nat.succ_ne_zero i q.symm)]
      | succ j =>
        rw [fx_nth_s, fx_nth_s, ih i j]
        by_cases h : j = i
        · rw [if_pos h, if_pos (by rw [h])]
        · rw [if_neg h, if_neg (fun q => h (Nat.succ.inj q))]
theorem fx_look_set {T : fx_T} {a : Nat} {e : fx_C} (h : (fx_look T a).isSome = true) (b : Nat) : fx_look (fx_set T a e) b = if b = a then some e else fx_look T b := by
  unfold fx_look fx_set
  unfold fx_look at h
  rw [fx_nth_mod]
  by_cases h1 : b / 256 = a / 256
  · rw [if_pos h1]
    rw [h1]
    cases hu : fx_nth T (a / 256) with
    | none => rw [hu] at h; cases h
    | some u =>
      rw [hu] at h
      dsimp only [Option.map] at h ⊢
      rw [fx_nth_mod]
      by_cases h2 : b / 16 % 16 = a / 16 % 16
      · rw [if_pos h2, h2]
        cases hw : fx_nth u (a / 16 % 16) with
        | none => rw [hw] at h; cases h
        | some w =>
          rw [hw] at h
          dsimp only [Option.map] at h ⊢
          rw [fx_nth_mod]
          by_cases h3 : b % 16 = a % 16
          · have hab : b = a := by omega
            rw [if_pos h3, if_pos hab, h3]
            cases hx : fx_nth w (a % 16) with
            | none => rw [hx] at h; cases h
            | some x => rfl
          · rw [if_neg h3, if_neg (fun q => h3 (by rw [q]))]
      · rw [if_neg h2, if_neg (fun q => h2 (by rw [q]))]
  · rw [if_neg h1, if_neg (fun q => h1 (by rw [q]))]
theorem fx_mem_set {T : fx_T} {a : Nat} (e : fx_C) (h : (fx_look T a).isSome = true) : fx_mem (fx_set T a e) = va_up (fx_mem T) a (fx_dec e) := by
  funext b
  unfold fx_mem va_up
  rw [fx_look_set h]
  by_cases hb : b = a
  · rw [if_pos hb, if_pos hb]
  · rw [if_neg hb, if_neg hb]
theorem fx_mem_at {M : fx_T} {a : Nat} {e : fx_C} (h : fx_look M a = some e) : fx_mem M a = fx_dec e := by
  unfold fx_mem
  rw [h]
theorem fx_mem_up {M : fx_T} {a : Nat} {e0 : fx_C} (e : fx_C) (h : fx_look M a = some e0) : fx_mem (fx_set M a e) = va_up (fx_mem M) a (fx_dec e) := fx_mem_set e (by rw [h]; rfl)
theorem fx_lk_cons (us : List (Nat × Value)) (i : Nat) (v : Value) (j : Nat) : fx_lk ((i, v) :: us) j = if j = i then some v else fx_lk us j := rfl
theorem fx_d0 (n : Nat) (us : List (Nat × Value)) (j : Nat) (x : Int32) : fx_dec (.inl (0, n, (j, .int x) :: us)) = .inl (0, n, .inl (upd (fun j => fx_vi (fx_lk us j)) j x)) := by
  have hf : (fun i => fx_vi (fx_lk ((j, .int x) :: us) i)) = upd (fun j => fx_vi (fx_lk us j)) j x := by
    funext i
    unfold upd
    rw [fx_lk_cons]
    by_cases hi : i = j
    · rw [if_pos hi, if_pos hi]; rfl
    · rw [if_neg hi, if_neg hi]
  rw [← hf]
  rfl
theorem fx_d2 (n : Nat) (us : List (Nat × Value)) (j : Nat) (x : Int32) : fx_dec (.inl (2, n, (j, .int x) :: us)) = .inl (2, n, .inl (upd (fun j => fx_vi (fx_lk us j)) j x)) := by
  have hf : (fun i => fx_vi (fx_lk ((j, .int x) :: us) i)) = upd (fun j => fx_vi (fx_lk us j)) j x := by
    funext i
    unfold upd
    rw [fx_lk_cons]
    by_cases hi : i = j
    · rw [if_pos hi, if_pos hi]; rfl
    · rw [if_neg hi, if_neg hi]
  rw [← hf]
  rfl
theorem fx_d1 (n : Nat) (us : List (Nat × Value)) (j : Nat) (x : Int64) : fx_dec (.inl (1, n, (j, .long x) :: us)) = .inl (1, n, .inr (.inl (vp_updL (fun j => fx_vj (fx_lk us j)) j x))) := by
  have hf : (fun i => fx_vj (fx_lk ((j, .long x) :: us) i)) = vp_updL (fun j => fx_vj (fx_lk us j)) j x := by
    funext i
    unfold vp_updL
    rw [fx_lk_cons]
    by_cases hi : i = j
    · rw [if_pos hi, if_pos hi]; rfl
    · rw [if_neg hi, if_neg hi]
  rw [← hf]
  rfl
theorem fx_d3 (k n : Nat) (us : List (Nat × Value)) (j b : Nat) : fx_dec (.inl (k + 3, n, (j, .ref b) :: us)) = .inl (k + 3, n, .inr (.inr (.inr (.inr (va_up (fun j => fx_vr (fx_lk us j)) j (some b)))))) := by
  have hf : (fun i => fx_vr (fx_lk ((j, .ref b) :: us) i)) = va_up (fun j => fx_vr (fx_lk us j)) j (some b) := by
    funext i
    unfold va_up
    rw [fx_lk_cons]
    by_cases hi : i = j
    · rw [if_pos hi, if_pos hi]; rfl
    · rw [if_neg hi, if_neg hi]
  rw [← hf]
  rfl
theorem fx_pf_ok {T : mm_T} {ini : Bool} {oc : Nat} {pool : Nat → Option mm_P} {x nx : Nat} {L : mm_L} {st : List Value} {S : fx_S} {k : fx_K} (h : fx_pf T ini oc pool x nx L st S = some k) : mm_pf T ini oc pool x nx L st (fx_mS S) = some (fx_mK k) := by
  obtain ⟨c, s, M⟩ := S
  unfold fx_pf at h
  unfold mm_pf fx_mS
  dsimp only at h ⊢
  split at h
  · rename_i ci k0 v a r hp
    rw [hp]
    dsimp only
    split at h
    · rename_i c' fs hl
      rw [fx_mem_at hl]
      dsimp only [fx_dec]
      split at h
      · rename_i hc
        rw [fx_nl_eq, fx_sk_eq] at h
        cases h
        rw [if_pos hc]
        unfold fx_mK fx_mS mm_up
        dsimp only
        rw [fx_mem_up _ hl]
        rfl
      · cases h
    · cases h
  · cases h
theorem fx_is_ok {nx : Nat} {L : mm_L} {st : List Value} {S : fx_S} {k : fx_K} (h : fx_is nx L st S = some k) : mm_is nx L st (fx_mS S) = some (fx_mK k) := by
  obtain ⟨c, s, M⟩ := S
  unfold fx_is at h
  unfold mm_is fx_mS
  dsimp only at h ⊢
  split at h
  · rename_i x j a r
    dsimp only
    split at h
    · rename_i n us hl
      rw [fx_mem_at hl, show fx_dec (.inl (0, n, us)) = .inl (0, n, .inl (fun j => fx_vi (fx_lk us j))) from rfl]
      split at h
      · rename_i hc
        rw [fx_sk_eq] at h
        cases h
        refine (if_pos hc).trans ?_
        unfold fx_mK fx_mS mm_up
        dsimp only
        rw [fx_mem_up _ hl, fx_d0]
      · cases h
    · cases h
  · cases h
theorem fx_zs_ok {nx : Nat} {L : mm_L} {st : List Value} {S : fx_S} {k : fx_K} (h : fx_zs nx L st S = some k) : mm_zs nx L st (fx_mS S) = some (fx_mK k) := by
  obtain ⟨c, s, M⟩ := S
  unfold fx_zs at h
  unfold mm_zs fx_mS
  dsimp only at h ⊢
  split at h
  · rename_i x j a r
    dsimp only
    split at h
    · rename_i n us hl
      rw [fx_mem_at hl, show fx_dec (.inl (2, n, us)) = .inl (2, n, .inl (fun j => fx_vi (fx_lk us j))) from rfl]
      split at h
      · rename_i hc
        rw [fx_sk_eq] at h
        cases h
        refine (if_pos hc).trans ?_
        unfold fx_mK fx_mS mm_up
        dsimp only
        rw [fx_mem_up _ hl, fx_d2]
      · cases h
    · cases h
  · cases h
theorem fx_js_ok {nx : Nat} {L : mm_L} {st : List Value} {S : fx_S} {k : fx_K} (h : fx_js nx L st S = some k) : mm_js nx L st (fx_mS S) = some (fx_mK k) := by
  obtain ⟨c, s, M⟩ := S
  unfold fx_js at h
  unfold mm_js fx_mS
  dsimp only at h ⊢
  split at h
  · rename_i x j a r
    dsimp only
    split at h
    · rename_i n us hl
      rw [fx_mem_at hl, show fx_dec (.inl (1, n, us)) = .inl (1, n, .inr (.inl (fun j => fx_vj (fx_lk us j)))) from rfl]
      split at h
      · rename_i hc
        rw [fx_sk_eq] at h
        cases h
        refine (if_pos hc).trans ?_
        unfold fx_mK fx_mS mm_up
        dsimp only
        rw [fx_mem_up _ hl, fx_d1]
      · cases h
    · cases h
  · cases h
theorem fx_as_ok {T : mm_T} {nx : Nat} {L : mm_L} {st : List Value} {S : fx_S} {k : fx_K} (h : fx_as T nx L st S = some k) : mm_as T nx L st (fx_mS S) = some (fx_mK k) := by
  obtain ⟨c, s, M⟩ := S
  unfold fx_as at h
  unfold mm_as fx_mS
  dsimp only at h ⊢
  split at h
  · rename_i b j a r
    dsimp only
    split at h
    · rename_i k n us hl
      rw [fx_mem_at hl, show fx_dec (.inl (k + 3, n, us)) = .inl (k + 3, n, .inr (.inr (.inr (.inr (fun j => fx_vr (fx_lk us j)))))) from rfl]
      dsimp only
      split at h
      · rename_i hc
        rw [if_pos (show a < c ∧ mm_inb j n = true ∧ (3 ≤ k + 3 ∧ k + 3 < mm_nk T) from ⟨hc.1, hc.2.1, Nat.le_add_left _ _, hc.2.2⟩)]
        split at h
        · rename_i hb
          rw [if_pos hb]
          split at h
          · rename_i ci fs hl2
            rw [fx_mem_at hl2, show fx_dec (.inr (ci, fs)) = .inr (ci, fs) from rfl]
            dsimp only
            split at h
            · rename_i hk
              rw [fx_sk_eq] at h
              cases h
              rw [if_pos hk]
              unfold fx_mK fx_mS mm_up
              dsimp only
              rw [fx_mem_up _ hl, fx_d3]
            · cases h
          · cases h
        · rename_i hb
          rw [if_neg hb]
          split at h
          · rename_i hq
            rw [fx_sk_eq] at h
            cases h
            rw [if_pos (show k + 3 = 5 ∧ mm_big < b ∧ b ≤ mm_big + mm_nx T from ⟨by rw [hq.1], hq.2⟩)]
            unfold fx_mK fx_mS mm_up
            dsimp only
            rw [fx_mem_up _ hl, fx_d3]
          · cases h
      · cases h
    · cases h
  · cases h
theorem fx_nw_ok {T : mm_T} {pool : Nat → Option mm_P} {x nx : Nat} {L : mm_L} {st : List Value} {S : fx_S} {k : fx_K} (h : fx_nw T pool x nx L st S = some k) : mm_nw T pool x nx L st (fx_mS S) = some (fx_mK k) := by
  obtain ⟨c, s, M⟩ := S
  unfold fx_nw at h
  unfold mm_nw fx_mS
  dsimp only at h ⊢
  split at h
  · rename_i ci hp
    rw [hp]
    dsimp only
    split at h
    · rename_i hc
      rw [fx_nl_eq, fx_sk_eq] at h
      cases h
      rw [if_pos hc.1]
      unfold fx_mK fx_mS mm_add
      dsimp only
      rw [fx_mem_set _ hc.2]
      rfl
    · cases h
  · cases h
theorem fx_na_ok {T : mm_T} {t : ArrayType} {nx : Nat} {L : mm_L} {st : List Value} {S : fx_S} {k : fx_K} (h : fx_na T t nx L st S = some k) : mm_na T t nx L st (fx_mS S) = some (fx_mK k) := by
  obtain ⟨c, s, M⟩ := S
  unfold fx_na at h
  unfold mm_na fx_mS
  dsimp only at h ⊢
  split at h
  · rename_i x r
    dsimp only
    split at h
    · rename_i hc
      rw [if_pos hc.1]
      split at h
      all_goals first | (cases h; done) | (rw [fx_fn_eq, fx_sk_eq] at h; cases h; dsimp only; unfold fx_mK fx_mS mm_add; dsimp only; rw [fx_mem_set _ hc.2]; rfl)
    · cases h
  · cases h
theorem fx_nq_ok {T : mm_T} {pool : Nat → Option mm_P} {x nx : Nat} {L : mm_L} {st : List Value} {S : fx_S} {k : fx_K} (h : fx_nq T pool x nx L st S = some k) : mm_nq T pool x nx L st (fx_mS S) = some (fx_mK k) := by
  obtain ⟨c, s, M⟩ := S
  unfold fx_nq at h
  unfold mm_nq fx_mS
  dsimp only at h ⊢
  split at h
  · rename_i ci n r hp
    rw [hp]
    dsimp only
    split at h
    · rename_i hc
      rw [fx_fn_eq, fx_fn_eq, fx_sk_eq] at h
      cases h
      rw [if_pos hc.1]
      unfold fx_mK fx_mS mm_add
      dsimp only
      rw [fx_mem_set _ hc.2]
      obtain ⟨q, hq⟩ : ∃ q, mm_ka T ci = q + 3 := ⟨mm_ka T ci - 3, by have := hc.1.2.2.2.2.1; omega⟩
      rw [hq]
      rfl
    · cases h
  · cases h
theorem fx_gf_ok {pool : Nat → Option mm_P} {x nx : Nat} {L : mm_L} {st : List Value} {S : fx_S} {k : fx_K} (h : fx_gf pool x nx L st S = some k) : mm_gf pool x nx L st (fx_mS S) = some (fx_mK k) := by
  obtain ⟨c, s, M⟩ := S
  unfold fx_gf at h
  unfold mm_gf fx_mS
  dsimp only at h ⊢
  split at h
  · rename_i ci k0 a r hp
    rw [hp]
    dsimp only
    split at h
    · rename_i c' fs hl
      rw [fx_mem_at hl]
      dsimp only [fx_dec]
      split at h
      · rename_i hc
        rw [if_pos hc]
        split at h
        · rename_i v hv
          cases h
          rw [hv]
          rfl
        · cases h
      · cases h
    · cases h
  · cases h
/-- what is known of the script is so -/
def fx_Scr (sc : fx_sc) (scr : Nat × (Nat → Int32)) : Prop := (∀ q, sc.1 = some q → scr.1 = q) ∧ (∀ j v, fx_nth sc.2 j = some v → j < scr.1 ∧ scr.2 j = v)
theorem fx_inb {j : Int32} {n : Nat} (h0 : 0 ≤ j.toInt) (h : j.toNatClampNeg < n) : mm_inb j n = true := by
  unfold mm_inb
  rw [Bool.and_eq_true, decide_eq_true_eq, decide_eq_true_eq]
  refine ⟨h0, ?_⟩
  have : (j.toNatClampNeg : Int) = j.toInt := by
    show ((j.toInt.toNat : Nat) : Int) = j.toInt
    omega
  omega
theorem fx_ia_ok {sc : fx_sc} {scr : Nat × (Nat → Int32)} (hsc : fx_Scr sc scr) {nx : Nat} {L : mm_L} {st : List Value} {S : fx_S} {k : fx_K} (h : fx_ia sc nx L st S = some k) : mm_ia scr nx L st (fx_mS S) = some (fx_mK k) := by
  obtain ⟨c, s, M⟩ := S
  obtain ⟨q, g⟩ := sc
  unfold fx_ia at h
  unfold mm_ia fx_mS
  dsimp only at h ⊢
  split at h
  · rename_i j a r
    dsimp only
    split at h
    · rename_i ha
      rw [if_pos ha]
      split at h
      · rename_i h0
        split at h
        · rename_i v hv
          cases h
          obtain ⟨h1, h2⟩ := hsc.2 _ _ hv
          rw [if_pos (fx_inb h0 h1), h2]
          rfl
        · cases h
      · cases h
    · rename_i ha
      rw [if_neg ha]
      split at h
      · rename_i n us hl
        rw [fx_mem_at hl, show fx_dec (.inl (0, n, us)) = .inl (0, n, .inl (fun j => fx_vi (fx_lk us j))) from rfl]
        split at h
        · rename_i hc
          cases h
          exact if_pos hc
        · cases h
      · cases h
  · cases h
theorem fx_za_ok {nx : Nat} {L : mm_L} {st : List Value} {S : fx_S} {k : fx_K} (h : fx_za nx L st S = some k) : mm_za nx L st (fx_mS S) = some (fx_mK k) := by
  obtain ⟨c, s, M⟩ := S
  unfold fx_za at h
  unfold mm_za fx_mS
  dsimp only at h ⊢
  split at h
  · rename_i j a r
    dsimp only
    split at h
    · rename_i n us hl
      rw [fx_mem_at hl, show fx_dec (.inl (2, n, us)) = .inl (2, n, .inl (fun j => fx_vi (fx_lk us j))) from rfl]
      split at h
      · rename_i hc
        cases h
        exact if_pos hc
      · cases h
    · cases h
  · cases h
theorem fx_ja_ok {nx : Nat} {L : mm_L} {st : List Value} {S : fx_S} {k : fx_K} (h : fx_ja nx L st S = some k) : mm_ja nx L st (fx_mS S) = some (fx_mK k) := by
  obtain ⟨c, s, M⟩ := S
  unfold fx_ja at h
  unfold mm_ja fx_mS
  dsimp only at h ⊢
  split at h
  · rename_i j a r
    dsimp only
    split at h
    · rename_i n us hl
      rw [fx_mem_at hl, show fx_dec (.inl (1, n, us)) = .inl (1, n, .inr (.inl (fun j => fx_vj (fx_lk us j)))) from rfl]
      split at h
      · rename_i hc
        cases h
        exact if_pos hc
      · cases h
    · cases h
  · cases h
theorem fx_aa_ok {T : mm_T} {nx : Nat} {L : mm_L} {st : List Value} {S : fx_S} {k : fx_K} (h : fx_aa T nx L st S = some k) : mm_aa T nx L st (fx_mS S) = some (fx_mK k) := by
  obtain ⟨c, s, M⟩ := S
  unfold fx_aa at h
  unfold mm_aa fx_mS
  dsimp only at h ⊢
  split at h
  · rename_i j a r
    dsimp only
    split at h
    · rename_i k n us hl
      rw [fx_mem_at hl, show fx_dec (.inl (k + 3, n, us)) = .inl (k + 3, n, .inr (.inr (.inr (.inr (fun j => fx_vr (fx_lk us j)))))) from rfl]
      split at h
      · rename_i hc
        cases h
        exact if_pos ⟨hc.1, hc.2.1, Nat.le_add_left _ _, hc.2.2⟩
      · cases h
    · cases h
  · cases h
theorem fx_al_ok {T : mm_T} {sc : fx_sc} {scr : Nat × (Nat → Int32)} (hsc : fx_Scr sc scr) {nx : Nat} {L : mm_L} {st : List Value} {S : fx_S} {k : fx_K} (h : fx_al T sc nx L st S = some k) : mm_al T scr nx L st (fx_mS S) = some (fx_mK k) := by
  obtain ⟨c, s, M⟩ := S
  obtain ⟨q, g⟩ := sc
  unfold fx_al at h
  unfold mm_al fx_mS
  dsimp only at h ⊢
  split at h
  · rename_i a r
    dsimp only
    split at h
    · rename_i ha
      rw [if_pos ha]
      split at h
      · rename_i n
        cases h
        rw [hsc.1 n rfl]
        rfl
      · cases h
    · rename_i ha
      rw [if_neg ha]
      split at h
      · rename_i kk n us hl
        rw [fx_mem_at hl]
        dsimp only [fx_dec]
        split at h
        · rename_i hc
          cases h
          exact if_pos hc
        · cases h
      · cases h
  · cases h
/-- a frame with another memory -/
def fx_kS (k : mm_Kf) (S : mm_S) : mm_Kf := match k with
  | (pc, L, st, _) => (pc, L, st, S)
theorem fx_any_mp {o : Option (List Value)} {nx : Nat} {L : mm_L} {S0 : mm_S} (S : mm_S) {k : mm_Kf} (h : mm_mp o nx L S0 = some k) : mm_mp o nx L S = some (fx_kS k S) := by
  unfold mm_mp at h ⊢
  repeat' split at h
  all_goals first | (cases h; done) | (cases h; simp_all [fx_kS])
theorem fx_any_lI {L : mm_L} {i nx : Nat} {st : List Value} {S0 : mm_S} (S : mm_S) {k : mm_Kf} (h : mm_lI L i nx st S0 = some k) : mm_lI L i nx st S = some (fx_kS k S) := by
  unfold mm_lI at h ⊢
  repeat' split at h
  all_goals first | (cases h; done) | (cases h; simp_all [fx_kS])
theorem fx_any_lJ {L : mm_L} {i nx : Nat} {st : List Value} {S0 : mm_S} (S : mm_S) {k : mm_Kf} (h : mm_lJ L i nx st S0 = some k) : mm_lJ L i nx st S = some (fx_kS k S) := by
  unfold mm_lJ at h ⊢
  repeat' split at h
  all_goals first | (cases h; done) | (cases h; simp_all [fx_kS])
theorem fx_any_lA {L : mm_L} {i nx : Nat} {st : List Value} {S0 : mm_S} (S : mm_S) {k : mm_Kf} (h : mm_lA L i nx st S0 = some k) : mm_lA L i nx st S = some (fx_kS k S) := by
  unfold mm_lA at h ⊢
  repeat' split at h
  all_goals first | (cases h; done) | (cases h; simp_all [fx_kS])
theorem fx_any_sI {L : mm_L} {i nx : Nat} {st : List Value} {S0 : mm_S} (S : mm_S) {k : mm_Kf} (h : mm_sI L i nx st S0 = some k) : mm_sI L i nx st S = some (fx_kS k S) := by
  unfold mm_sI at h ⊢
  repeat' split at h
  all_goals first | (cases h; done) | (cases h; simp_all [fx_kS])
theorem fx_any_sJ {L : mm_L} {i nx : Nat} {st : List Value} {S0 : mm_S} (S : mm_S) {k : mm_Kf} (h : mm_sJ L i nx st S0 = some k) : mm_sJ L i nx st S = some (fx_kS k S) := by
  unfold mm_sJ at h ⊢
  repeat' split at h
  all_goals first | (cases h; done) | (cases h; simp_all [fx_kS])
theorem fx_any_sA {L : mm_L} {i nx : Nat} {st : List Value} {S0 : mm_S} (S : mm_S) {k : mm_Kf} (h : mm_sA L i nx st S0 = some k) : mm_sA L i nx st S = some (fx_kS k S) := by
  unfold mm_sA at h ⊢
  repeat' split at h
  all_goals first | (cases h; done) | (cases h; simp_all [fx_kS])
theorem fx_any_inc {L : mm_L} {i : Nat} {n : Int} {nx : Nat} {st : List Value} {S0 : mm_S} (S : mm_S) {k : mm_Kf} (h : mm_inc L i n nx st S0 = some k) : mm_inc L i n nx st S = some (fx_kS k S) := by
  unfold mm_inc at h ⊢
  repeat' split at h
  all_goals first | (cases h; done) | (cases h; simp_all [fx_kS])
theorem fx_any_if1 {o : ClassFile.Cond} {nx tg : Nat} {L : mm_L} {st : List Value} {S0 : mm_S} (S : mm_S) {k : mm_Kf} (h : mm_if1 o nx tg L st S0 = some k) : mm_if1 o nx tg L st S = some (fx_kS k S) := by
  unfold mm_if1 at h ⊢
  repeat' split at h
  all_goals first | (cases h; done) | (cases h; simp_all [fx_kS])
theorem fx_any_if2 {o : ClassFile.Cond} {nx tg : Nat} {L : mm_L} {st : List Value} {S0 : mm_S} (S : mm_S) {k : mm_Kf} (h : mm_if2 o nx tg L st S0 = some k) : mm_if2 o nx tg L st S = some (fx_kS k S) := by
  unfold mm_if2 at h ⊢
  repeat' split at h
  all_goals first | (cases h; done) | (cases h; simp_all [fx_kS])
theorem fx_any_dup {nx : Nat} {L : mm_L} {st : List Value} {S0 : mm_S} (S : mm_S) {k : mm_Kf} (h : mm_dup nx L st S0 = some k) : mm_dup nx L st S = some (fx_kS k S) := by
  unfold mm_dup at h ⊢
  repeat' split at h
  all_goals first | (cases h; done) | (cases h; simp_all [fx_kS])
theorem fx_any_pop {nx : Nat} {L : mm_L} {st : List Value} {S0 : mm_S} (S : mm_S) {k : mm_Kf} (h : mm_pop nx L st S0 = some k) : mm_pop nx L st S = some (fx_kS k S) := by
  unfold mm_pop at h ⊢
  repeat' split at h
  all_goals first | (cases h; done) | (cases h; simp_all [fx_kS])
theorem fx_any_dx1 {nx : Nat} {L : mm_L} {st : List Value} {S0 : mm_S} (S : mm_S) {k : mm_Kf} (h : mm_dx1 nx L st S0 = some k) : mm_dx1 nx L st S = some (fx_kS k S) := by
  unfold mm_dx1 at h ⊢
  repeat' split at h
  all_goals first | (cases h; done) | (cases h; simp_all [fx_kS])
theorem fx_any_dp2 {nx : Nat} {L : mm_L} {st : List Value} {S0 : mm_S} (S : mm_S) {k : mm_Kf} (h : mm_dp2 nx L st S0 = some k) : mm_dp2 nx L st S = some (fx_kS k S) := by
  unfold mm_dp2 at h ⊢
  repeat' split at h
  all_goals first | (cases h; done) | (cases h; simp_all [fx_kS])
theorem fx_any_tsw {pc : Nat} {df lo hi : Int} {offs : Array Int} {L : mm_L} {st : List Value} {S0 : mm_S} (S : mm_S) {k : mm_Kf} (h : mm_tsw pc df lo hi offs L st S0 = some k) : mm_tsw pc df lo hi offs L st S = some (fx_kS k S) := by
  unfold mm_tsw at h ⊢
  split at h
  · split at h
    · rename_i hc
      rw [if_pos hc]
      split at h
      · rename_i hd
        cases h
        exact if_pos hd
      · cases h
    · rename_i hc
      rw [if_neg hc]
      split at h
      · rename_i off ho
        split at h
        · rename_i hd
          cases h
          exact if_pos hd
        · cases h
      · cases h
  · cases h
theorem fx_any_lc1 {pool : Nat → Option mm_P} {x nx : Nat} {L : mm_L} {st : List Value} {S0 : mm_S} (S : mm_S) {k : mm_Kf} (h : mm_lc1 pool x nx L st S0 = some k) : mm_lc1 pool x nx L st S = some (fx_kS k S) := by
  unfold mm_lc1 at h ⊢
  repeat' split at h
  all_goals first | (cases h; done) | (cases h; simp_all [fx_kS])
theorem fx_any_lc2 {pool : Nat → Option mm_P} {x nx : Nat} {L : mm_L} {st : List Value} {S0 : mm_S} (S : mm_S) {k : mm_Kf} (h : mm_lc2 pool x nx L st S0 = some k) : mm_lc2 pool x nx L st S = some (fx_kS k S) := by
  unfold mm_lc2 at h ⊢
  repeat' split at h
  all_goals first | (cases h; done) | (cases h; simp_all [fx_kS])
theorem fx_any_lcw {pool : Nat → Option mm_P} {x nx : Nat} {L : mm_L} {st : List Value} {S0 : mm_S} (S : mm_S) {k : mm_Kf} (h : mm_lcw pool x nx L st S0 = some k) : mm_lcw pool x nx L st S = some (fx_kS k S) := by
  unfold mm_lcw at h ⊢
  repeat' split at h
  all_goals first | (cases h; done) | (cases h; simp_all [fx_kS])
theorem fx_any_dvI {f : Int32 → Int32 → Int32} {nx : Nat} {L : mm_L} {st : List Value} {S0 : mm_S} (S : mm_S) {k : mm_Kf} (h : mm_dvI f nx L st S0 = some k) : mm_dvI f nx L st S = some (fx_kS k S) := by
  unfold mm_dvI at h ⊢
  repeat' split at h
  all_goals first | (cases h; done) | (cases h; simp_all [fx_kS])
theorem fx_any_dvJ {f : Int64 → Int64 → Int64} {nx : Nat} {L : mm_L} {st : List Value} {S0 : mm_S} (S : mm_S) {k : mm_Kf} (h : mm_dvJ f nx L st S0 = some k) : mm_dvJ f nx L st S = some (fx_kS k S) := by
  unfold mm_dvJ at h ⊢
  repeat' split at h
  all_goals first | (cases h; done) | (cases h; simp_all [fx_kS])
theorem fx_any_dx2 {nx : Nat} {L : mm_L} {st : List Value} {S0 : mm_S} (S : mm_S) {k : mm_Kf} (h : mm_dx2 nx L st S0 = some k) : mm_dx2 nx L st S = some (fx_kS k S) := by
  unfold mm_dx2 at h ⊢
  repeat' split at h
  all_goals first | (cases h; done) | (cases h; simp_all [fx_kS])
theorem fx_any_pp2 {nx : Nat} {L : mm_L} {st : List Value} {S0 : mm_S} (S : mm_S) {k : mm_Kf} (h : mm_pp2 nx L st S0 = some k) : mm_pp2 nx L st S = some (fx_kS k S) := by
  unfold mm_pp2 at h ⊢
  repeat' split at h
  all_goals first | (cases h; done) | (cases h; simp_all [fx_kS])
theorem fx_any_lsw {pc : Nat} {df : Int} {ps : Array (Int × Int)} {L : mm_L} {st : List Value} {S0 : mm_S} (S : mm_S) {k : mm_Kf} (h : mm_lsw pc df ps L st S0 = some k) : mm_lsw pc df ps L st S = some (fx_kS k S) := by
  unfold mm_lsw at h ⊢
  split at h
  · split at h
    · rename_i hc
      cases h
      dsimp only
      rw [if_pos hc]
      rfl
    · cases h
  · cases h
theorem fx_any_acm {o : ClassFile.ACond} {nx tg : Nat} {L : mm_L} {st : List Value} {S0 : mm_S} (S : mm_S) {k : mm_Kf} (h : mm_acm o nx tg L st S0 = some k) : mm_acm o nx tg L st S = some (fx_kS k S) := by
  unfold mm_acm at h ⊢
  repeat' split at h
  all_goals first | (cases h; done) | (cases h; simp_all [fx_kS])
theorem fx_any_st0 {i : Instr} {pc nx tg : Nat} {L : mm_L} {st : List Value} {S0 : mm_S} (S : mm_S) {k : mm_Kf} (h : mm_st0 i pc nx tg L st S0 = some k) : mm_st0 i pc nx tg L st S = some (fx_kS k S) := by
  cases i
  all_goals first
    | (cases h; done)
    | (cases h; rfl)
    | exact fx_any_mp S h
    | exact fx_any_lI S h
    | exact fx_any_lJ S h
    | exact fx_any_lA S h
    | exact fx_any_sI S h
    | exact fx_any_sJ S h
    | exact fx_any_sA S h
    | exact fx_any_inc S h
    | exact fx_any_if1 S h
    | exact fx_any_if2 S h
    | exact fx_any_dup S h
    | exact fx_any_pop S h
    | exact fx_any_dx1 S h
    | exact fx_any_dp2 S h
    | exact fx_any_tsw S h
    | exact fx_any_lc1 S h
    | exact fx_any_lc2 S h
    | exact fx_any_dvI S h
    | exact fx_any_dvJ S h
    | exact fx_any_dx2 S h
    | exact fx_any_pp2 S h
    | exact fx_any_lsw S h
    | exact fx_any_acm S h
    | exact fx_any_lcw S h
theorem fx_ot_ok {o o' : Option mm_Kf} {S : fx_S} {k : fx_K} {cs : List Bool} (hS : ∀ k', o = some k' → o' = some (fx_kS k' (fx_mS S))) (h : fx_ot o S = some (k, cs)) : o' = some (fx_mK k) := by
  cases o with
  | none => cases h
  | some k' =>
    obtain ⟨a, b, c, d⟩ := k'
    cases h
    exact hS _ rfl
theorem fx_ok_ok {o : Option fx_K} {k : fx_K} {cs : List Bool} (h : fx_ok o = some (k, cs)) : o = some k := by
  cases o with
  | none => cases h
  | some k' => cases h; rfl
section FXS
variable {G : mm_G} {T : mm_T} {sc : fx_sc} {scr : Nat × (Nat → Int32)} {os : fx_O} {f pc nx tg : Nat} {L : mm_L} {st : List Value} {S : fx_S} {k : fx_K} {cs : List Bool}
/-- a plain step: a step of the small machine, if what was chosen holds -/
theorem fx_pl_ok (hsc : fx_Scr sc scr) {i : Instr} (h : fx_pl G T sc os f i pc nx tg L st S = some (k, cs)) (hcs : ∀ b ∈ cs, b = true) :
    mm_st0 i pc nx tg L st (fx_mS S) = some (fx_mK k) ∨ (mm_st0 i pc nx tg L st (fx_mS S) = none ∧ mm_st1 T (mm_ini G f) (mm_oc G f) (mm_pool G f) scr i nx L st (fx_mS S) = some (fx_mK k)) := by
  unfold fx_pl at h
  split at h
  · exact Or.inr ⟨rfl, fx_pf_ok (fx_ok_ok h)⟩
  · exact Or.inr ⟨rfl, fx_is_ok (fx_ok_ok h)⟩
  · exact Or.inr ⟨rfl, fx_zs_ok (fx_ok_ok h)⟩
  · exact Or.inr ⟨rfl, fx_js_ok (fx_ok_ok h)⟩
  · exact Or.inr ⟨rfl, fx_as_ok (fx_ok_ok h)⟩
  · exact Or.inr ⟨rfl, fx_nw_ok (fx_ok_ok h)⟩
  · exact Or.inr ⟨rfl, fx_na_ok (fx_ok_ok h)⟩
  · exact Or.inr ⟨rfl, fx_nq_ok (fx_ok_ok h)⟩
  · exact Or.inr ⟨rfl, fx_gf_ok (fx_ok_ok h)⟩
  · exact Or.inr ⟨rfl, fx_ia_ok hsc (fx_ok_ok h)⟩
  · exact Or.inr ⟨rfl, fx_za_ok (fx_ok_ok h)⟩
  · exact Or.inr ⟨rfl, fx_ja_ok (fx_ok_ok h)⟩
  · exact Or.inr ⟨rfl, fx_aa_ok (fx_ok_ok h)⟩
  · exact Or.inr ⟨rfl, fx_al_ok hsc (fx_ok_ok h)⟩
  · exact Or.inr ⟨rfl, fx_ot_ok (fun _ q => fx_any_lc1 _ q) h⟩
  · exact Or.inr ⟨rfl, fx_ot_ok (fun _ q => fx_any_lc2 _ q) h⟩
  · exact Or.inr ⟨rfl, fx_ot_ok (fun _ q => fx_any_lcw _ q) h⟩
  · rename_i o q
    refine Or.inl ?_
    split at h
    · exact fx_ot_ok (o' := mm_if1 o nx tg L st (fx_mS S)) (fun _ q => fx_any_if1 _ q) h
    · rename_i v _
      split at h
      · rename_i x r
        cases h
        have hb := hcs _ (List.mem_singleton.mpr rfl)
        show some (if mm_icmp o x 0 = true then tg else nx, L, r, fx_mS S) = some (if v = 1 then tg else nx, L, r, fx_mS S)
        rw [beq_iff_eq] at hb
        rw [hb]
        by_cases hv : v = 1
        · rw [if_pos hv, if_pos (by rw [hv]; rfl)]
        · rw [if_neg hv, if_neg (by simpa using hv)]
      · cases h
  · rename_i o q
    refine Or.inl ?_
    split at h
    · exact fx_ot_ok (o' := mm_if2 o nx tg L st (fx_mS S)) (fun _ q => fx_any_if2 _ q) h
    · rename_i v _
      split at h
      · rename_i y x r
        cases h
        have hb := hcs _ (List.mem_singleton.mpr rfl)
        show some (if mm_icmp o x y = true then tg else nx, L, r, fx_mS S) = some (if v = 1 then tg else nx, L, r, fx_mS S)
        rw [beq_iff_eq] at hb
        rw [hb]
        by_cases hv : v = 1
        · rw [if_pos hv, if_pos (by rw [hv]; rfl)]
        · rw [if_neg hv, if_neg (by simpa using hv)]
      · cases h
  · rename_i df lo hi offs
    refine Or.inl ?_
    split at h
    · exact fx_ot_ok (o' := mm_tsw pc df lo hi offs L st (fx_mS S)) (fun _ q => fx_any_tsw _ q) h
    · rename_i v _
      split at h
      · rename_i x r
        split at h
        · rename_i pc' L' st' S' hk
          cases h
          have hb := hcs _ (List.mem_singleton.mpr rfl)
          have hx : x = Int32.ofNat v := of_decide_eq_true hb
          show mm_tsw pc df lo hi offs L (.int x :: r) (fx_mS S) = _
          rw [hx]
          exact fx_any_tsw (fx_mS S) hk
        · cases h
      · cases h
  · exact Or.inl (fx_ot_ok (fun _ q => fx_any_st0 _ q) h)
end FXS
