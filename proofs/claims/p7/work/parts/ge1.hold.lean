/-! cells as the evaluator has them, held against a view -/
def ck_g (one : Int → Bool) : Int → Int → Int := fun i p => if one i = true ∧ p = 0 then 1 else 0
def ck_Z (sc : List Int) (na : Nat) (ff : List (Int → Int)) (nf : Nat) (one : Int → Bool) : hw_Z := (sc, List.replicate na (fun _ => 0), ff, List.replicate nf (ck_g one))
def ck_T (KT : Nat → hw_S) (kof : Nat → Nat × Int) (ob : Nat → Bool) (rm : Int → Int) : hw_T := (KT, kof, fun a => ob a = true, rm)
def ck_v (kof : Nat → Nat × Int) (ob : Nat → Bool) (k : Nat) (i : Int) (v : Value) : Bool := match v with
  | .ref b => (ob b && (decide (kof b = (k, i)) && decide (k < 1000000))) || (decide (k = 1000000) && (decide (0 ≤ i) && decide ((b : Int) = (mm_big : Int) + i)))
  | _ => false
def ck_tq (sc : List Int) (ff : List (Int → Int)) (i : Int) (tr : hw_Tr) (x : Int) : Bool := match tr with
  | none => true
  | some (.inl j) => decide (sc[j]? = some x)
  | some (.inr j) => match ff[j]? with
    | some g => decide (g i = x)
    | none => false
def ck_bq (r : Int) (b : hw_B) (x : Int) : Bool := match b with
  | none => true
  | some (lo, some hi) => decide (lo ≤ x) && decide (x ≤ hi)
  | some (lo, none) => decide (lo ≤ x) && decide (x ≤ r)
def ck_f (kof : Nat → Nat × Int) (ob : Nat → Bool) (rm : Int → Int) (sc : List Int) (ff : List (Int → Int)) (i : Int) (f : hw_F) (v : Value) : Bool := match f with
  | .inl (tr, b) => (match v with
    | .int x => ck_tq sc ff i tr x.toInt && ck_bq (rm i) b x.toInt
    | _ => false)
  | .inr (.inl (lo, hi)) => (match v with
    | .long x => decide (lo ≤ x.toInt) && decide (x.toInt ≤ hi)
    | _ => false)
  | .inr (.inr (k, o)) => ck_v kof ob k (hw_ix o i) v
def ck_fs (kof : Nat → Nat × Int) (ob : Nat → Bool) (rm : Int → Int) (sc : List Int) (ff : List (Int → Int)) (i : Int) : List hw_F → List Value → Bool
  | [], [] => true
  | f :: fs, v :: vs => ck_f kof ob rm sc ff i f v && ck_fs kof ob rm sc ff i fs vs
  | _, _ => false
def ck_b0 (b : Option (Int × Int × Int)) (x : Int) : Bool := match b with
  | none => true
  | some (lo, hi, m) => decide (lo ≤ 0) && (decide (x ≤ hi) && decide (0 ≤ m))
def ck_ar (na nf : Nat) (one : Int → Bool) (i : Int) (kk : Nat) (tr : hw_Tr) (b : Option (Int × Int × Int)) (us : List (Nat × Value)) : Bool := match us with
  | [] => (match tr with
    | none => true
    | some (.inl j) => decide (j < na)
    | some (.inr j) => decide (j < nf) && !(one i)) && ck_b0 b 0
  | [(0, .int x)] => decide (kk = 0) && (match tr with
    | none => decide (b = none)
    | some (.inl _) => false
    | some (.inr j) => decide (j < nf) && (one i && (decide (x = 1) && ck_b0 b 1)))
  | _ => false
def ck_c (kof : Nat → Nat × Int) (ob : Nat → Bool) (rm : Int → Int) (sc : List Int) (na : Nat) (ff : List (Int → Int)) (nf : Nat) (one : Int → Bool) (i : Int) (s : hw_S) (c : fx_C) : Bool := match s, c with
  | .inl (cl, fs), .inr (cl', vs) => decide (cl' = cl) && ck_fs kof ob rm sc ff i fs vs
  | .inr (kk, ln, .inl (tr, b)), .inl (kk', n, us) => decide (kk' = kk) && (decide (kk ≤ 2) && (decide ((n : Int) = hw_ln ln (rm i)) && ck_ar na nf one i kk tr b us))
  | .inr (kk, ln, .inr (k, o)), .inl (kk', n, us) => decide (kk' = kk) && (decide (3 ≤ kk) && (decide ((n : Int) = hw_ln ln (rm i)) && (List.range n).all (fun p => match fx_lk us p with
    | some v => ck_v kof ob k (hw_io o i p) v
    | none => false)))
  | _, _ => false
section E1
variable {KT : Nat → hw_S} {kof : Nat → Nat × Int} {ob : Nat → Bool} {rm : Int → Int} {sc : List Int} {na : Nat} {ff : List (Int → Int)} {nf : Nat} {one : Int → Bool}
theorem ck_v_ref {k : Nat} {i : Int} {v : Value} (h : ck_v kof ob k i v = true) : hw_v (ck_T KT kof ob rm) (.inr (.inr (k, i))) v ∧ ∃ b, v = .ref b := by
  unfold ck_v at h
  split at h
  · rename_i b
    refine ⟨⟨b, rfl, ?_⟩, b, rfl⟩
    rw [Bool.or_eq_true, Bool.and_eq_true, Bool.and_eq_true, Bool.and_eq_true, Bool.and_eq_true, decide_eq_true_eq, decide_eq_true_eq, decide_eq_true_eq, decide_eq_true_eq, decide_eq_true_eq] at h
    rcases h with ⟨h1, h2, h3⟩ | ⟨h1, h2, h3⟩
    · exact Or.inl ⟨h1, h2, h3⟩
    · refine Or.inr (Or.inl ⟨h1, i.toNat, ?_, ?_⟩)
      · show i = ((i.toNat : Nat) : Int)
        omega
      · show @Eq Nat b (mm_big + i.toNat)
        generalize mm_big = B at h3 ⊢
        omega
  · cases h
theorem ck_f_ok {i : Int} {f : hw_F} {v : Value} (h : ck_f kof ob rm sc ff i f v = true) : hw_fok (ck_T KT kof ob rm) (ck_Z sc na ff nf one) i f v := by
  unfold ck_f at h
  split at h
  · rename_i tr b
    split at h
    · rename_i x
      rw [Bool.and_eq_true] at h
      refine ⟨x, rfl, ?_, ?_⟩
      · have h1 := h.1
        unfold ck_tq at h1
        split at h1
        · exact True.intro
        · rw [decide_eq_true_eq] at h1
          exact h1
        · split at h1
          · rename_i g hg
            exact ⟨g, hg, of_decide_eq_true h1⟩
          · cases h1
      · have h1 := h.2
        unfold ck_bq at h1
        split at h1
        · exact True.intro
        · rw [Bool.and_eq_true, decide_eq_true_eq, decide_eq_true_eq] at h1
          exact h1
        · rw [Bool.and_eq_true, decide_eq_true_eq, decide_eq_true_eq] at h1
          exact h1
    · cases h
  · rename_i lo hi
    split at h
    · rename_i x
      rw [Bool.and_eq_true, decide_eq_true_eq, decide_eq_true_eq] at h
      exact ⟨x, rfl, h⟩
    · cases h
  · exact (ck_v_ref h).1
theorem ck_fs_ok {i : Int} : ∀ {fs : List hw_F} {vs : List Value}, ck_fs kof ob rm sc ff i fs vs = true → vs.length = fs.length ∧ ∀ (k : Nat) (f : hw_F), fs[k]? = some f → ∃ v, vs[k]? = some v ∧ hw_fok (ck_T KT kof ob rm) (ck_Z sc na ff nf one) i f v := by
  intro fs
  induction fs with
  | nil =>
    intro vs h
    cases vs with
    | nil => exact ⟨rfl, fun k f hk => by cases hk⟩
    | cons v vs => cases h
  | cons f fs ih =>
    intro vs h
    cases vs with
    | nil => cases h
    | cons v vs =>
      replace h : (ck_f kof ob rm sc ff i f v && ck_fs kof ob rm sc ff i fs vs) = true := h
      rw [Bool.and_eq_true] at h
      have h2 := ih h.2
      refine ⟨by rw [List.length_cons, List.length_cons, h2.1], fun k g hk => ?_⟩
      cases k with
      | zero => cases hk; exact ⟨v, rfl, ck_f_ok h.1⟩
      | succ k => exact h2.2 k g hk
theorem ck_rp {α : Type} {n j : Nat} {x : α} (h : j < n) : (List.replicate n x)[j]? = some x := by
  rw [List.getElem?_replicate, if_pos h]
theorem ck_ab {b : Option (Int × Int × Int)} {x y : Int} {p : Nat} (h : ck_b0 b x = true) (h0 : 0 ≤ y) (h1 : y ≤ x) : hw_ab b p y := by
  unfold ck_b0 at h
  split at h
  · exact True.intro
  · rename_i lo hi m
    rw [Bool.and_eq_true, Bool.and_eq_true, decide_eq_true_eq, decide_eq_true_eq, decide_eq_true_eq] at h
    show lo ≤ y ∧ y ≤ hi + m * p
    have := Int.mul_nonneg h.2.2 (show (0 : Int) ≤ p by omega)
    omega
theorem ck_z32 : (0 : Int32).toInt = 0 := by decide
theorem ck_z64 : (0 : Int64).toInt = 0 := by decide
theorem ck_ar_ok {i : Int} {kk n : Nat} {ln : Option Nat} {tr : hw_Tr} {b : Option (Int × Int × Int)} {us : List (Nat × Value)} (hk : kk ≤ 2) (hn : (n : Int) = hw_ln ln (rm i)) (h : ck_ar na nf one i kk tr b us = true) : hw_cok (ck_T KT kof ob rm) (ck_Z sc na ff nf one) i (.inr (kk, ln, .inl (tr, b))) (fx_dec (.inl (kk, n, us))) := by
  unfold ck_ar at h
  split at h
  · rw [Bool.and_eq_true] at h
    have af : ∀ g : Int → Int, (∀ p : Int, g p = 0) → hw_af kk n (fx_dec (.inl (kk, n, []))) g := fun g hg => by
      have c : kk = 0 ∨ kk = 1 ∨ kk = 2 := by omega
      rcases c with c | c | c <;> subst c
      · exact Or.inl ⟨Or.inl rfl, _, rfl, fun p _ => (hg p).trans ck_z32.symm⟩
      · exact Or.inr ⟨rfl, _, rfl, fun p _ => (hg p).trans ck_z64.symm⟩
      · exact Or.inl ⟨Or.inr rfl, _, rfl, fun p _ => (hg p).trans ck_z32.symm⟩
    have h1 := h.1
    split at h1
    · exact ⟨n, fun _ => 0, hn, af _ (fun _ => rfl), True.intro, fun p _ => ck_ab h.2 (Int.le_refl 0) (Int.le_refl 0)⟩
    · exact ⟨n, fun _ => 0, hn, af _ (fun _ => rfl), ck_rp (of_decide_eq_true h1), fun p _ => ck_ab h.2 (Int.le_refl 0) (Int.le_refl 0)⟩
    · rename_i j
      rw [Bool.and_eq_true] at h1
      have o : ¬ one i = true := fun e => by
        have := h1.2
        rw [e] at this
        cases this
      have z : ∀ p : Int, ck_g one i p = 0 := fun p => if_neg (fun q => o q.1)
      exact ⟨n, ck_g one i, hn, af _ z, ⟨ck_g one, ck_rp (of_decide_eq_true h1.1), rfl⟩, fun p _ => by
        rw [z]
        exact ck_ab h.2 (Int.le_refl 0) (Int.le_refl 0)⟩
  · rename_i x
    rw [Bool.and_eq_true, decide_eq_true_eq] at h
    obtain ⟨hk0, h⟩ := h
    subst hk0
    have e : fx_dec (.inl (0, n, [(0, .int x)])) = .inl (0, n, .inl (fun j => fx_vi (fx_lk [(0, .int x)] j))) := rfl
    have v0 : fx_vi (fx_lk [(0, Value.int x)] 0) = x := rfl
    have v1 : ∀ p : Nat, ¬ p = 0 → fx_vi (fx_lk [(0, Value.int x)] p) = 0 := fun p hp => by
      show fx_vi (if p = 0 then some (Value.int x) else none) = 0
      rw [if_neg hp]; rfl
    split at h
    · have hb := of_decide_eq_true h
      subst hb
      exact ⟨n, fun p => (fx_vi (fx_lk [(0, Value.int x)] p.toNat)).toInt, hn, Or.inl ⟨Or.inl rfl, _, e, fun p _ => by
        show (fx_vi (fx_lk [(0, Value.int x)] ((p : Nat) : Int).toNat)).toInt = _
        rw [Int.toNat_natCast]⟩, True.intro, fun _ _ => True.intro⟩
    · cases h
    · rename_i j
      rw [Bool.and_eq_true, Bool.and_eq_true, Bool.and_eq_true, decide_eq_true_eq, decide_eq_true_eq] at h
      obtain ⟨h1, h2, h3, h4⟩ := h
      subst h3
      have g0 : ck_g one i 0 = 1 := if_pos ⟨h2, rfl⟩
      have g1 : ∀ p : Int, ¬ p = 0 → ck_g one i p = 0 := fun p hp => if_neg (fun q => hp q.2)
      refine ⟨n, ck_g one i, hn, Or.inl ⟨Or.inl rfl, _, e, fun p _ => ?_⟩, ⟨ck_g one, ck_rp h1, rfl⟩, fun p _ => ?_⟩
      · by_cases q : p = 0
        · subst q
          rw [v0]
          exact g0
        · rw [v1 p q, g1 p (by omega)]
          exact ck_z32.symm
      · by_cases q : p = 0
        · subst q
          show hw_ab b 0 (ck_g one i 0)
          rw [g0]
          exact ck_ab h4 (by decide) (Int.le_refl 1)
        · rw [g1 p (by omega)]
          exact ck_ab h4 (Int.le_refl 0) (by decide)
  · cases h
theorem ck_c_ok {i : Int} {s : hw_S} {c : fx_C} (h : ck_c kof ob rm sc na ff nf one i s c = true) : hw_cok (ck_T KT kof ob rm) (ck_Z sc na ff nf one) i s (fx_dec c) := by
  unfold ck_c at h
  split at h
  · rename_i cl fs cl' vs
    rw [Bool.and_eq_true, decide_eq_true_eq] at h
    obtain ⟨h1, h2⟩ := h
    subst h1
    have h3 := ck_fs_ok (KT := KT) (na := na) (nf := nf) (one := one) h2
    exact ⟨vs, rfl, h3.1, h3.2⟩
  · rename_i kk ln tr b kk' n us
    rw [Bool.and_eq_true, Bool.and_eq_true, Bool.and_eq_true, decide_eq_true_eq, decide_eq_true_eq, decide_eq_true_eq] at h
    obtain ⟨h1, h2, h3, h4⟩ := h
    subst h1
    exact ck_ar_ok h2 h3 h4
  · rename_i kk ln k o kk' n us
    rw [Bool.and_eq_true, Bool.and_eq_true, Bool.and_eq_true, decide_eq_true_eq, decide_eq_true_eq, decide_eq_true_eq] at h
    obtain ⟨h1, h2, h3, h4⟩ := h
    subst h1
    obtain ⟨m, rfl⟩ : ∃ m, kk' = m + 3 := ⟨kk' - 3, by omega⟩
    refine ⟨h2, n, fun j => fx_vr (fx_lk us j), h3, rfl, fun p hp => ?_⟩
    have h5 := List.all_eq_true.mp h4 p (List.mem_range.mpr hp)
    split at h5
    · rename_i v hv
      obtain ⟨h6, q, h7⟩ := ck_v_ref (KT := KT) (rm := rm) h5
      subst h7
      refine ⟨q, ?_, h6⟩
      show fx_vr (fx_lk us p) = some q
      rw [hv]; rfl
    · cases h5
  · cases h
theorem ck_RS {M : fx_T} {n t : Nat} (hn : n ≤ mm_big) (h : ∀ a, ob a = true → a < n ∧ ∃ c, fx_look M a = some c ∧ ck_c kof ob rm sc na ff nf one (kof a).2 (KT (kof a).1) c = true) : hw_RS (ck_T KT kof ob rm) (ck_Z sc na ff nf one) (n, t, fx_mem M) := by
  refine ⟨hn, fun a ha => ?_⟩
  obtain ⟨h1, c, h2, h3⟩ := h a ha
  refine ⟨h1, ?_⟩
  show hw_cok _ _ (kof a).2 (KT (kof a).1) (fx_mem M a)
  have e : fx_mem M a = fx_dec c := by
    unfold fx_mem
    rw [h2]
  rw [e]
  exact ck_c_ok h3
/-- kinds and numbers tell cells apart; what is tracked is tracked once -/
def ck_fu (U : Nat ⊕ Nat → Nat × Nat) (k : Nat) : Nat → List hw_F → Bool
  | _, [] => true
  | p, f :: fs => (match f with
    | .inl (some tr, _) => decide (U tr = (k, p))
    | _ => true) && ck_fu U k (p + 1) fs
def ck_su (U : Nat ⊕ Nat → Nat × Nat) (V : Nat ⊕ Nat → Nat) (k : Nat) (s : hw_S) : Bool := match s with
  | .inl (_, fs) => ck_fu U k 0 fs
  | .inr (_, _, .inl (some tr, _)) => decide (V tr = k)
  | _ => true
def ck_one (U : Nat ⊕ Nat → Nat × Nat) (s : hw_S) : Bool := match s with
  | .inl (_, fs) => fs.any (fun f => match f with
    | .inl (some (.inl _), _) => true
    | _ => false)
  | .inr (_, _, .inl (some (.inl _), _)) => true
  | _ => false
theorem ck_fu_ok {U : Nat ⊕ Nat → Nat × Nat} {k : Nat} : ∀ {fs : List hw_F} {p : Nat}, ck_fu U k p fs = true → ∀ (q : Nat) (tr : Nat ⊕ Nat) (b : hw_B), fs[q]? = some (.inl (some tr, b)) → U tr = (k, p + q) := by
  intro fs
  induction fs with
  | nil => intro p _ q tr b h; cases h
  | cons f fs ih =>
    intro p h q tr b hq
    unfold ck_fu at h
    rw [Bool.and_eq_true] at h
    cases q with
    | zero =>
      cases hq
      exact of_decide_eq_true h.1
    | succ q =>
      have := ih h.2 q tr b hq
      rw [this]
      congr 1
      omega
theorem ck_any {fs : List hw_F} {q j : Nat} {b : hw_B} (h : fs[q]? = some (.inl (some (.inl j), b))) : fs.any (fun f => match f with
    | .inl (some (.inl _), _) => true
    | _ => false) = true := List.any_eq_true.mpr ⟨_, List.mem_of_getElem? h, rfl⟩
theorem ck_U {U : Nat ⊕ Nat → Nat × Nat} {V : Nat ⊕ Nat → Nat} {inv : Nat × Int → Nat} (hr : ∀ i, 0 ≤ rm i ∧ rm i ≤ 2000) (hi : ∀ a, ob a = true → inv (kof a) = a) (hs : ∀ a, ob a = true → ck_su U V (kof a).1 (KT (kof a).1) = true) (h1 : ∀ a, ob a = true → ck_one U (KT (kof a).1) = true → (kof a).2 = 0) : hw_U (ck_T KT kof ob rm) := by
  have inj : ∀ a b, ob a = true → ob b = true → kof a = kof b → a = b := fun a b ha hb e => by rw [← hi a ha, ← hi b hb, e]
  refine ⟨fun a b ha hb e => inj a b ha hb e, fun a b c c' fs fs' k k' tr tr' x x' lc ha hb e1 e2 f1 f2 l1 l2 => ?_, fun a b kk kk' ln ln' tr tr' x x' lc ha hb e1 e2 l1 l2 => ?_, hr⟩
  · replace e1 : KT (kof a).1 = .inl (c, fs) := e1
    replace e2 : KT (kof b).1 = .inl (c', fs') := e2
    replace ha : ob a = true := ha
    replace hb : ob b = true := hb
    replace l1 : hw_lo tr (kof a).2 = some lc := l1
    replace l2 : hw_lo tr' (kof b).2 = some lc := l2
    have s1 := hs a ha
    have s2 := hs b hb
    have o1 := h1 a ha
    have o2 := h1 b hb
    rw [e1] at s1 o1
    rw [e2] at s2 o2
    cases tr with
    | none => cases l1
    | some t =>
      cases tr' with
      | none => cases l2
      | some t' =>
        have u1 := ck_fu_ok s1 k t x f1
        have u2 := ck_fu_ok s2 k' t' x' f2
        rw [← l2] at l1
        cases t with
        | inl j =>
          cases t' with
          | inl j' =>
            have ej : j = j' := by
              have := Option.some.inj l1
              injection this
            subst ej
            rw [u1] at u2
            have q1 := congrArg Prod.fst u2
            have q2 := congrArg Prod.snd u2
            have z1 := o1 (ck_any f1)
            have z2 := o2 (ck_any f2)
            dsimp only at q1 q2
            exact ⟨inj a b ha hb (Prod.ext q1 (z1.trans z2.symm)), by omega⟩
          | inr j' =>
            have := Option.some.inj l1
            cases this
        | inr j =>
          cases t' with
          | inl j' =>
            have := Option.some.inj l1
            cases this
          | inr j' =>
            have w := Option.some.inj l1
            have w2 : (j, (kof a).2) = (j', (kof b).2) := by
              injection w
            have ej : j = j' := (Prod.mk.inj w2).1
            have en : (kof a).2 = (kof b).2 := (Prod.mk.inj w2).2
            subst ej
            rw [u1] at u2
            have q1 := congrArg Prod.fst u2
            have q2 := congrArg Prod.snd u2
            dsimp only at q1 q2
            exact ⟨inj a b ha hb (Prod.ext q1 en), by omega⟩
  · replace e1 : KT (kof a).1 = .inr (kk, ln, .inl (tr, x)) := e1
    replace e2 : KT (kof b).1 = .inr (kk', ln', .inl (tr', x')) := e2
    replace ha : ob a = true := ha
    replace hb : ob b = true := hb
    replace l1 : hw_lo tr (kof a).2 = some lc := l1
    replace l2 : hw_lo tr' (kof b).2 = some lc := l2
    have s1 := hs a ha
    have s2 := hs b hb
    have o1 := h1 a ha
    have o2 := h1 b hb
    rw [e1] at s1 o1
    rw [e2] at s2 o2
    cases tr with
    | none => cases l1
    | some t =>
      cases tr' with
      | none => cases l2
      | some t' =>
        have u1 := of_decide_eq_true s1
        have u2 := of_decide_eq_true s2
        rw [← l2] at l1
        cases t with
        | inl j =>
          cases t' with
          | inl j' =>
            have ej : j = j' := by
              have := Option.some.inj l1
              injection this
            subst ej
            exact inj a b ha hb (Prod.ext (u1.symm.trans u2) ((o1 rfl).trans (o2 rfl).symm))
          | inr j' =>
            have := Option.some.inj l1
            cases this
        | inr j =>
          cases t' with
          | inl j' =>
            have := Option.some.inj l1
            cases this
          | inr j' =>
            have w := Option.some.inj l1
            have w2 : (j, (kof a).2) = (j', (kof b).2) := by
              injection w
            have ej : j = j' := (Prod.mk.inj w2).1
            have en : (kof a).2 = (kof b).2 := (Prod.mk.inj w2).2
            subst ej
            exact inj a b ha hb (Prod.ext (u1.symm.trans u2) en)
end E1
