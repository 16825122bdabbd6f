/-! an UPDATE, step by step -/
section YU
variable {t : Int → Int} {n own j f g v : Int} {L : yN} {U U' : dU} {C : yC} {P : Option (Int × dU)}
theorem ua_n (h0 : P = pAs t n L own U j) (h : pAsg t n L own U j = none) (hS : U.length ≤ 1500) : P = none := by
  rw [h0, pAs_u hS, h]
theorem ua_d (h0 : P = pAs t n L own U j) (h : pAsg t n L own U j = some (f, v, C)) (hk : ¬ kd t n f = 32) (hS : U.length ≤ 1500) (hU : U' = U ++ [(v, C)]) : P = some (f, U') := by
  rw [h0, pAs_u hS, h, hU]
  exact if_neg hk
theorem ua_c (h0 : P = pAs t n L own U j) (h : pAsg t n L own U j = some (f, v, C)) (ha : ad (kd t n) f = some g) (hk : kd t n f = 32) (hS : U.length ≤ 1500) (hU : U' = U ++ [(v, C)]) : P = pAs t n L own U' g := by
  rw [h0, pAs_u hS, h, hU]
  show (if kd t n f = 32 then (match ad (kd t n) f with | none => none | some g => pAs t n L own (U ++ [(v, C)]) g) else some (f, U ++ [(v, C)])) = _
  rw [if_pos hk, ha]
theorem ua_x (h0 : P = pAs t n L own U j) (h : pAsg t n L own U j = some (f, v, C)) (ha : ad (kd t n) f = none) (hk : kd t n f = 32) (hS : U.length ≤ 1500) : P = none := by
  rw [h0, pAs_u hS, h]
  show (if kd t n f = 32 then (match ad (kd t n) f with | none => none | some g => pAs t n L own (U ++ [(v, C)]) g) else some (f, U ++ [(v, C)])) = _
  rw [if_pos hk, ha]
theorem pUpd_t (h : kd t n j = 13) (ha : ad (kd t n) j = some f) : pUpdate t n L own j = some (f, []) := by
  unfold pUpdate
  rw [if_pos h, ha]
theorem pUpd_tn (h : kd t n j = 13) (ha : ad (kd t n) j = none) : pUpdate t n L own j = none := by
  unfold pUpdate
  rw [if_pos h, ha]
theorem pUpd_a (h : ¬ kd t n j = 13) : pUpdate t n L own j = pAs t n L own [] j := by
  unfold pUpdate
  rw [if_neg h]
end YU
theorem pChg_2 {t : Int → Int} {n own j : Int} {L : yN} {S : List Int} {x : Int × Int} (h : pChg t n L own S j = some x) : kd t n j = 2 := by
  unfold pChg at h
  split at h
  · assumption
  · cases h
/-- code in the class's arrays, from g on -/
def cdA (op wi : Int → Int) (us g : Int) (C : yC) : Prop := ∃ _ : Unit, 0 ≤ g ∧ g + C.length < us ∧ cod op wi g C ∧ op (g + C.length) = 44
/-- an UPDATE in the class's arrays, from i on -/
def cU (op wi sv sc : Int → Int) (us : Int) : Int → dU → Prop
  | _, [] => True
  | i, (v, C) :: U => sv i = v ∧ cdA op wi us (sc i) C ∧ cU op wi sv sc us (i + 1) U
/-- two rows are the same below m -/
def agb (f g : Int → Int) (m : Int) : Prop := ∃ _ : Unit, ∀ i, i < m → g i = f i
theorem agb_r {f : Int → Int} {m : Int} : agb f f m := ⟨(), fun _ _ => rfl⟩
theorem agb_at {f g : Int → Int} {m i : Int} (h : agb f g m) (hi : i < m) : g i = f i := h.elim fun _ h => h i hi
theorem agb_t {f g k : Int → Int} {m m' : Int} (h : agb f g m) (h' : agb g k m') (hm : m ≤ m') : agb f k m := ⟨(), fun i hi => by rw [agb_at h' (by omega), agb_at h hi]⟩
theorem agb_le {f g : Int → Int} {m m' : Int} (h : agb f g m) (hm : m' ≤ m) : agb f g m' := ⟨(), fun i hi => agb_at h (by omega)⟩
theorem agb_u {f g : Int → Int} {m i v : Int} (h : agb f g m) (hi : m ≤ i) : agb f (hw_up g i v) m := ⟨(), fun k hk => by rw [hw_up_n (by omega)]; exact agb_at h hk⟩
section CUL
variable {op wi sv sc op' wi' sv' sc' : Int → Int} {us us' : Int}
theorem cdA_f {g : Int} {C : yC} (h : cdA op wi us g C) (ho : yb_ok us op op' wi wi') (hu : us ≤ us') : cdA op' wi' us' g C := by
  obtain ⟨_, h1, h2, h3, h4⟩ := h
  obtain ⟨_, ho⟩ := ho
  refine ⟨(), h1, by omega, fun i o v hc => ?_, ?_⟩
  · have l := (List.getElem?_eq_some_iff.mp hc).1
    have e := ho (g + i) (by omega)
    rw [e.1, e.2]
    exact h3 i o v hc
  · rw [(ho (g + C.length) h2).1]
    exact h4
theorem cdA_n {r u : Int} (h0 : 0 ≤ r) (h1 : r < u) (h : op (u - 1) = 44) : cdA op wi u r (yCo r (u - 1) op wi) := by
  have l := yCo_len (fr := r) (u := u - 1) (op := op) (wi := wi) (by omega)
  refine ⟨(), h0, by omega, cod_y, ?_⟩
  rw [l, show r + (u - 1 - r) = u - 1 by omega]
  exact h
theorem cU_f : ∀ (U : dU) (i : Int), cU op wi sv sc us i U → (∀ k, i ≤ k → k < i + U.length → sv' k = sv k ∧ sc' k = sc k) → yb_ok us op op' wi wi' → us ≤ us' → cU op' wi' sv' sc' us' i U := by
  intro U
  induction U with
  | nil => intro i _ _ _ _; trivial
  | cons x U ih =>
    obtain ⟨v, C⟩ := x
    intro i h hs ho hu
    have e := hs i (Int.le_refl i) (by rw [List.length_cons]; omega)
    refine ⟨by rw [e.1]; exact h.1, by rw [e.2]; exact cdA_f h.2.1 ho hu, ih (i + 1) h.2.2 (fun k h1 h2 => hs k (by omega) ?_) ho hu⟩
    rw [List.length_cons]
    omega
theorem cU_s : ∀ (U : dU) (i : Int) (v : Int) (C : yC), cU op wi sv sc us i U → sv (i + U.length) = v → cdA op wi us (sc (i + U.length)) C → cU op wi sv sc us i (U ++ [(v, C)]) := by
  intro U
  induction U with
  | nil =>
    intro i v C _ h1 h2
    have e : i + (([] : dU).length : Int) = i := Int.add_zero i
    rw [e] at h1 h2
    exact ⟨h1, h2, trivial⟩
  | cons x U ih =>
    obtain ⟨w, C0⟩ := x
    intro i v C h h1 h2
    have e : i + (((w, C0) :: U).length : Int) = i + 1 + U.length := by rw [List.length_cons]; omega
    rw [e] at h1 h2
    exact ⟨h.1, h.2.1, ih (i + 1) v C h.2.2 h1 h2⟩
theorem cU_sv : ∀ (U : dU) (i s : Int), cU op wi sv sc us i U → s = i + U.length → svL sv i s = U.map Prod.fst := by
  intro U
  induction U with
  | nil =>
    intro i s _ e
    have e : s = i := by rw [e]; exact Int.add_zero i
    rw [e]
    exact svL_0
  | cons x U ih =>
    obtain ⟨w, C0⟩ := x
    intro i s h e
    rw [List.length_cons] at e
    have q := ih (i + 1) s h.2.2 (by omega)
    have c : ∀ m : Nat, svf sv i (m + 1) = sv i :: svf sv (i + 1) m := by
      intro m
      induction m with
      | zero =>
        show [] ++ [sv (i + ((0 : Nat) : Int))] = [sv i]
        rw [show i + ((0 : Nat) : Int) = i by omega]
        rfl
      | succ m ihm =>
        show svf sv i (m + 1) ++ [sv (i + ((m + 1 : Nat) : Int))] = sv i :: (svf sv (i + 1) m ++ [sv (i + 1 + (m : Int))])
        rw [ihm, show i + ((m + 1 : Nat) : Int) = i + 1 + (m : Int) by omega]
        rfl
    unfold svL at q ⊢
    rw [show (s - i).toNat = (s - (i + 1)).toNat + 1 by omega, c, q, h.1]
    rfl
theorem pChg_u {t : Int → Int} {n own j a b s : Int} {L : yN} {U : dU} {Y : Option (Int × Int)} (h : pChg t n L own (svL sv a s) j = Y) (hU : cU op wi sv sc us b U) (e : a = b) (hs : s = b + U.length) : pChg t n L own (U.map Prod.fst) j = Y := by
  subst e
  rw [← cU_sv U a s hU hs]
  exact h
end CUL
theorem cU_add {op wi sv sc op' wi' : Int → Int} {us us' f s v g : Int} {U : dU} {C : yC} (h : cU op wi sv sc us f U) (ho : yb_ok us op op' wi wi') (hu : us ≤ us') (hs : s = f + U.length) (hc : cdA op' wi' us' g C) : cU op' wi' (hw_up sv s v) (hw_up sc s g) us' f (U ++ [(v, C)]) := by
  subst hs
  refine cU_s U f v C (cU_f U f h (fun k h1 h2 => ?_) ho hu) hw_up_s ?_
  · rw [hw_up_n (by omega), hw_up_n (by omega)]
    exact ⟨rfl, rfl⟩
  · rw [hw_up_s]
    exact hc
theorem len_s {α : Type} {l : List α} {x : α} : (((l ++ [x]).length : Nat) : Int) = (l.length : Int) + 1 := by
  rw [List.length_append]
  rfl
/-- UPDATES in the class's arrays, from u on -/
def cG (op wi sv sc fs : Int → Int) (us st : Int) : Int → List dU → Prop
  | _, [] => True
  | u, U :: G => 0 ≤ fs u ∧ fs (u + 1) = fs u + U.length ∧ fs (u + 1) ≤ st ∧ cU op wi sv sc us (fs u) U ∧ cG op wi sv sc fs us st (u + 1) G
section CGL
variable {op wi sv sc fs op' wi' sv' sc' fs' : Int → Int} {us us' st st' : Int}
theorem cG_f : ∀ (G : List dU) (u : Int), cG op wi sv sc fs us st u G → (∀ k, u ≤ k → k ≤ u + G.length → fs' k = fs k) → agb sv sv' st → agb sc sc' st → yb_ok us op op' wi wi' → us ≤ us' → st ≤ st' → cG op' wi' sv' sc' fs' us' st' u G := by
  intro G
  induction G with
  | nil => intro u _ _ _ _ _ _ _; trivial
  | cons U G ih =>
    intro u h hf hs hc ho hu hst
    obtain ⟨h1, h2, h3, h4, h5⟩ := h
    have e0 := hf u (Int.le_refl u) (by omega)
    have e1 := hf (u + 1) (by omega) (by rw [List.length_cons]; omega)
    refine ⟨by rw [e0]; exact h1, by rw [e0, e1]; exact h2, by rw [e1]; omega, ?_, ih (u + 1) h5 (fun k k1 k2 => hf k (by omega) (by rw [List.length_cons]; omega)) hs hc ho hu hst⟩
    rw [e0]
    exact cU_f U _ h4 (fun k k1 k2 => ⟨agb_at hs (by omega), agb_at hc (by omega)⟩) ho hu
theorem cG_s : ∀ (G : List dU) (u : Int) (U : dU), cG op wi sv sc fs us st u G → 0 ≤ fs (u + G.length) → fs (u + G.length + 1) = fs (u + G.length) + U.length → fs (u + G.length + 1) ≤ st → cU op wi sv sc us (fs (u + G.length)) U → cG op wi sv sc fs us st u (G ++ [U]) := by
  intro G
  induction G with
  | nil =>
    intro u U _ h1 h2 h3 h4
    have e : u + (([] : List dU).length : Int) = u := Int.add_zero u
    rw [e] at h1 h2 h3 h4
    exact ⟨h1, h2, h3, h4, trivial⟩
  | cons V G ih =>
    intro u U h h1 h2 h3 h4
    have e : u + ((V :: G).length : Int) = u + 1 + G.length := by rw [List.length_cons]; omega
    rw [e] at h1 h2 h3 h4
    exact ⟨h.1, h.2.1, h.2.2.1, h.2.2.2.1, ih (u + 1) U h.2.2.2.2 h1 h2 h3 h4⟩
/-- an UPDATE more, as the class reads it -/
theorem cG_add {u p s0 s1 : Int} {G : List dU} {U : dU} (h : cG op wi sv sc fs us st u G) (hp : p = u + G.length) (hfs : G = [] ∨ fs p = s0) (hst : st = s0) (h0 : 0 ≤ s0) (hs : agb sv sv' s0) (hc : agb sc sc' s0) (ho : yb_ok us op op' wi wi') (hu : us ≤ us') (hU : cU op' wi' sv' sc' us' s0 U) (h1 : s1 = s0 + U.length) : cG op' wi' sv' sc' (hw_up (hw_up fs p s0) (p + 1) s1) us' s1 u (G ++ [U]) := by
  subst hst
  have e0 : hw_up (hw_up fs p st) (p + 1) s1 p = st := by rw [hw_up_n (by omega), hw_up_s]
  have e1 : hw_up (hw_up fs p st) (p + 1) s1 (p + 1) = s1 := hw_up_s
  have hk : cG op' wi' sv' sc' (hw_up (hw_up fs p st) (p + 1) s1) us' s1 u G := by
    rcases hfs with z | z
    · subst z
      trivial
    · refine cG_f G u h (fun k k1 k2 => ?_) hs hc ho hu (by omega)
      rw [hw_up_n (by omega)]
      by_cases e : k = p
      · rw [e, hw_up_s]
        exact z.symm
      · rw [hw_up_n e]
  refine cG_s G u U hk ?_ ?_ ?_ ?_
  · rw [← hp, e0]; exact h0
  · rw [← hp, e0, e1]; exact h1
  · rw [← hp, e1]; exact Int.le_refl _
  · rw [← hp, e0]; exact hU
end CGL
