/-! the program for the abstract machine -/
def hv_cil (n : Nat) : List (Nat × Int) := match n with
  | 6 => [(63, 1000000)]
  | 7 => [(48, 1000000)]
  | 13 => [(199, 64000)]
  | 14 => [(26, 65535)]
  | 19 => [(264, 65536)]
  | _ => []
def hv_cjl (n : Nat) : List (Nat × Int) := match n with
  | 3 => [(47, 9223372036854775807)]
  | 5 => [(25, 2147483647)]
  | 7 => [(82, 2147483647)]
  | 8 => [(139, 1000)]
  | 12 => [(113, 4294967295)]
  | 13 => [(538, 1000), (666, 31)]
  | 14 => [(17, 65535), (27, 16), (29, 15)]
  | _ => []
def hv_D : hw_D := hw_og pg_G (fun f => (pg_hh f).isEmpty) (fun f x => (hv_cil (pg_pc f)).lookup x) (fun f x => (hv_cjl (pg_pc f)).lookup x)
def hv_ti (n : Nat) : Bool := (hv_cil n).all (fun q => match pg_pool (pg_plr n) q.1 with
  | some (.inr (.inr (.inr (.inl v)))) => decide (v.toInt = q.2)
  | _ => false)
def hv_tj (n : Nat) : Bool := (hv_cjl n).all (fun q => match pg_pool (pg_plr n) q.1 with
  | some (.inr (.inr (.inr (.inr (.inl v))))) => decide (v.toInt = q.2)
  | _ => false)
theorem hv_tia : (List.range 22).all hv_ti = true := by decide +kernel
theorem hv_tja : (List.range 22).all hv_tj = true := by decide +kernel
theorem hv_ti_all (n : Nat) : hv_ti n = true := by
  rcases Nat.lt_or_ge n 22 with h | h
  · exact List.all_eq_true.mp hv_tia n (List.mem_range.mpr h)
  · unfold hv_ti hv_cil
    split
    all_goals first | rfl | (exfalso; omega)
theorem hv_tj_all (n : Nat) : hv_tj n = true := by
  rcases Nat.lt_or_ge n 22 with h | h
  · exact List.all_eq_true.mp hv_tja n (List.mem_range.mpr h)
  · unfold hv_tj hv_cjl
    split
    all_goals first | rfl | (exfalso; omega)
theorem hv_DG : hw_DG hv_D pg_G := by
  refine hw_og_ok (fun f hf pc ec => ?_) (fun f x c h => ?_) (fun f x c h => ?_)
  · show (if pg_hh f = [] then some none else _) = _
    rw [if_pos (List.isEmpty_iff.mp hf)]
  · have hq := List.all_eq_true.mp (hv_ti_all (pg_pc f)) _ (pg_look h)
    dsimp only at hq
    split at hq
    · rename_i v hv
      exact ⟨v, hv, of_decide_eq_true hq⟩
    · cases hq
  · have hq := List.all_eq_true.mp (hv_tj_all (pg_pc f)) _ (pg_look h)
    dsimp only at hq
    split at hq
    · rename_i v hv
      exact ⟨v, hv, of_decide_eq_true hq⟩
    · cases hq
section HVR
variable {G : mm_G} {TT : mm_T} {scr : Nat × (Nat → Int32)} {T : hw_T} {D : hw_D} {d f : Nat} {K : Option hw_V → hw_Z → Prop} {E : Nat → hw_Z → Prop}
/-- locals may be forgotten -/
def hw_le : hw_L → hw_L → Prop
  | [], [] => True
  | none :: r, _ :: r' => hw_le r r'
  | some v :: r, some v' :: r' => v = v' ∧ hw_le r r'
  | _, _ => False
theorem hw_le_ok : ∀ {L' L : hw_L}, hw_le L' L → L'.length = L.length ∧ ∀ i v, hw_ld L' i = some v → hw_ld L i = some v
  | [], [], _ => ⟨rfl, fun _ _ h => h⟩
  | none :: r, x :: r', h => by
    have h : hw_le r r' := h
    obtain ⟨h1, h2⟩ := hw_le_ok h
    refine ⟨by rw [List.length_cons, List.length_cons, h1], fun i v hv => ?_⟩
    cases i with
    | zero => cases hv
    | succ i => exact h2 i v hv
  | some a :: r, some b :: r', h => by
    have h : a = b ∧ hw_le r r' := h
    obtain ⟨h0, h⟩ := h
    obtain ⟨h1, h2⟩ := hw_le_ok h
    refine ⟨by rw [List.length_cons, List.length_cons, h1], fun i v hv => ?_⟩
    cases i with
    | zero => rw [h0] at hv; exact hv
    | succ i => exact h2 i v hv
  | some _ :: _, none :: _, h => h.elim
  | [], _ :: _, h => h.elim
  | none :: _, [], h => h.elim
  | some _ :: _, [], h => h.elim
theorem hw_W_le {pc : Nat} {L L' : hw_L} {st : List hw_V} {Z : hw_Z} (hl : hw_le L' L) (h : hw_W G TT scr T d f K E (pc, L', st, Z)) : hw_W G TT scr T d f K E (pc, L, st, Z) := by
  intro M us S Q hL hs hR hroom hK hE
  obtain ⟨h1, h2⟩ := hw_le_ok hl
  have hL : hw_ls T L M := hL
  exact h M us S Q ⟨by rw [hL.1]; exact h1.symm, fun i v hv => hL.2 i v (h2 i v hv)⟩ hs hR hroom hK hE
/-- is the place among those? -/
noncomputable def hw_in (pc : Nat) (cs : List Nat) : Bool := List.rec (motive := fun _ => Bool) false (fun a _ ih => bif Nat.beq pc a then true else ih) cs
/-- a walk with an unknown goal and unknown calls; the places in a list are not walked into -/
theorem hw_run (hU : hw_U T) (hD : hw_DG D G) {k : hw_K} (h : ∀ (w : hw_K → Prop) (X : hw_X), (∀ (cs : List Nat) k, hw_in k.1 cs = false → hw_body D TT T X f K E w k → w k) → (∀ g as Z K E, hw_C G TT scr T d g as Z K E → X g as Z K E) → (∀ {pc L L' st Z}, hw_le L' L → w (pc, L', st, Z) → w (pc, L, st, Z)) → w k) : hw_W G TT scr T d f K E k :=
  h (hw_W G TT scr T d f K E) (fun g as Z K E => hw_C G TT scr T d g as Z K E) (fun _ _ _ => hw_step hU hD) (fun _ _ _ _ _ h => h) hw_W_le
theorem hw_meth (hU : hw_U T) (hD : hw_DG D G) {g : Nat} {args : List hw_V} {Z : hw_Z} {L : hw_L} (he : hw_nl (hw_entry (D.2.2.2 g).2.1 args) (fun l => L = l ∧ Nat.beq l.length (D.2.2.2 g).2.1 = true)) (h : ∀ (w : hw_K → Prop) (X : hw_X), (∀ (cs : List Nat) k, hw_in k.1 cs = false → hw_body D TT T X g K E w k → w k) → (∀ g as Z K E, hw_C G TT scr T d g as Z K E → X g as Z K E) → (∀ {pc L L' st Z}, hw_le L' L → w (pc, L', st, Z) → w (pc, L, st, Z)) → w (0, L, [], Z)) : hw_C G TT scr T (d + 1) g args Z K E :=
  hw_enter hD he (hw_run hU hD h)
end HVR
theorem hw_up_up {α : Type} {g : Int → α} {i : Int} {x y : α} : hw_up (hw_up g i x) i y = hw_up g i y := by
  funext q
  unfold hw_up
  by_cases h : q = i
  · rw [if_pos h, if_pos h]
  · rw [if_neg h, if_neg h, if_neg h]
theorem hw_up_id {α : Type} (g : Int → α) (i : Int) : g = hw_up g i (g i) := by
  funext q
  unfold hw_up
  by_cases h : q = i
  · rw [if_pos h, h]
  · rw [if_neg h]
