/-! COMMANDS, variables in the class's arrays -/
/-- a COMMAND in the class's arrays -/
def cK (op wi sv sc fs fu ho ac gu : Int → Int) (us st up k : Int) (c : dC) : Prop := ∃ _ : Unit, ho k = c.1 ∧ ac k = c.2.1 ∧ cdA op wi us (gu k) c.2.2.1 ∧ 0 ≤ fu k ∧ fu (k + 1) = fu k + c.2.2.2.length ∧ fu (k + 1) ≤ up ∧ cG op wi sv sc fs us st (fu k) c.2.2.2
def cKs (op wi sv sc fs fu ho ac gu : Int → Int) (us st up : Int) : Int → List dC → Prop
  | _, [] => True
  | k, c :: r => cK op wi sv sc fs fu ho ac gu us st up k c ∧ cKs op wi sv sc fs fu ho ac gu us st up (k + 1) r
section CKL
variable {op wi sv sc fs fu ho ac gu op' wi' sv' sc' fs' fu' ho' ac' gu' : Int → Int} {us us' st st' up up' : Int}
theorem cKs_f : ∀ (l : List dC) (k : Int), cKs op wi sv sc fs fu ho ac gu us st up k l → (∀ i, k ≤ i → i < k + l.length → ho' i = ho i ∧ ac' i = ac i ∧ gu' i = gu i) → (∀ i, k ≤ i → i ≤ k + l.length → fu' i = fu i) → agb fs fs' (up + 1) → agb sv sv' st → agb sc sc' st → yb_ok us op op' wi wi' → us ≤ us' → st ≤ st' → up ≤ up' → cKs op' wi' sv' sc' fs' fu' ho' ac' gu' us' st' up' k l := by
  intro l
  induction l with
  | nil => intro k _ _ _ _ _ _ _ _ _ _; trivial
  | cons c l ih =>
    intro k h ha hf hfs hs hc hy hu hst hup
    obtain ⟨⟨_, h1, h2, h3, h4, h5, h6, h7⟩, h8⟩ := h
    have e := ha k (Int.le_refl k) (by rw [List.length_cons]; omega)
    have f0 := hf k (Int.le_refl k) (by omega)
    have f1 := hf (k + 1) (by omega) (by rw [List.length_cons]; omega)
    refine ⟨⟨(), by rw [e.1]; exact h1, by rw [e.2.1]; exact h2, by rw [e.2.2]; exact cdA_f h3 hy hu, by rw [f0]; exact h4, by rw [f0, f1]; exact h5, by rw [f1]; omega, ?_⟩, ih (k + 1) h8 (fun i i1 i2 => ha i (by omega) (by rw [List.length_cons]; omega)) (fun i i1 i2 => hf i (by omega) (by rw [List.length_cons]; omega)) hfs hs hc hy hu hst hup⟩
    rw [f0]
    exact cG_f _ _ h7 (fun i i1 i2 => agb_at hfs (by omega)) hs hc hy hu hst
theorem cKs_s : ∀ (l : List dC) (k : Int) (c : dC), cKs op wi sv sc fs fu ho ac gu us st up k l → cK op wi sv sc fs fu ho ac gu us st up (k + l.length) c → cKs op wi sv sc fs fu ho ac gu us st up k (l ++ [c]) := by
  intro l
  induction l with
  | nil =>
    intro k c _ h
    have e : k + (([] : List dC).length : Int) = k := Int.add_zero k
    rw [e] at h
    exact ⟨h, trivial⟩
  | cons x l ih =>
    intro k c h h2
    have e : k + ((x :: l).length : Int) = k + 1 + l.length := by rw [List.length_cons]; omega
    rw [e] at h2
    exact ⟨h.1, ih (k + 1) c h.2 h2⟩
end CKL
/-- variables in rows: low, high, first -/
def cVs (lo hi bg : Int → Int) : Int → List (Int × Int × Int) → Prop
  | _, [] => True
  | v, x :: r => lo v = x.1 ∧ hi v = x.2.1 ∧ bg v = x.2.2 ∧ cVs lo hi bg (v + 1) r
theorem cVs_f {lo hi bg lo' hi' bg' : Int → Int} : ∀ (l : List (Int × Int × Int)) (v : Int), cVs lo hi bg v l → (∀ i, v ≤ i → i < v + l.length → lo' i = lo i ∧ hi' i = hi i ∧ bg' i = bg i) → cVs lo' hi' bg' v l := by
  intro l
  induction l with
  | nil => intro v _ _; trivial
  | cons x l ih =>
    intro v h ha
    have e := ha v (Int.le_refl v) (by rw [List.length_cons]; omega)
    exact ⟨by rw [e.1]; exact h.1, by rw [e.2.1]; exact h.2.1, by rw [e.2.2]; exact h.2.2.1, ih (v + 1) h.2.2.2 (fun i i1 i2 => ha i (by omega) (by rw [List.length_cons]; omega))⟩
theorem cVs_s {lo hi bg : Int → Int} : ∀ (l : List (Int × Int × Int)) (v : Int) (x : Int × Int × Int), cVs lo hi bg v l → lo (v + l.length) = x.1 ∧ hi (v + l.length) = x.2.1 ∧ bg (v + l.length) = x.2.2 → cVs lo hi bg v (l ++ [x]) := by
  intro l
  induction l with
  | nil =>
    intro v x _ h
    have e : v + (([] : List (Int × Int × Int)).length : Int) = v := Int.add_zero v
    rw [e] at h
    exact ⟨h.1, h.2.1, h.2.2, trivial⟩
  | cons y l ih =>
    intro v x h h2
    have e : v + ((y :: l).length : Int) = v + 1 + l.length := by rw [List.length_cons]; omega
    rw [e] at h2
    exact ⟨h.1, h.2.1, h.2.2.1, ih (v + 1) x h.2.2.2 h2⟩
theorem cVs_add {lo hi bg : Int → Int} {V a b c : Int} {l : List (Int × Int × Int)} (h : cVs lo hi bg 0 l) (hV : V = l.length) : cVs (hw_up lo V a) (hw_up hi V b) (hw_up bg V c) 0 (l ++ [(a, b, c)]) := by
  subst hV
  have e : (0 : Int) + (l.length : Int) = l.length := Int.zero_add _
  refine cVs_s l 0 _ (cVs_f l 0 h (fun i i1 i2 => ?_)) ?_
  · rw [hw_up_n (by omega), hw_up_n (by omega), hw_up_n (by omega)]
    exact ⟨rfl, rfl, rfl⟩
  · rw [e, hw_up_s, hw_up_s, hw_up_s]
    exact ⟨rfl, rfl, rfl⟩
