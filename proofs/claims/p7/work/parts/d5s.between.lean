/-! the model between calls: its processes, policies, values, claims, results -/
section C5s
variable {fo go ab be fc tg ze ze1 po po1 kn kn1 so va vb : Int → Int} {k n ex : Int}
def mi_ok (fo go ab be fc tg ze po kn so : Int → Int) (ex n : Int) (va : Int → Int) : Prop := ∃ _ : Unit, (¬ ex = 0 → mo_ok fo go ab be fc n ∧ (fo_kn fo go ab be fc tg ze po 0 n va (kn 0) ∧ fo_kn fo go ab be fc tg ze po 1 n va (kn 1)) ∧ (¬ so 0 = 0 → ¬ kn 0 = 0) ∧ (¬ so 1 = 0 → ¬ kn 1 = 0)) ∧ (∀ s : Int, 0 ≤ s → s < 24 → va (674 + s) < wB 313 ∧ va (698 + s) < wB 313) ∧ va 790 ≤ va 791 ∧ va 791 < wB 1299
theorem vv_c (h : vv_ok fo go ab be fc po tg ze k n va) (hp : ∀ t : Int, 0 ≤ t → t < n → po1 (k * 24 + t) = po (k * 24 + t)) (hz : ∀ t : Int, 0 ≤ t → t < n → ze1 (k * 24 + t) = ze (k * 24 + t)) (hv : ∀ t : Int, 0 ≤ t → t < n → vb (k * 24 + t) = va (k * 24 + t)) (hd : vb (48 + k) = va (48 + k)) : vv_ok fo go ab be fc po1 tg ze1 k n vb := h.elim fun _ h => by
  have eu : ∀ s : Nat, (s : Int) < n → (uS tg ze1 k n s ↔ uS tg ze k n s) := fun s hs => by
    unfold uS
    rw [hz s (by omega) hs]
  refine ⟨(), ⟨?_, fun s hs => ⟨fun hu => ?_, fun hu => ⟨fun ht => ?_, fun ht => ?_⟩⟩⟩, fun t h1 h2 => ?_, ?_⟩
  · rw [hd]; exact h.1.1
  · have h3 := (h.1.2 s hs).1 ((eu s hu.1).mp hu)
    dsimp only at h3 ⊢
    have e : cS fc po1 k s = cS fc po k s := by
      show fc s + po1 (k * 24 + s) = fc s + po (k * 24 + s)
      rw [hp s (by omega) hu.1]
    rw [e, hv s (by omega) hu.1, h3]
    exact sm_eq (fun t ht => by rw [hv t (by omega) (by omega)])
  · have h3 := ((h.1.2 s hs).2 (fun q => hu ((eu s (by omega)).mpr q))).1 ht
    dsimp only at h3 ⊢
    rw [hv s (by omega) (by omega), hd]; exact h3
  · have h3 := ((h.1.2 s hs).2 (fun q => hu ((eu s (by omega)).mpr q))).2 ht
    dsimp only at h3 ⊢
    rw [hv s (by omega) (by omega)]; exact h3
  · rw [hv t h1 h2, hd]; exact h.2.1 t h1 h2
  · rw [hd]; exact h.2.2
theorem fo_c {x y : Int} (h : fo_kn fo go ab be fc tg ze po k n va x) (hx : y = x) (hp : ∀ t : Int, 0 ≤ t → t < n → po1 (k * 24 + t) = po (k * 24 + t)) (hz : ∀ t : Int, 0 ≤ t → t < n → ze1 (k * 24 + t) = ze (k * 24 + t)) (hv : ∀ t : Int, 0 ≤ t → t < n → vb (k * 24 + t) = va (k * 24 + t)) (hd : vb (48 + k) = va (48 + k)) : fo_kn fo go ab be fc tg ze1 po1 k n vb y := h.elim fun _ h => ⟨(), fun q => by
  have h1 := h (by omega)
  exact ⟨⟨(), fun s q1 q2 => by rw [hp s q1 q2]; exact po_e h1.1 q1 q2⟩, vv_c h1.2 hp hz hv hd⟩⟩
theorem mi_m (h : mi_ok fo go ab be fc tg ze po kn so ex n va) (he : ¬ ex = 0) : mo_ok fo go ab be fc n := h.elim fun _ h => (h.1 he).1
theorem mi_k0 (h : mi_ok fo go ab be fc tg ze po kn so ex n va) (he : ¬ ex = 0) : fo_kn fo go ab be fc tg ze po 0 n va (kn 0) := h.elim fun _ h => (h.1 he).2.1.1
theorem mi_k1 (h : mi_ok fo go ab be fc tg ze po kn so ex n va) (he : ¬ ex = 0) : fo_kn fo go ab be fc tg ze po 1 n va (kn 1) := h.elim fun _ h => (h.1 he).2.1.2
theorem mi_s0 (h : mi_ok fo go ab be fc tg ze po kn so ex n va) (he : ¬ ex = 0) (hs : ¬ so 0 = 0) : po_ok fc po 0 n ∧ vv_ok fo go ab be fc po tg ze 0 n va := h.elim fun _ h => fo_1 (h.1 he).2.1.1 ((h.1 he).2.2.1 hs)
theorem mi_s1 (h : mi_ok fo go ab be fc tg ze po kn so ex n va) (he : ¬ ex = 0) (hs : ¬ so 1 = 0) : po_ok fc po 1 n ∧ vv_ok fo go ab be fc po tg ze 1 n va := h.elim fun _ h => fo_1 (h.1 he).2.1.2 ((h.1 he).2.2.2 hs)
theorem mi_cl (h : mi_ok fo go ab be fc tg ze po kn so ex n va) {s : Int} (h1 : 0 ≤ s) (h2 : s < 24) : va (674 + s) < wB 313 ∧ va (698 + s) < wB 313 := h.elim fun _ h => h.2.1 s h1 h2
theorem mi_r (h : mi_ok fo go ab be fc tg ze po kn so ex n va) : va 790 ≤ va 791 ∧ va 791 < wB 1299 := h.elim fun _ h => h.2.2
/-- found: greatest, least -/
theorem mi_f0 (hf : ff va vb 0) (hk : kf kn1 kn 0) (hz : pf0 ze1 ze) (hp : pf0 po1 po) (h1 : po_ok fc po1 0 n) (h2 : vv_ok fo go ab be fc po1 tg ze1 0 n vb) (h : mi_ok fo go ab be fc tg ze po kn so ex n va) (he : ¬ ex = 0) : mi_ok fo go ab be fc tg ze1 po1 kn1 so ex n vb ∧ kn1 0 = 1 := by
  have h0 := h
  refine hf.elim fun _ hf => hk.elim fun _ hk => hz.elim fun _ hz => hp.elim fun _ hp => h0.elim fun _ h0 => ⟨⟨(), fun e => ?_, fun s q1 q2 => ?_, ?_⟩, hk.1⟩
  · have h3 := h0.1 e
    have hn := mo_n h3.1
    have k1 : kn1 1 = kn 1 := hk.2 1 (by decide)
    refine ⟨h3.1, ⟨⟨(), fun _ => ⟨h1, h2⟩⟩, fo_c h3.2.1.2 k1 (fun t q1 q2 => hp _ (by omega)) (fun t q1 q2 => hz _ (by omega)) (fun t q1 q2 => hf _ (by omega) (by omega) (by omega) (by omega)) (hf _ (by omega) (by omega) (by omega) (by omega))⟩, fun _ => by rw [hk.1]; decide, fun q => by rw [k1]; exact h3.2.2.2 q⟩
  · rw [hf _ (by omega) (by omega) (by omega) (by omega), hf _ (by omega) (by omega) (by omega) (by omega)]
    exact h0.2.1 s q1 q2
  · rw [hf 790 (by omega) (by omega) (by omega) (by omega), hf 791 (by omega) (by omega) (by omega) (by omega)]
    exact h0.2.2
theorem mi_f1 (hf : ff va vb 1) (hk : kf kn1 kn 1) (hz : pf1 ze1 ze) (hp : pf1 po1 po) (h1 : po_ok fc po1 1 n) (h2 : vv_ok fo go ab be fc po1 tg ze1 1 n vb) (h : mi_ok fo go ab be fc tg ze po kn so ex n va) (he : ¬ ex = 0) : mi_ok fo go ab be fc tg ze1 po1 kn1 so ex n vb ∧ kn1 1 = 1 := by
  have h0 := h
  refine hf.elim fun _ hf => hk.elim fun _ hk => hz.elim fun _ hz => hp.elim fun _ hp => h0.elim fun _ h0 => ⟨⟨(), fun e => ?_, fun s q1 q2 => ?_, ?_⟩, hk.1⟩
  · have h3 := h0.1 e
    have hn := mo_n h3.1
    have k1 : kn1 0 = kn 0 := hk.2 0 (by decide)
    refine ⟨h3.1, ⟨fo_c h3.2.1.1 k1 (fun t q1 q2 => hp _ (by omega)) (fun t q1 q2 => hz _ (by omega)) (fun t q1 q2 => hf _ (by omega) (by omega) (by omega) (by omega)) (hf _ (by omega) (by omega) (by omega) (by omega)), ⟨(), fun _ => ⟨h1, h2⟩⟩⟩, fun q => by rw [k1]; exact h3.2.2.1 q, fun _ => by rw [hk.1]; decide⟩
  · rw [hf _ (by omega) (by omega) (by omega) (by omega), hf _ (by omega) (by omega) (by omega) (by omega)]
    exact h0.2.1 s q1 q2
  · rw [hf 790 (by omega) (by omega) (by omega) (by omega), hf 791 (by omega) (by omega) (by omega) (by omega)]
    exact h0.2.2
theorem mi_so {i : Int} (h : mi_ok fo go ab be fc tg ze po kn so ex n va) (hi : i = 0 ∨ i = 1) (hk : kn i = 1) : mi_ok fo go ab be fc tg ze po kn (hw_up so i 1) ex n va := h.elim fun _ h => ⟨(), fun e => by
  have h3 := h.1 e
  refine ⟨h3.1, h3.2.1, fun q => ?_, fun q => ?_⟩
  · by_cases e1 : i = 0
    · subst e1; rw [hk]; decide
    · rw [hw_up_n (by omega)] at q
      exact h3.2.2.1 q
  · by_cases e1 : i = 1
    · subst e1; rw [hk]; decide
    · rw [hw_up_n (by omega)] at q
      exact h3.2.2.2 q, h.2⟩
/-- other numbers change -/
theorem mi_v (h : mi_ok fo go ab be fc tg ze po kn so ex n va) (hn : n ≤ 24) (hq : ∀ q : Int, 0 ≤ q ∧ q < 50 → vb q = va q) (hc : ∀ s : Int, 0 ≤ s → s < 24 → vb (674 + s) < wB 313 ∧ vb (698 + s) < wB 313) (hr : vb 790 ≤ vb 791 ∧ vb 791 < wB 1299) : mi_ok fo go ab be fc tg ze po kn so ex n vb := h.elim fun _ h => ⟨(), fun e => by
  have h3 := h.1 e
  exact ⟨h3.1, ⟨fo_c h3.2.1.1 rfl (fun _ _ _ => rfl) (fun _ _ _ => rfl) (fun t q1 q2 => hq _ (by omega)) (hq _ (by omega)), fo_c h3.2.1.2 rfl (fun _ _ _ => rfl) (fun _ _ _ => rfl) (fun t q1 q2 => hq _ (by omega)) (hq _ (by omega))⟩, h3.2.2⟩, hc, hr⟩
theorem mi_cu {s x : Int} (h : mi_ok fo go ab be fc tg ze po kn so ex n va) (hn : n ≤ 24) (hs : 674 ≤ s ∧ s < 722) (hx : x < wB 313) : mi_ok fo go ab be fc tg ze po kn so ex n (hw_up va s x) := by
  refine mi_v h hn (fun q hq => hw_up_n (by omega)) (fun t h1 h2 => ?_) ?_
  · have h3 := mi_cl h h1 h2
    refine ⟨?_, ?_⟩
    · by_cases e : 674 + t = s
      · rw [e, hw_up_s]; exact hx
      · rw [hw_up_n e]; exact h3.1
    · by_cases e : 698 + t = s
      · rw [e, hw_up_s]; exact hx
      · rw [hw_up_n e]; exact h3.2
  · rw [hw_up_n (by omega), hw_up_n (by omega)]; exact mi_r h
theorem mi_sc {s x : Int} (h : mi_ok fo go ab be fc tg ze po kn so ex n va) (hn : n ≤ 24) (hs : 775 ≤ s ∧ s ≤ 789) : mi_ok fo go ab be fc tg ze po kn so ex n (hw_up va s x) := mi_v h hn (fun q hq => hw_up_n (by omega)) (fun t h1 h2 => by rw [hw_up_n (by omega), hw_up_n (by omega)]; exact mi_cl h h1 h2) (by rw [hw_up_n (by omega), hw_up_n (by omega)]; exact mi_r h)
/-- lowest terms of a part of a whole -/
theorem lo_b {a b x y W : Int} (h : lo_v a b x y) (h0 : 0 ≤ a) (h1 : a ≤ b) (h2 : b < W) (hW : 1 < W) : x ≤ y ∧ y < W := h.elim fun _ h => by
  by_cases e : a = 0
  · have h3 := h.1 e
    rw [h3.1, h3.2]
    exact ⟨by decide, hW⟩
  · have h3 := h.2 (by omega)
    rw [h3.1, h3.2]
    have g1 := gd_pos (a := a) (b := b) (by omega)
    exact ⟨Int.ediv_le_ediv (by omega) h1, Int.lt_of_le_of_lt (Int.ediv_le_self _ (by omega)) h2⟩
theorem mi_lo {a b : Int} (h : mi_ok fo go ab be fc tg ze po kn so ex n va) (hl : lo_fr (hw_up (hw_up va 790 a) 791 b) vb 790 791) (hv : lo_v (hw_up (hw_up va 790 a) 791 b 790) (hw_up (hw_up va 790 a) 791 b 791) (vb 790) (vb 791)) (hn : n ≤ 24) (h0 : 0 ≤ a) (h1 : a ≤ b) (h2 : b < wB 1299) : mi_ok fo go ab be fc tg ze po kn so ex n vb := by
  rw [hw_up_n (by decide), hw_up_s, hw_up_s] at hv
  have hW : (1 : Int) < wB 1299 := by
    have h3 : wB 1298 + wB 1298 ≤ wB 1299 := wB_2 (m := 1298)
    have h4 := wB_pos (m := 1298)
    omega
  refine mi_v h hn (fun q hq => ?_) (fun t q1 q2 => ?_) (lo_b hv h0 h1 h2 hW)
  · exact (lo_e hl (by omega) (by omega) (by omega)).trans ((hw_up_n (by omega)).trans (hw_up_n (by omega)))
  · rw [lo_e hl (by omega) (by omega) (by omega), lo_e hl (by omega) (by omega) (by omega), hw_up_n (by omega), hw_up_n (by omega), hw_up_n (by omega), hw_up_n (by omega)]
    exact mi_cl h q1 q2
end C5s
