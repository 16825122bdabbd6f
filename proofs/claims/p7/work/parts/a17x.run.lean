/-! an expression's run, as the reader makes it -/
section YX
variable {k : Int → Int} {od : Int → Option (Int × Int × Int)} {R0 : Option (Int × Int × yC)} {W W' : List yE} {o d d' j j' ty x : Int} {C C' : yC} {c : yG}
theorem ex_E (h0 : R0 = yR k od (o, W, d, C, x) (k j) j) (h : ywant (od j) (k j) W d C = none ∨ is2 (ywant (od j) (k j) W d C) ∧ ¬ k (j + 1) = 39) (ho : o = 1) (hj : j < 1500) : R0 = none := by
  subst ho
  rcases h with h | ⟨h, h2⟩
  · exact rx_0 h0 h (by omega)
  · exact rx_2k h0 h h2 hj
theorem ex_1 (h0 : R0 = yR k od (o, W, d, C, x) (k j) j) (h : ywant (od j) (k j) W d C = some (.inl c)) (ha : ad k j = some j') (ho : o = 1) (hj : j < 1500) : R0 = yR k od c (k j') j' := by
  subst ho
  exact rx_1 h0 h ha (by omega)
theorem ex_1n (h0 : R0 = yR k od (o, W, d, C, x) (k j) j) (h : ywant (od j) (k j) W d C = some (.inl c)) (ha : ad k j = none) (ho : o = 1) (hj : j < 1500) : R0 = none := by
  subst ho
  exact rx_1n h0 h ha (by omega)
theorem ex_2 {j1 y : Int} (h0 : R0 = yR k od (o, W, d, C, x) (k j) j) (h : ywant (od j) (k j) W d C = some (.inl (2, W', d', C', ty))) (ha : ad k j1 = some j') (h1 : j1 = j + 1) (hk : k j1 = 39) (ho : o = 1) (hj : j < 1500) : R0 = yR k od (o, W', d', C', yty o y) (k j') j' := by
  subst ho
  exact rx_2 h0 h ha h1 hk hj
theorem ex_2n {j1 : Int} (h0 : R0 = yR k od (o, W, d, C, x) (k j) j) (h : ywant (od j) (k j) W d C = some (.inl (2, W', d', C', ty))) (ha : ad k j1 = none) (h1 : j1 = j + 1) (hk : k j1 = 39) (ho : o = 1) (hj : j < 1500) : R0 = none := by
  subst ho
  exact rx_2n h0 h ha h1 hk hj
theorem ex_h0 (h0 : R0 = yR k od (o, W, d, C, yty o ty) (k j) j) (h : yhave (k j) W d C ty = none) (ho : o = 0) (hj : j < 1500) : R0 = none := by
  subst ho
  exact rx_h0 h0 h (by omega)
theorem ex_h1 (h0 : R0 = yR k od (o, W, d, C, yty o ty) (k j) j) (h : yhave (k j) W d C ty = some (.inl c)) (ha : ad k j = some j') (ho : o = 0) (hj : j < 1500) : R0 = yR k od c (k j') j' := by
  subst ho
  exact rx_h1 h0 h ha (by omega)
theorem ex_h1n (h0 : R0 = yR k od (o, W, d, C, yty o ty) (k j) j) (h : yhave (k j) W d C ty = some (.inl c)) (ha : ad k j = none) (ho : o = 0) (hj : j < 1500) : R0 = none := by
  subst ho
  exact rx_h1n h0 h ha (by omega)
theorem ex_hd {t1 : Int} (h0 : R0 = yR k od (o, W, d, C, yty o ty) (k j) j) (h : yhave (k j) W d C ty = some (.inr (t1, C'))) (ho : o = 0) (hj : j < 1500) : R0 = some (j, t1, C') := by
  subst ho
  exact rx_hd h0 h (by omega)
end YX
theorem yw_I {o : Option (Int × Int × Int)} {q d n m d' t' m' : Int} {W W' : List yE} {C C' : yC} (hI : yII W d C n) (h : ywant o q W d C = some (.inl (m, W', d', C', t'))) (hn : n + 1 ≤ m') : yII W' d' C' m' := by
  obtain ⟨_, z⟩ := ywantI hI h
  exact ⟨(), yI_le z hn⟩
theorem yv_I {q d ty n m d' t' m' : Int} {W W' : List yE} {C C' : yC} (hI : yII W d C n) (h : yhave q W d C ty = some (.inl (m, W', d', C', t'))) (hn : n + 1 ≤ m') : yII W' d' C' m' := by
  obtain ⟨_, z⟩ := yhaveI hI h
  exact ⟨(), yI_le z hn⟩
theorem yII_0 {fr n : Int} {wk wr wt wj op wi : Int → Int} (h : 0 ≤ n) : yII (yW fr 0 wk wr wt wj) 0 (yCo fr fr op wi) n := by
  rw [yCo_0]
  exact ⟨(), yI_0 h⟩
theorem yR_0 {k : Int → Int} {od : Int → Option (Int × Int × Int)} {fr ty q j : Int} {wk wr wt wj op wi : Int → Int} : yR k od (1, [], 0, [], 0) q j = yR k od (1, yW fr 0 wk wr wt wj, 0, yCo fr fr op wi, yty 1 ty) q j := by
  rw [yCo_0]
  rfl
theorem yCo_cut {fr u q c v : Int} {op wi : Int → Int} (hu : fr ≤ u) (hq : q = u + 1) : yCo fr (q - 1) (hw_up op u c) (hw_up wi u v) = yCo fr u op wi := by
  subst hq
  rw [show u + 1 - 1 = u by omega]
  unfold yCo
  refine yCf_eq _ (fun i hi => ?_)
  rw [hw_up_n (by omega), hw_up_n (by omega)]
  exact ⟨rfl, rfl⟩
theorem yex_e {t : Int → Int} {n vk x j j' ty fr u q c v : Int} {L : yN} {op wi : Int → Int} (h : yR (kd t n) (odl t n L vk) (1, [], 0, [], 0) (kd t n j) j = some (j', ty, yCo fr u op wi)) (hx : ty = x) (hu : fr ≤ u) (hq : q = u + 1) : yex t n L vk x j = some (j', yCo fr (q - 1) (hw_up op u c) (hw_up wi u v)) := by
  rw [yCo_cut hu hq]
  exact yex_s h hx
theorem up_1 {op : Int → Int} {u q c : Int} (hq : q = u + 1) : hw_up op u c (q - 1) = c := by
  subst hq
  rw [show u + 1 - 1 = u by omega]
  exact hw_up_s
