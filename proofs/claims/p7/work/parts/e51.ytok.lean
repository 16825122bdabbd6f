/-! the model: TOKENS -/
section CY51
variable {scr : Nat × (Nat → Int32)} {d : Nat} {K : Option hw_V → hw_Z → Prop} {E : Nat → hw_Z → Prop} {Z : hw_Z} {kof : Nat → Nat × Int} {own : Nat → Prop} {z_m_err z_m_fed z_m_wrong z_m_letters z_m_there z_m_kind z_m_word z_m_from z_m_to z_m_tokens z_m_names z_m_vars z_m_modules z_m_commands z_m_actions z_m_target z_m_phase z_m_codes z_m_deep z_m_bool z_m_broken z_m_explored z_m_states z_m_choices z_m_outcomes z_m_problem : Int} {z_m_text z_m_nameFrom z_m_nameSize z_m_nameKind z_m_nameValue z_m_actionFrom z_m_actionSize z_m_commandModule z_m_commandAction z_m_guard z_m_updates z_m_over z_m_under z_m_setTo z_m_code z_m_firstChoice z_m_firstOutcome z_m_goesTo z_m_taken z_m_step z_m_chosen z_m_isTarget z_m_holds z_m_above z_m_below z_m_solved z_m_known z_m_zero z_m_policy z_m_unknown z_m_index z_m_got z_m_set z_m_stack z_m_now z_m_next z_m_value z_m_octets z_m_varModule z_m_low z_m_high z_m_first z_m_isBool z_nn : Int → Int} {z_dg : Int → Int → Int}
/-! what stands at a place -/
def wsq (t : Int → Int) (n p j m : Int) : Prop := ∃ _ : Unit, ∀ i, 0 ≤ i → i < m → cO t n (p + i) = hw_sc pg_sb j i
def wsqn (t : Int → Int) (n p j m : Int) : Prop := ∃ _ : Unit, ¬ wsq t n p j m
theorem wsq_0 {t : Int → Int} {n p j : Int} : wsq t n p j 0 := ⟨(), fun i h1 h2 => absurd h1 (by omega)⟩
theorem wsq_s {t : Int → Int} {n p j k k' q x y : Int} (h : wsq t n p j k) (hx : x = cO t n q) (hq : q = p + k) (hy : y = hw_sc pg_sb j k) (e : x = y) (hk : k' = k + 1) : wsq t n p j k' := by
  subst hx hq hy hk
  refine ⟨(), fun i h1 h2 => ?_⟩
  by_cases z : i = k
  · rw [z]; exact e
  · exact h.elim fun _ h => h i h1 (by omega)
theorem wsq_e {t : Int → Int} {n p j k m : Int} (h : wsq t n p j k) (hm : m ≤ k) : wsq t n p j m := ⟨(), fun i h1 h2 => h.elim fun _ h => h i h1 (by omega)⟩
theorem wsq_n {t : Int → Int} {n p j k q x y m : Int} (hx : x = cO t n q) (hy : y = hw_sc pg_sb j k) (hq : q = p + k) (e : ¬ x = y) (h0 : 0 ≤ k) (hm : k < m) : wsqn t n p j m := by
  subst hx hq hy
  exact ⟨(), fun h => h.elim fun _ h => e (h k h0 hm)⟩
theorem wm_i {t : Int → Int} {n p s w m : Int} (h : wsq t n p (4 + w) m) (hm : m = hw_sl pg_sb (4 + w)) (hs : m = s) : wm t n p s w := by
  subst hm
  obtain ⟨_, h⟩ := h
  exact ⟨hs, fun i h1 h2 => h i h1 (by omega)⟩
theorem wm_no {t : Int → Int} {n p s w m : Int} (h : wsqn t n p (4 + w) m) (hm : m = hw_sl pg_sb (4 + w)) : ¬ wm t n p s w := fun q => h.elim fun _ h => h ⟨(), fun i h1 h2 => q.2 i h1 (by rw [← q.1, ← hm]; exact h2)⟩
theorem wm_l {t : Int → Int} {n p s w m : Int} (hm : m = hw_sl pg_sb (4 + w)) (hs : ¬ m = s) : ¬ wm t n p s w := fun q => hs (by rw [hm]; exact q.1)
theorem wm_1 {t : Int → Int} {n p s w w' : Int} (h : wm t n p s w) (h' : wm t n p s w') (h0 : 0 ≤ w ∧ w ≤ 12) (h1 : 0 ≤ w' ∧ w' ≤ 12) : w = w' := by
  have e := se_all (j := 4 + w) (k := 4 + w') (i := s) ⟨(), fun q q1 q2 => by rw [← h.2 q q1 q2, ← h'.2 q q1 q2]⟩ (by omega) (by omega) (by rw [h.1, h'.1]) (by rw [h.1]; exact Int.le_refl s)
  omega
/-- words up to w are looked at -/
def wdi (t : Int → Int) (n p s w k d : Int) : Prop := ∃ _ : Unit, (k = 0 ∧ wk t n p s = wki t n p s w) ∨ (k = 4 ∧ (0 ≤ d ∧ d ≤ 12) ∧ wm t n p s d ∧ wk t n p s = 5 + d)
theorem wdi_0 {t : Int → Int} {n p s d : Int} : wdi t n p s 0 0 d := ⟨(), Or.inl ⟨rfl, rfl⟩⟩
theorem wdi_h {t : Int → Int} {n p s w w' k d : Int} (h : wdi t n p s w k d) (hm : wm t n p s w) (hw : w' = w + 1) (h0 : 0 ≤ w) (h1 : w ≤ 12) : wdi t n p s w' 4 w := by
  obtain ⟨_, ⟨_, h⟩ | ⟨_, h2, h3, h4⟩⟩ := h
  · exact ⟨(), Or.inr ⟨rfl, ⟨h0, h1⟩, hm, wk_hit h (by omega) hm⟩⟩
  · have e := wm_1 h3 hm h2 ⟨h0, h1⟩
    subst e
    exact ⟨(), Or.inr ⟨rfl, h2, h3, h4⟩⟩
theorem wdi_m {t : Int → Int} {n p s w w' k d : Int} (h : wdi t n p s w k d) (hm : ¬ wm t n p s w) (hw : w' = w + 1) (h1 : w ≤ 12) : wdi t n p s w' k d := by
  obtain ⟨_, ⟨e, h⟩ | h⟩ := h
  · exact ⟨(), Or.inl ⟨e, wk_miss h (by omega) hm hw⟩⟩
  · exact ⟨(), Or.inr h⟩
theorem wdi_e {t : Int → Int} {n p s w k d : Int} (h : wdi t n p s w k d) (hw : 13 ≤ w) : (k = 0 ∧ wk t n p s = 2) ∨ (k = 4 ∧ wk t n p s = d + 5 ∧ 0 ≤ d ∧ d ≤ 12) := by
  obtain ⟨_, ⟨e, h⟩ | ⟨e, h2, h3, h4⟩⟩ := h
  · exact Or.inl ⟨e, wk_end h hw⟩
  · exact Or.inr ⟨e, by omega, h2⟩
/-- a sign stands there -/
def sgm (c d s : Int) : Prop := c = hw_sc pg_sb (17 + s) 0 ∧ (s < 6 → d = hw_sc pg_sb (17 + s) 1)
theorem sgs_t : ∀ s : Fin 25, hw_sl pg_sb ((17 + s.val : Nat) : Int) = if s.val < 6 then 2 else 1 := by decide +kernel
theorem sgs_l {s : Int} (h : 0 ≤ s ∧ s ≤ 24) : hw_sl pg_sb (17 + s) = if s < 6 then 2 else 1 := by
  obtain ⟨i, rfl⟩ := Int.eq_ofNat_of_zero_le h.1
  have z := sgs_t ⟨i, by omega⟩
  dsimp only at z
  rw [show (17 : Int) + (i : Int) = ((17 + i : Nat) : Int) by omega, z]
  by_cases e : i < 6
  · rw [if_pos e, if_pos (by omega)]
  · rw [if_neg e, if_neg (by omega)]
theorem sgs_b {s : Int} (h : 0 ≤ s ∧ s ≤ 24) : 1 ≤ hw_sl pg_sb (17 + s) ∧ hw_sl pg_sb (17 + s) ≤ 2 := by
  rw [sgs_l h]
  split <;> omega
theorem sgm_i {t : Int → Int} {n p s m : Int} (h : wsq t n p (17 + s) m) (hm : m = hw_sl pg_sb (17 + s)) (hs : 0 ≤ s ∧ s ≤ 24) : sgm (cO t n p) (cO t n (p + 1)) s := by
  obtain ⟨_, h⟩ := h
  have z := sgs_l hs
  refine ⟨?_, fun q => h 1 (by omega) (by rw [hm, z, if_pos q]; omega)⟩
  have e := h 0 (by omega) (by rw [hm, z]; split <;> omega)
  rw [Int.add_zero] at e
  exact e
theorem sgm_n {t : Int → Int} {n p s m : Int} (h : wsqn t n p (17 + s) m) (hm : m = hw_sl pg_sb (17 + s)) (hs : 0 ≤ s ∧ s ≤ 24) : ¬ sgm (cO t n p) (cO t n (p + 1)) s := fun q => h.elim fun _ h => h ⟨(), fun i h1 h2 => by
  have z := sgs_l hs
  rw [hm, z] at h2
  by_cases e : s < 6
  · rw [if_pos e] at h2
    rcases (by omega : i = 0 ∨ i = 1) with r | r
    · rw [r, Int.add_zero]; exact q.1
    · rw [r]; exact q.2 e
  · rw [if_neg e] at h2
    rw [show i = 0 by omega, Int.add_zero]
    exact q.1⟩
def sgi (c d w x : Int) : Prop := ∃ _ : Unit, (x = -1 ∧ ∀ s, 0 ≤ s → s < w → ¬ sgm c d s) ∨ (0 ≤ x ∧ x < w ∧ sgm c d x ∧ (x < 6 ∨ ∀ s, 0 ≤ s → s < 6 → ¬ sgm c d s))
theorem sgi_0 {c d x : Int} (hx : x = -1) : sgi c d 0 x := ⟨(), Or.inl ⟨hx, fun s h1 h2 => absurd h1 (by omega)⟩⟩
theorem sgi_h {c d w w' x : Int} (h : sgi c d w x) (hm : sgm c d w) (hx : x < 0) (hw : w' = w + 1) (h0 : 0 ≤ w) : sgi c d w' w := by
  obtain ⟨_, ⟨_, h⟩ | h⟩ := h
  · refine ⟨(), Or.inr ⟨h0, by omega, hm, ?_⟩⟩
    by_cases e : w < 6
    · exact Or.inl e
    · exact Or.inr (fun s h1 h2 => h s h1 (by omega))
  · exact absurd h.1 (by omega)
theorem sgi_l {c d w w' x a b : Int} (h : sgi c d w x) (ha : a = hw_sl pg_sb (17 + w)) (hb : b = hw_sl pg_sb (17 + x)) (hab : b < a) (hx : 0 ≤ x) (h0 : w ≤ 24) : sgi c d w' w := by
  exfalso
  obtain ⟨_, h | h⟩ := h
  · omega
  · rw [sgs_l ⟨by omega, h0⟩] at ha
    rw [sgs_l ⟨hx, by omega⟩] at hb
    split at ha <;> split at hb <;> omega
theorem sgi_k {c d w w' x : Int} (h : sgi c d w x) (hx : 0 ≤ x) (hw : w' = w + 1) : sgi c d w' x := by
  obtain ⟨_, h | h⟩ := h
  · omega
  · exact ⟨(), Or.inr ⟨h.1, by omega, h.2.2⟩⟩
theorem sgi_m {c d w w' x : Int} (h : sgi c d w x) (hm : ¬ sgm c d w) (hw : w' = w + 1) : sgi c d w' x := by
  obtain ⟨_, ⟨e, h⟩ | h⟩ := h
  · refine ⟨(), Or.inl ⟨e, fun s h1 h2 => ?_⟩⟩
    by_cases q : s = w
    · rw [q]; exact hm
    · exact h s h1 (by omega)
  · exact ⟨(), Or.inr ⟨h.1, by omega, h.2.2⟩⟩
theorem sgc_t : ∀ s : Fin 25, hw_sc pg_sb ((17 + s.val : Nat) : Int) 0 = [45, 46, 61, 33, 60, 62, 61, 60, 62, 43, 45, 42, 47, 33, 38, 124, 63, 58, 59, 44, 39, 40, 41, 91, 93].getD s.val 0 ∧ (s.val < 6 → hw_sc pg_sb ((17 + s.val : Nat) : Int) 1 = [62, 46, 62, 61, 61, 61].getD s.val 0) := by decide +kernel
theorem sgm_c {c d : Int} {i : Nat} (hi : i < 25) : sgm c d (i : Int) ↔ (c = [45, 46, 61, 33, 60, 62, 61, 60, 62, 43, 45, 42, 47, 33, 38, 124, 63, 58, 59, 44, 39, 40, 41, 91, 93].getD i 0 ∧ (i < 6 → d = [62, 46, 62, 61, 61, 61].getD i 0)) := by
  have z := sgc_t ⟨i, hi⟩
  dsimp only at z
  unfold sgm
  rw [show (17 : Int) + (i : Int) = ((17 + i : Nat) : Int) by omega, z.1]
  refine ⟨fun h => ⟨h.1, fun q => ?_⟩, fun h => ⟨h.1, fun q => ?_⟩⟩
  · rw [h.2 (by omega), z.2 q]
  · rw [h.2 (by omega), z.2 (by omega)]
theorem sg_no2 {c d : Int} (h : ∀ s : Int, 0 ≤ s → s < 6 → ¬ sgm c d s) : ¬ (c = 45 ∧ d = 62) ∧ ¬ (c = 46 ∧ d = 46) ∧ ¬ (c = 61 ∧ d = 62) ∧ ¬ (c = 33 ∧ d = 61) ∧ ¬ (c = 60 ∧ d = 61) ∧ ¬ (c = 62 ∧ d = 61) := by
  have f : ∀ i : Nat, i < 6 → ¬ (c = [45, 46, 61, 33, 60, 62, 61, 60, 62, 43, 45, 42, 47, 33, 38, 124, 63, 58, 59, 44, 39, 40, 41, 91, 93].getD i 0 ∧ (i < 6 → d = [62, 46, 62, 61, 61, 61].getD i 0)) := fun i hi q => h i (by omega) (by omega) ((sgm_c (by omega)).mpr q)
  exact ⟨fun q => f 0 (by omega) ⟨q.1, fun _ => q.2⟩, fun q => f 1 (by omega) ⟨q.1, fun _ => q.2⟩, fun q => f 2 (by omega) ⟨q.1, fun _ => q.2⟩, fun q => f 3 (by omega) ⟨q.1, fun _ => q.2⟩, fun q => f 4 (by omega) ⟨q.1, fun _ => q.2⟩, fun q => f 5 (by omega) ⟨q.1, fun _ => q.2⟩⟩
theorem sg_hit {c d : Int} : ∀ i : Nat, i < 25 → sgm c d (i : Int) → ((i : Int) < 6 ∨ ∀ s, 0 ≤ s → s < 6 → ¬ sgm c d s) → sgk c d = 18 + (i : Int) := by
  intro i hi hm h
  rw [sgm_c hi] at hm
  by_cases e : i < 6
  · obtain ⟨h1, h2⟩ := hm
    have h2 := h2 e
    rcases (by omega : i = 0 ∨ i = 1 ∨ i = 2 ∨ i = 3 ∨ i = 4 ∨ i = 5) with r | r | r | r | r | r <;> (subst r; have h1 : c = _ := h1; have h2 : d = _ := h2; subst h1 h2; decide)
  · have n2 := sg_no2 (h.resolve_left (by omega))
    have h1 := hm.1
    rcases (by omega : i = 6 ∨ i = 7 ∨ i = 8 ∨ i = 9 ∨ i = 10 ∨ i = 11 ∨ i = 12 ∨ i = 13 ∨ i = 14 ∨ i = 15 ∨ i = 16 ∨ i = 17 ∨ i = 18 ∨ i = 19 ∨ i = 20 ∨ i = 21 ∨ i = 22 ∨ i = 23 ∨ i = 24) with r | r | r | r | r | r | r | r | r | r | r | r | r | r | r | r | r | r | r <;> (subst r; obtain ⟨a1, a2, a3, a4, a5, a6⟩ := n2; unfold sgk; rw [if_neg a1, if_neg a2, if_neg a3, if_neg a4, if_neg a5, if_neg a6]; clear a1 a2 a3 a4 a5 a6 h hm; simp only [h1]; decide)
theorem sgi_e {c d w x : Int} (h : sgi c d w x) (hw : w = 25) : (x < 0 ∧ sgk c d = 1 ∧ sgl c d = 1) ∨ (0 ≤ x ∧ x ≤ 24 ∧ sgk c d = x + 18 ∧ sgl c d = hw_sl pg_sb (17 + x)) := by
  subst hw
  obtain ⟨_, ⟨e, h⟩ | ⟨h0, h1, h2, h3⟩⟩ := h
  · have k : sgk c d = 1 := by
      have f : ∀ i : Nat, i < 25 → ¬ (c = [45, 46, 61, 33, 60, 62, 61, 60, 62, 43, 45, 42, 47, 33, 38, 124, 63, 58, 59, 44, 39, 40, 41, 91, 93].getD i 0 ∧ (i < 6 → d = [62, 46, 62, 61, 61, 61].getD i 0)) := fun i hi q => h i (by omega) (by omega) ((sgm_c (by omega)).mpr q)
      have g : ∀ i : Nat, 6 ≤ i → i < 25 → ¬ c = [45, 46, 61, 33, 60, 62, 61, 60, 62, 43, 45, 42, 47, 33, 38, 124, 63, 58, 59, 44, 39, 40, 41, 91, 93].getD i 0 := fun i h6 hi q => f i hi ⟨q, fun z => absurd z (by omega)⟩
      obtain ⟨a1, a2, a3, a4, a5, a6⟩ := sg_no2 (fun s s1 s2 => h s s1 (by omega))
      unfold sgk
      rw [if_neg a1, if_neg a2, if_neg a3, if_neg a4, if_neg a5, if_neg a6, if_neg (show ¬ c = 61 from g 6 (by omega) (by omega)), if_neg (show ¬ c = 60 from g 7 (by omega) (by omega)), if_neg (show ¬ c = 62 from g 8 (by omega) (by omega)), if_neg (show ¬ c = 43 from g 9 (by omega) (by omega)), if_neg (show ¬ c = 45 from g 10 (by omega) (by omega)), if_neg (show ¬ c = 42 from g 11 (by omega) (by omega)), if_neg (show ¬ c = 47 from g 12 (by omega) (by omega)), if_neg (show ¬ c = 33 from g 13 (by omega) (by omega)), if_neg (show ¬ c = 38 from g 14 (by omega) (by omega)), if_neg (show ¬ c = 124 from g 15 (by omega) (by omega)), if_neg (show ¬ c = 63 from g 16 (by omega) (by omega)), if_neg (show ¬ c = 58 from g 17 (by omega) (by omega)), if_neg (show ¬ c = 59 from g 18 (by omega) (by omega)), if_neg (show ¬ c = 44 from g 19 (by omega) (by omega)), if_neg (show ¬ c = 39 from g 20 (by omega) (by omega)), if_neg (show ¬ c = 40 from g 21 (by omega) (by omega)), if_neg (show ¬ c = 41 from g 22 (by omega) (by omega)), if_neg (show ¬ c = 91 from g 23 (by omega) (by omega)), if_neg (show ¬ c = 93 from g 24 (by omega) (by omega))]
    exact Or.inl ⟨by omega, k, by unfold sgl; rw [k]; rfl⟩
  · obtain ⟨i, rfl⟩ := Int.eq_ofNat_of_zero_le h0
    have k := sg_hit i (by omega) h2 h3
    refine Or.inr ⟨h0, by omega, by omega, ?_⟩
    rw [sgs_l ⟨h0, by omega⟩]
    unfold sgl
    rw [k]
    by_cases e : (i : Int) < 6
    · rw [if_pos e, if_pos (by omega)]
    · rw [if_neg e, if_neg (by omega)]
/-! numbers -/
theorem ynm_u {t : Int → Int} {n p k : Int} (h : dg t n p = dg t n k) (hd : dg t n k = k) : nw t n p = k - p := by unfold nw; rw [h, hd]
theorem ynm_i {t : Int → Int} {n p k : Int} (hw : nw t n p = k - p) (hd : ¬ (k - p ≤ 3 ∧ cO t n k = 46 ∧ isD (cO t n (k + 1)))) : nf t n p = 0 ∧ nsz t n p = k - p := by
  have e : nf t n p = 0 := by
    unfold nf
    rw [hw, show p + (k - p) = k by omega]
    by_cases q : k - p ≤ 3 ∧ cO t n k = 46
    · rw [if_pos q, dg_n rfl rfl (fun z => hd ⟨q.1, q.2, z⟩)]
      omega
    · rw [if_neg q]
  exact ⟨e, by unfold nsz; rw [e, if_neg (by omega), hw]⟩
theorem ynm_i3 {t : Int → Int} {n p k c : Int} (hw : nw t n p = k - p) (hd : ¬ (k - p ≤ 3 ∧ cO t n k = 46 ∧ isD (cO t n (k + 1)))) (h6 : k - p ≤ 6) (hc : c = cO t n k) (hl : ¬ isL c) : nkd t n p = 3 ∧ nsz t n p = k - p := by
  obtain ⟨a, b⟩ := ynm_i hw hd
  subst hc
  refine ⟨?_, b⟩
  unfold nkd
  rw [a, b, hw, show p + (k - p) = k by omega, if_neg (fun z => by rcases z with z | z | z; omega; omega; exact hl z), if_neg (by omega)]
theorem ynm_i1 {t : Int → Int} {n p k : Int} (hw : nw t n p = k - p) (h6 : 6 < k - p) : nkd t n p = 1 := by
  unfold nkd
  rw [hw, if_pos (Or.inl h6)]
theorem ynm_il {t : Int → Int} {n p k c : Int} (hw : nw t n p = k - p) (hd : ¬ (k - p ≤ 3 ∧ cO t n k = 46 ∧ isD (cO t n (k + 1)))) (hc : c = cO t n k) (hl : isL c) : nkd t n p = 1 := by
  obtain ⟨a, b⟩ := ynm_i hw hd
  subst hc
  unfold nkd
  rw [b, show p + (k - p) = k by omega, if_pos (Or.inr (Or.inr hl))]
theorem ynm_r {t : Int → Int} {n p k b : Int} (hw : nw t n p = k - p) (h3 : k - p ≤ 3) (hc : cO t n k = 46) (hb : dg t n (k + 1) = b) (h1 : k + 1 < b) : nf t n p = b - (k + 1) ∧ nsz t n p = b - p := by
  have e : nf t n p = b - (k + 1) := by
    unfold nf
    rw [hw, show p + (k - p) = k by omega, if_pos ⟨h3, hc⟩, hb]
  exact ⟨e, by unfold nsz; rw [e, if_pos (by omega), hw]; omega⟩
theorem ynm_r4 {t : Int → Int} {n p k b c : Int} (hw : nw t n p = k - p) (h3 : k - p ≤ 3) (hc : cO t n k = 46) (hb : dg t n (k + 1) = b) (h1 : k + 1 < b) (h4 : b - k ≤ 4) (he : c = cO t n b) (hl : ¬ isL c) : nkd t n p = 4 ∧ nsz t n p = b - p := by
  obtain ⟨x, y⟩ := ynm_r hw h3 hc hb h1
  subst he
  refine ⟨?_, y⟩
  unfold nkd
  rw [x, y, hw, show p + (b - p) = b by omega, if_neg (fun z => by rcases z with z | z | z; omega; omega; exact hl z), if_pos (by omega)]
theorem ynm_r1 {t : Int → Int} {n p k b : Int} (hw : nw t n p = k - p) (h3 : k - p ≤ 3) (hc : cO t n k = 46) (hb : dg t n (k + 1) = b) (h4 : 4 < b - k) : nkd t n p = 1 := by
  obtain ⟨x, y⟩ := ynm_r hw h3 hc hb (by omega)
  unfold nkd
  rw [x, if_pos (Or.inr (Or.inl (by omega)))]
theorem ynm_rl {t : Int → Int} {n p k b c : Int} (hw : nw t n p = k - p) (h3 : k - p ≤ 3) (hc : cO t n k = 46) (hb : dg t n (k + 1) = b) (h1 : k + 1 < b) (he : c = cO t n b) (hl : isL c) : nkd t n p = 1 := by
  obtain ⟨x, y⟩ := ynm_r hw h3 hc hb h1
  subst he
  unfold nkd
  rw [y, show p + (b - p) = b by omega, if_pos (Or.inr (Or.inr hl))]
def ndn (t : Int → Int) (n p k : Int) : Prop := ∃ _ : Unit, ¬ (k - p ≤ 3 ∧ cO t n k = 46 ∧ isD (cO t n (k + 1)))
theorem nd_e {t : Int → Int} {n p k : Int} (h : ndn t n p k) : ¬ (k - p ≤ 3 ∧ cO t n k = 46 ∧ isD (cO t n (k + 1))) := h.elim fun _ h => h
theorem nd_1 {t : Int → Int} {n p k : Int} (h : 3 < k - p) : ndn t n p k := ⟨(), fun z => absurd z.1 (by omega)⟩
theorem nd_2 {t : Int → Int} {n p k c : Int} (hc : c = cO t n k) (h : ¬ c = 46) : ndn t n p k := ⟨(), fun z => h (by rw [hc]; exact z.2.1)⟩
theorem nd_3 {t : Int → Int} {n p k y c : Int} (hc : c = cO t n y) (hy : y = k + 1) (h : ¬ isD c) : ndn t n p k := ⟨(), fun z => h (by rw [hc, hy]; exact z.2.2)⟩
theorem dg_eq {t : Int → Int} {n k y : Int} (h : y = k + 1) : dg t n (k + 1) = dg t n y := by rw [h]
theorem dg_gt {t : Int → Int} {n k y c : Int} (hc : c = cO t n y) (hy : y = k + 1) (h : isD c) (h0 : 0 ≤ k) : k + 1 < dg t n (k + 1) := by
  subst hy
  have e := dg_st (t := t) (n := n) rfl hc h rfl
  have z := (dg_bd (t := t) (n := n) (q := k + 1 + 1) (by omega)).1
  omega
theorem cq_lt {t : Int → Int} {n i r : Int} (h : r = cO t n i) (hr : 40 ≤ r) : i < n := (cO_ne (show ¬ cO t n i = 0 by omega)).2
def nLD (t : Int → Int) (n k : Int) : Prop := ∃ _ : Unit, ¬ isL (cO t n k) ∧ ¬ isD (cO t n k)
theorem nLD_i {t : Int → Int} {n k : Int} (h0 : 0 ≤ k) (h1 : k < n) (hl : ¬ isL (t k)) (hd : ¬ isD (t k)) : nLD t n k := by
  refine ⟨(), ?_⟩
  rw [cO_in h0 h1]
  exact ⟨hl, hd⟩
theorem cq_in {t : Int → Int} {n k : Int} (h0 : 0 ≤ k) (h1 : k < n) : t k = cO t n k := (cO_in h0 h1).symm
theorem isL_i {t : Int → Int} {n k : Int} (h0 : 0 ≤ k) (h1 : k < n) (h : isL (t k)) : isL (cO t n k) := by rw [cO_in h0 h1]; exact h
/-! blanks: a remark begins, ends -/
theorem sk_in {t : Int → Int} {n p c e y X : Int} (h0 : X = sk t n p 0) (hc : c = cO t n p) (hd : e = cO t n y) (hy : y = p + 1) (h : p < n) (h1 : c = 47) (h2 : e = 47) : X = sk t n p 1 := by
  rw [sk_c h0 hc hd hy h rfl h1 h2 rfl rfl, sk_u h, if_neg (by decide), if_neg (by rw [← hc, h1]; decide)]
theorem sk_go {t : Int → Int} {n p p' c X : Int} (h0 : X = sk t n p 1) (hc : c = cO t n p) (h : p < n) (h1 : ¬ c = 10) (hp : p' = p + 1) : X = sk t n p' 1 := sk_r h0 hc h (by decide) hp ⟨fun z => absurd z h1, fun _ => rfl⟩
theorem sk_out {t : Int → Int} {n p c X : Int} (h0 : X = sk t n p 1) (hc : c = cO t n p) (h : p < n) (h1 : c = 10) : X = sk t n p 0 := by
  rw [sk_r h0 hc h (by decide) rfl ⟨fun _ => rfl, fun z => absurd h1 z⟩]
  exact (sk_b rfl hc h rfl (Or.inl h1) rfl rfl).symm
theorem sk_oe {t : Int → Int} {n p X : Int} (h0 : X = sk t n p 1) (h : n ≤ p) (hp : p ≤ n) : X = sk t n p 0 := by
  rw [sk_e h0 h, sk_e rfl h]
theorem nl_0 {t : Int → Int} {n p : Int} (h : isL (cO t n p)) : nl t n p = nli t n p 0 := by
  rw [nl_u (by omega), Int.add_zero, if_pos (Or.inl h)]
  rfl
/-! a TOKEN in the model's words -/
abbrev ukr (k w q : Int) : Prop := (k = 0 ∧ q = 2) ∨ (k = 1 ∧ q = 3) ∨ (k = 2 ∧ q = 4) ∨ (k = 3 ∧ q = w + 18 ∧ 0 ≤ w ∧ w ≤ 24) ∨ (k = 4 ∧ q = w + 5 ∧ 0 ≤ w ∧ w ≤ 12) ∨ (k = 5 ∧ q = 0)
def um_ok (t : Int → Int) (n k w fr to tn : Int) : Prop := ∃ _ : Unit, (0 ≤ n ∧ n ≤ 8192) ∧ (1 ≤ tn ∧ tn ≤ 1500) ∧ fr = pli t n (tn - 1) ∧ to = fr + ln t n (tn - 1) ∧ (0 ≤ fr ∧ fr ≤ to ∧ to ≤ n) ∧ ukr k w (kd t n (tn - 1))
theorem um_b {t : Int → Int} {n k w fr to tn : Int} (h : um_ok t n k w fr to tn) : (0 ≤ n ∧ n ≤ 8192) ∧ (1 ≤ tn ∧ tn ≤ 1500) ∧ fr = pli t n (tn - 1) ∧ to = fr + ln t n (tn - 1) ∧ (0 ≤ fr ∧ fr ≤ to ∧ to ≤ n) ∧ ukr k w (kd t n (tn - 1)) := h.elim fun _ h => h
theorem um_k {t : Int → Int} {n k w fr to tn : Int} (h : um_ok t n k w fr to tn) : ¬ kd t n (tn - 1) = 1 := by
  have z := (um_b h).2.2.2.2.2
  omega
theorem um_mk {t : Int → Int} {n j k w fr to tn : Int} (hf : pli t n j = fr) (hn : 0 ≤ n ∧ n ≤ 8192) (hj : 0 ≤ j ∧ j < 1500) (ht : tn = j + 1) (hp : 0 ≤ fr ∧ fr ≤ n) (hl : to = fr + tln t n fr) (hk : ukr k w (tkd t n fr)) : um_ok t n k w fr to tn := by
  have e : tn - 1 = j := by omega
  have z := tln_b hp.1 hp.2 (by omega : ¬ tkd t n fr = 1)
  refine ⟨(), hn, by omega, by rw [e]; exact hf.symm, ?_, by omega, ?_⟩
  · rw [e]; unfold ln; rw [hf]; exact hl
  · rw [e, kd_in hj.2, hf]; exact hk
theorem um_n1 {t : Int → Int} {n j : Int} (h : 1500 ≤ j) : kd t n j = 1 := if_pos h
theorem um_n2 {t : Int → Int} {n j fr : Int} (hf : pli t n j = fr) (h : tkd t n fr = 1) : kd t n j = 1 := by
  by_cases e : 1500 ≤ j
  · exact um_n1 e
  · rw [kd_in (by omega), hf]; exact h
theorem um_s {t : Int → Int} {n k w fr to tn : Int} (h : um_ok t n k w fr to tn) : pli t n tn = sk t n to 0 := by
  obtain ⟨_, h1, h2, h3, h4, h5, h6⟩ := h
  have e := pli_s (t := t) (n := n) (j := tn - 1) (by omega)
  rw [show tn - 1 + 1 = tn by omega] at e
  rw [e, h4, h3]
theorem tyk_e {t : Int → Int} {n p : Int} (h : n ≤ p) : tkd t n p = 0 ∧ tln t n p = 0 := ⟨if_pos h, if_pos h⟩
theorem tyk_l {t : Int → Int} {n p : Int} (h : p < n) (hl : isL (cO t n p)) : tkd t n p = wk t n p (nl t n p) ∧ tln t n p = nl t n p := by
  have h0 : ¬ n ≤ p := by omega
  exact ⟨by unfold tkd; rw [if_neg h0, if_pos hl], by unfold tln; rw [if_neg h0, if_pos hl]⟩
theorem tyk_d {t : Int → Int} {n p : Int} (h : p < n) (hl : ¬ isL (cO t n p)) (hd : isD (cO t n p)) : tkd t n p = nkd t n p ∧ tln t n p = nsz t n p := by
  have h0 : ¬ n ≤ p := by omega
  exact ⟨by unfold tkd; rw [if_neg h0, if_neg hl, if_pos hd], by unfold tln; rw [if_neg h0, if_neg hl, if_pos hd]⟩
theorem tyk_s {t : Int → Int} {n p : Int} (h : p < n) (hl : ¬ isL (cO t n p)) (hd : ¬ isD (cO t n p)) : tkd t n p = sgk (cO t n p) (cO t n (p + 1)) ∧ tln t n p = sgl (cO t n p) (cO t n (p + 1)) := by
  have h0 : ¬ n ≤ p := by omega
  exact ⟨by unfold tkd; rw [if_neg h0, if_neg hl, if_neg hd], by unfold tln; rw [if_neg h0, if_neg hl, if_neg hd]⟩
theorem tyk_d2 {t : Int → Int} {n p : Int} (h0 : 0 ≤ p) (h : p < n) (hl : ¬ isL (t p)) (hd : isD (t p)) : tkd t n p = nkd t n p ∧ tln t n p = nsz t n p := tyk_d h (by rw [cO_in h0 h]; exact hl) (by rw [cO_in h0 h]; exact hd)

theorem u_in (hU : hw_U (hm_T kof own)) {v p q : Int} (hK : p ≤ v → v ≤ q → K (some (hw_I 1)) ([z_m_err, z_m_fed, z_m_wrong, z_m_letters, z_m_there, z_m_kind, z_m_word, z_m_from, z_m_to, z_m_tokens, z_m_names, z_m_vars, z_m_modules, z_m_commands, z_m_actions, z_m_target, z_m_phase, z_m_codes, z_m_deep, z_m_bool, z_m_broken, z_m_explored, z_m_states, z_m_choices, z_m_outcomes, z_m_problem], [z_m_text, z_m_nameFrom, z_m_nameSize, z_m_nameKind, z_m_nameValue, z_m_actionFrom, z_m_actionSize, z_m_commandModule, z_m_commandAction, z_m_guard, z_m_updates, z_m_over, z_m_under, z_m_setTo, z_m_code, z_m_firstChoice, z_m_firstOutcome, z_m_goesTo, z_m_taken, z_m_step, z_m_chosen, z_m_isTarget, z_m_holds, z_m_above, z_m_below, z_m_solved, z_m_known, z_m_zero, z_m_policy, z_m_unknown, z_m_index, z_m_got, z_m_set, z_m_stack, z_m_now, z_m_next, z_m_value, z_m_octets, z_m_varModule, z_m_low, z_m_high, z_m_first, z_m_isBool], [z_nn], [z_dg])) (hK1 : (v < p ∨ q < v) → K (some (hw_I 0)) ([z_m_err, z_m_fed, z_m_wrong, z_m_letters, z_m_there, z_m_kind, z_m_word, z_m_from, z_m_to, z_m_tokens, z_m_names, z_m_vars, z_m_modules, z_m_commands, z_m_actions, z_m_target, z_m_phase, z_m_codes, z_m_deep, z_m_bool, z_m_broken, z_m_explored, z_m_states, z_m_choices, z_m_outcomes, z_m_problem], [z_m_text, z_m_nameFrom, z_m_nameSize, z_m_nameKind, z_m_nameValue, z_m_actionFrom, z_m_actionSize, z_m_commandModule, z_m_commandAction, z_m_guard, z_m_updates, z_m_over, z_m_under, z_m_setTo, z_m_code, z_m_firstChoice, z_m_firstOutcome, z_m_goesTo, z_m_taken, z_m_step, z_m_chosen, z_m_isTarget, z_m_holds, z_m_above, z_m_below, z_m_solved, z_m_known, z_m_zero, z_m_policy, z_m_unknown, z_m_index, z_m_got, z_m_set, z_m_stack, z_m_now, z_m_next, z_m_value, z_m_octets, z_m_varModule, z_m_low, z_m_high, z_m_first, z_m_isBool], [z_nn], [z_dg])) : hw_C pg_G pg_TT scr (hm_T kof own) (d + 1) 192 [hw_I v, hw_I p, hw_I q] ([z_m_err, z_m_fed, z_m_wrong, z_m_letters, z_m_there, z_m_kind, z_m_word, z_m_from, z_m_to, z_m_tokens, z_m_names, z_m_vars, z_m_modules, z_m_commands, z_m_actions, z_m_target, z_m_phase, z_m_codes, z_m_deep, z_m_bool, z_m_broken, z_m_explored, z_m_states, z_m_choices, z_m_outcomes, z_m_problem], [z_m_text, z_m_nameFrom, z_m_nameSize, z_m_nameKind, z_m_nameValue, z_m_actionFrom, z_m_actionSize, z_m_commandModule, z_m_commandAction, z_m_guard, z_m_updates, z_m_over, z_m_under, z_m_setTo, z_m_code, z_m_firstChoice, z_m_firstOutcome, z_m_goesTo, z_m_taken, z_m_step, z_m_chosen, z_m_isTarget, z_m_holds, z_m_above, z_m_below, z_m_solved, z_m_known, z_m_zero, z_m_policy, z_m_unknown, z_m_index, z_m_got, z_m_set, z_m_stack, z_m_now, z_m_next, z_m_value, z_m_octets, z_m_varModule, z_m_low, z_m_high, z_m_first, z_m_isBool], [z_nn], [z_dg]) K E := by
  refine hw_meth hU hv_DG ⟨rfl, rfl⟩ (fun w X hs hX hF => ?_)
  repeat' (first | refine hw_ex32 ⟨by omega, by omega⟩ ?_ | (intro h; exact absurd h (by decide)) | intro _ | refine And.intro ?_ ?_ | (refine hs [] _ rfl ?_; conv => whnf) | apply hK | apply hK1)
  all_goals (first | with_reducible exact Nat.lt_succ_self _ | with_reducible assumption | omega | (clear hs hX hF hK hK1; fail))
theorem u_c (hU : hw_U (hm_T kof own)) {k : Int} (hk : 0 ≤ k) (hK : ∀ (r : Int), r = cO z_m_text z_m_letters k → K (some (hw_I r)) ([z_m_err, z_m_fed, z_m_wrong, z_m_letters, z_m_there, z_m_kind, z_m_word, z_m_from, z_m_to, z_m_tokens, z_m_names, z_m_vars, z_m_modules, z_m_commands, z_m_actions, z_m_target, z_m_phase, z_m_codes, z_m_deep, z_m_bool, z_m_broken, z_m_explored, z_m_states, z_m_choices, z_m_outcomes, z_m_problem], [z_m_text, z_m_nameFrom, z_m_nameSize, z_m_nameKind, z_m_nameValue, z_m_actionFrom, z_m_actionSize, z_m_commandModule, z_m_commandAction, z_m_guard, z_m_updates, z_m_over, z_m_under, z_m_setTo, z_m_code, z_m_firstChoice, z_m_firstOutcome, z_m_goesTo, z_m_taken, z_m_step, z_m_chosen, z_m_isTarget, z_m_holds, z_m_above, z_m_below, z_m_solved, z_m_known, z_m_zero, z_m_policy, z_m_unknown, z_m_index, z_m_got, z_m_set, z_m_stack, z_m_now, z_m_next, z_m_value, z_m_octets, z_m_varModule, z_m_low, z_m_high, z_m_first, z_m_isBool], [z_nn], [z_dg])) : hw_C pg_G pg_TT scr (hm_T kof own) (d + 1) 197 [hw_R 2 0, hw_I k] ([z_m_err, z_m_fed, z_m_wrong, z_m_letters, z_m_there, z_m_kind, z_m_word, z_m_from, z_m_to, z_m_tokens, z_m_names, z_m_vars, z_m_modules, z_m_commands, z_m_actions, z_m_target, z_m_phase, z_m_codes, z_m_deep, z_m_bool, z_m_broken, z_m_explored, z_m_states, z_m_choices, z_m_outcomes, z_m_problem], [z_m_text, z_m_nameFrom, z_m_nameSize, z_m_nameKind, z_m_nameValue, z_m_actionFrom, z_m_actionSize, z_m_commandModule, z_m_commandAction, z_m_guard, z_m_updates, z_m_over, z_m_under, z_m_setTo, z_m_code, z_m_firstChoice, z_m_firstOutcome, z_m_goesTo, z_m_taken, z_m_step, z_m_chosen, z_m_isTarget, z_m_holds, z_m_above, z_m_below, z_m_solved, z_m_known, z_m_zero, z_m_policy, z_m_unknown, z_m_index, z_m_got, z_m_set, z_m_stack, z_m_now, z_m_next, z_m_value, z_m_octets, z_m_varModule, z_m_low, z_m_high, z_m_first, z_m_isBool], [z_nn], [z_dg]) K E := by
  refine hw_meth hU hv_DG ⟨rfl, rfl⟩ (fun w X hs hX hF => ?_)
  repeat' (first | refine hw_ex32 ⟨by omega, by omega⟩ ?_ | (intro h; exact absurd h (by decide)) | intro _ | refine And.intro ?_ ?_ | (refine hs [] _ rfl ?_; conv => whnf) | apply hK)
  all_goals (first | with_reducible exact Nat.lt_succ_self _ | with_reducible assumption | omega | (exact (cO_in (by omega) (by omega)).symm) | (exact (cO_out (by omega)).symm) | (clear hs hX hF hK; fail))
theorem u_digit (hU : hw_U (hm_T kof own)) {v : Int} (hK : 48 ≤ v → v ≤ 57 → K (some (hw_I 1)) ([z_m_err, z_m_fed, z_m_wrong, z_m_letters, z_m_there, z_m_kind, z_m_word, z_m_from, z_m_to, z_m_tokens, z_m_names, z_m_vars, z_m_modules, z_m_commands, z_m_actions, z_m_target, z_m_phase, z_m_codes, z_m_deep, z_m_bool, z_m_broken, z_m_explored, z_m_states, z_m_choices, z_m_outcomes, z_m_problem], [z_m_text, z_m_nameFrom, z_m_nameSize, z_m_nameKind, z_m_nameValue, z_m_actionFrom, z_m_actionSize, z_m_commandModule, z_m_commandAction, z_m_guard, z_m_updates, z_m_over, z_m_under, z_m_setTo, z_m_code, z_m_firstChoice, z_m_firstOutcome, z_m_goesTo, z_m_taken, z_m_step, z_m_chosen, z_m_isTarget, z_m_holds, z_m_above, z_m_below, z_m_solved, z_m_known, z_m_zero, z_m_policy, z_m_unknown, z_m_index, z_m_got, z_m_set, z_m_stack, z_m_now, z_m_next, z_m_value, z_m_octets, z_m_varModule, z_m_low, z_m_high, z_m_first, z_m_isBool], [z_nn], [z_dg])) (hK1 : (v < 48 ∨ 57 < v) → K (some (hw_I 0)) ([z_m_err, z_m_fed, z_m_wrong, z_m_letters, z_m_there, z_m_kind, z_m_word, z_m_from, z_m_to, z_m_tokens, z_m_names, z_m_vars, z_m_modules, z_m_commands, z_m_actions, z_m_target, z_m_phase, z_m_codes, z_m_deep, z_m_bool, z_m_broken, z_m_explored, z_m_states, z_m_choices, z_m_outcomes, z_m_problem], [z_m_text, z_m_nameFrom, z_m_nameSize, z_m_nameKind, z_m_nameValue, z_m_actionFrom, z_m_actionSize, z_m_commandModule, z_m_commandAction, z_m_guard, z_m_updates, z_m_over, z_m_under, z_m_setTo, z_m_code, z_m_firstChoice, z_m_firstOutcome, z_m_goesTo, z_m_taken, z_m_step, z_m_chosen, z_m_isTarget, z_m_holds, z_m_above, z_m_below, z_m_solved, z_m_known, z_m_zero, z_m_policy, z_m_unknown, z_m_index, z_m_got, z_m_set, z_m_stack, z_m_now, z_m_next, z_m_value, z_m_octets, z_m_varModule, z_m_low, z_m_high, z_m_first, z_m_isBool], [z_nn], [z_dg])) : hw_C pg_G pg_TT scr (hm_T kof own) (d + 2) 199 [hw_I v] ([z_m_err, z_m_fed, z_m_wrong, z_m_letters, z_m_there, z_m_kind, z_m_word, z_m_from, z_m_to, z_m_tokens, z_m_names, z_m_vars, z_m_modules, z_m_commands, z_m_actions, z_m_target, z_m_phase, z_m_codes, z_m_deep, z_m_bool, z_m_broken, z_m_explored, z_m_states, z_m_choices, z_m_outcomes, z_m_problem], [z_m_text, z_m_nameFrom, z_m_nameSize, z_m_nameKind, z_m_nameValue, z_m_actionFrom, z_m_actionSize, z_m_commandModule, z_m_commandAction, z_m_guard, z_m_updates, z_m_over, z_m_under, z_m_setTo, z_m_code, z_m_firstChoice, z_m_firstOutcome, z_m_goesTo, z_m_taken, z_m_step, z_m_chosen, z_m_isTarget, z_m_holds, z_m_above, z_m_below, z_m_solved, z_m_known, z_m_zero, z_m_policy, z_m_unknown, z_m_index, z_m_got, z_m_set, z_m_stack, z_m_now, z_m_next, z_m_value, z_m_octets, z_m_varModule, z_m_low, z_m_high, z_m_first, z_m_isBool], [z_nn], [z_dg]) K E := by
  refine hw_meth hU hv_DG ⟨rfl, rfl⟩ (fun w X hs hX hF => ?_)
  repeat' (first | refine hw_ex32 ⟨by omega, by omega⟩ ?_ | (intro h; exact absurd h (by decide)) | intro _ | refine And.intro ?_ ?_ | (refine hs [] _ rfl ?_; conv => whnf) | apply hK | apply hK1 | (apply hX; refine u_in hU ?_ ?_))
  all_goals (first | with_reducible exact Nat.lt_succ_self _ | with_reducible assumption | omega | (clear hs hX hF hK hK1; fail))
theorem u_letter (hU : hw_U (hm_T kof own)) {v : Int} (hK : ((97 ≤ v ∧ v ≤ 122) ∨ (65 ≤ v ∧ v ≤ 90) ∨ v = 95) → K (some (hw_I 1)) ([z_m_err, z_m_fed, z_m_wrong, z_m_letters, z_m_there, z_m_kind, z_m_word, z_m_from, z_m_to, z_m_tokens, z_m_names, z_m_vars, z_m_modules, z_m_commands, z_m_actions, z_m_target, z_m_phase, z_m_codes, z_m_deep, z_m_bool, z_m_broken, z_m_explored, z_m_states, z_m_choices, z_m_outcomes, z_m_problem], [z_m_text, z_m_nameFrom, z_m_nameSize, z_m_nameKind, z_m_nameValue, z_m_actionFrom, z_m_actionSize, z_m_commandModule, z_m_commandAction, z_m_guard, z_m_updates, z_m_over, z_m_under, z_m_setTo, z_m_code, z_m_firstChoice, z_m_firstOutcome, z_m_goesTo, z_m_taken, z_m_step, z_m_chosen, z_m_isTarget, z_m_holds, z_m_above, z_m_below, z_m_solved, z_m_known, z_m_zero, z_m_policy, z_m_unknown, z_m_index, z_m_got, z_m_set, z_m_stack, z_m_now, z_m_next, z_m_value, z_m_octets, z_m_varModule, z_m_low, z_m_high, z_m_first, z_m_isBool], [z_nn], [z_dg])) (hK1 : ((v < 97 ∨ 122 < v) ∧ (v < 65 ∨ 90 < v) ∧ ¬ v = 95) → K (some (hw_I 0)) ([z_m_err, z_m_fed, z_m_wrong, z_m_letters, z_m_there, z_m_kind, z_m_word, z_m_from, z_m_to, z_m_tokens, z_m_names, z_m_vars, z_m_modules, z_m_commands, z_m_actions, z_m_target, z_m_phase, z_m_codes, z_m_deep, z_m_bool, z_m_broken, z_m_explored, z_m_states, z_m_choices, z_m_outcomes, z_m_problem], [z_m_text, z_m_nameFrom, z_m_nameSize, z_m_nameKind, z_m_nameValue, z_m_actionFrom, z_m_actionSize, z_m_commandModule, z_m_commandAction, z_m_guard, z_m_updates, z_m_over, z_m_under, z_m_setTo, z_m_code, z_m_firstChoice, z_m_firstOutcome, z_m_goesTo, z_m_taken, z_m_step, z_m_chosen, z_m_isTarget, z_m_holds, z_m_above, z_m_below, z_m_solved, z_m_known, z_m_zero, z_m_policy, z_m_unknown, z_m_index, z_m_got, z_m_set, z_m_stack, z_m_now, z_m_next, z_m_value, z_m_octets, z_m_varModule, z_m_low, z_m_high, z_m_first, z_m_isBool], [z_nn], [z_dg])) : hw_C pg_G pg_TT scr (hm_T kof own) (d + 2) 198 [hw_I v] ([z_m_err, z_m_fed, z_m_wrong, z_m_letters, z_m_there, z_m_kind, z_m_word, z_m_from, z_m_to, z_m_tokens, z_m_names, z_m_vars, z_m_modules, z_m_commands, z_m_actions, z_m_target, z_m_phase, z_m_codes, z_m_deep, z_m_bool, z_m_broken, z_m_explored, z_m_states, z_m_choices, z_m_outcomes, z_m_problem], [z_m_text, z_m_nameFrom, z_m_nameSize, z_m_nameKind, z_m_nameValue, z_m_actionFrom, z_m_actionSize, z_m_commandModule, z_m_commandAction, z_m_guard, z_m_updates, z_m_over, z_m_under, z_m_setTo, z_m_code, z_m_firstChoice, z_m_firstOutcome, z_m_goesTo, z_m_taken, z_m_step, z_m_chosen, z_m_isTarget, z_m_holds, z_m_above, z_m_below, z_m_solved, z_m_known, z_m_zero, z_m_policy, z_m_unknown, z_m_index, z_m_got, z_m_set, z_m_stack, z_m_now, z_m_next, z_m_value, z_m_octets, z_m_varModule, z_m_low, z_m_high, z_m_first, z_m_isBool], [z_nn], [z_dg]) K E := by
  refine hw_meth hU hv_DG ⟨rfl, rfl⟩ (fun w X hs hX hF => ?_)
  repeat' (first | refine hw_ex32 ⟨by omega, by omega⟩ ?_ | (intro h; exact absurd h (by decide)) | intro _ | refine And.intro ?_ ?_ | (refine hs [] _ rfl ?_; conv => whnf) | apply hK | apply hK1 | (apply hX; refine u_in hU ?_ ?_))
  all_goals (first | with_reducible exact Nat.lt_succ_self _ | with_reducible assumption | omega | (clear hs hX hF hK hK1; fail))
theorem u_bad (hU : hw_U (hm_T kof own)) {p : Int} (hK : ∀ (y : Int), K (some (hw_I 0)) ([z_m_err, z_m_fed, y, z_m_letters, z_m_there, z_m_kind, z_m_word, z_m_from, z_m_to, z_m_tokens, z_m_names, z_m_vars, z_m_modules, z_m_commands, z_m_actions, z_m_target, z_m_phase, z_m_codes, z_m_deep, z_m_bool, z_m_broken, z_m_explored, z_m_states, z_m_choices, z_m_outcomes, z_m_problem], [z_m_text, z_m_nameFrom, z_m_nameSize, z_m_nameKind, z_m_nameValue, z_m_actionFrom, z_m_actionSize, z_m_commandModule, z_m_commandAction, z_m_guard, z_m_updates, z_m_over, z_m_under, z_m_setTo, z_m_code, z_m_firstChoice, z_m_firstOutcome, z_m_goesTo, z_m_taken, z_m_step, z_m_chosen, z_m_isTarget, z_m_holds, z_m_above, z_m_below, z_m_solved, z_m_known, z_m_zero, z_m_policy, z_m_unknown, z_m_index, z_m_got, z_m_set, z_m_stack, z_m_now, z_m_next, z_m_value, z_m_octets, z_m_varModule, z_m_low, z_m_high, z_m_first, z_m_isBool], [z_nn], [z_dg])) : hw_C pg_G pg_TT scr (hm_T kof own) (d + 1) 193 [hw_R 2 0, hw_I p] ([z_m_err, z_m_fed, z_m_wrong, z_m_letters, z_m_there, z_m_kind, z_m_word, z_m_from, z_m_to, z_m_tokens, z_m_names, z_m_vars, z_m_modules, z_m_commands, z_m_actions, z_m_target, z_m_phase, z_m_codes, z_m_deep, z_m_bool, z_m_broken, z_m_explored, z_m_states, z_m_choices, z_m_outcomes, z_m_problem], [z_m_text, z_m_nameFrom, z_m_nameSize, z_m_nameKind, z_m_nameValue, z_m_actionFrom, z_m_actionSize, z_m_commandModule, z_m_commandAction, z_m_guard, z_m_updates, z_m_over, z_m_under, z_m_setTo, z_m_code, z_m_firstChoice, z_m_firstOutcome, z_m_goesTo, z_m_taken, z_m_step, z_m_chosen, z_m_isTarget, z_m_holds, z_m_above, z_m_below, z_m_solved, z_m_known, z_m_zero, z_m_policy, z_m_unknown, z_m_index, z_m_got, z_m_set, z_m_stack, z_m_now, z_m_next, z_m_value, z_m_octets, z_m_varModule, z_m_low, z_m_high, z_m_first, z_m_isBool], [z_nn], [z_dg]) K E := by
  refine hw_meth hU hv_DG ⟨rfl, rfl⟩ (fun w X hs hX hF => ?_)
  repeat' (first | refine hw_ex32 ⟨by omega, by omega⟩ ?_ | (intro h; exact absurd h (by decide)) | intro _ | refine And.intro ?_ ?_ | (refine hs [] _ rfl ?_; conv => whnf) | apply hK)
  all_goals (first | with_reducible exact Nat.lt_succ_self _ | with_reducible assumption | omega | (clear hs hX hF hK; fail))
theorem u_stands (hU : hw_U (hm_T kof own)) {j : Int} (hj : 1 ≤ j ∧ j ≤ 41) (hf : 0 ≤ z_m_from ∧ z_m_from ≤ 8194) (hK : wsq z_m_text z_m_letters z_m_from j (hw_sl pg_sb j) → K (some (hw_I 1)) ([z_m_err, z_m_fed, z_m_wrong, z_m_letters, z_m_there, z_m_kind, z_m_word, z_m_from, z_m_to, z_m_tokens, z_m_names, z_m_vars, z_m_modules, z_m_commands, z_m_actions, z_m_target, z_m_phase, z_m_codes, z_m_deep, z_m_bool, z_m_broken, z_m_explored, z_m_states, z_m_choices, z_m_outcomes, z_m_problem], [z_m_text, z_m_nameFrom, z_m_nameSize, z_m_nameKind, z_m_nameValue, z_m_actionFrom, z_m_actionSize, z_m_commandModule, z_m_commandAction, z_m_guard, z_m_updates, z_m_over, z_m_under, z_m_setTo, z_m_code, z_m_firstChoice, z_m_firstOutcome, z_m_goesTo, z_m_taken, z_m_step, z_m_chosen, z_m_isTarget, z_m_holds, z_m_above, z_m_below, z_m_solved, z_m_known, z_m_zero, z_m_policy, z_m_unknown, z_m_index, z_m_got, z_m_set, z_m_stack, z_m_now, z_m_next, z_m_value, z_m_octets, z_m_varModule, z_m_low, z_m_high, z_m_first, z_m_isBool], [z_nn], [z_dg])) (hK1 : wsqn z_m_text z_m_letters z_m_from j (hw_sl pg_sb j) → K (some (hw_I 0)) ([z_m_err, z_m_fed, z_m_wrong, z_m_letters, z_m_there, z_m_kind, z_m_word, z_m_from, z_m_to, z_m_tokens, z_m_names, z_m_vars, z_m_modules, z_m_commands, z_m_actions, z_m_target, z_m_phase, z_m_codes, z_m_deep, z_m_bool, z_m_broken, z_m_explored, z_m_states, z_m_choices, z_m_outcomes, z_m_problem], [z_m_text, z_m_nameFrom, z_m_nameSize, z_m_nameKind, z_m_nameValue, z_m_actionFrom, z_m_actionSize, z_m_commandModule, z_m_commandAction, z_m_guard, z_m_updates, z_m_over, z_m_under, z_m_setTo, z_m_code, z_m_firstChoice, z_m_firstOutcome, z_m_goesTo, z_m_taken, z_m_step, z_m_chosen, z_m_isTarget, z_m_holds, z_m_above, z_m_below, z_m_solved, z_m_known, z_m_zero, z_m_policy, z_m_unknown, z_m_index, z_m_got, z_m_set, z_m_stack, z_m_now, z_m_next, z_m_value, z_m_octets, z_m_varModule, z_m_low, z_m_high, z_m_first, z_m_isBool], [z_nn], [z_dg])) : hw_C pg_G pg_TT scr (hm_T kof own) (d + 5) 200 [hw_R 2 0, hw_R 1000000 j] ([z_m_err, z_m_fed, z_m_wrong, z_m_letters, z_m_there, z_m_kind, z_m_word, z_m_from, z_m_to, z_m_tokens, z_m_names, z_m_vars, z_m_modules, z_m_commands, z_m_actions, z_m_target, z_m_phase, z_m_codes, z_m_deep, z_m_bool, z_m_broken, z_m_explored, z_m_states, z_m_choices, z_m_outcomes, z_m_problem], [z_m_text, z_m_nameFrom, z_m_nameSize, z_m_nameKind, z_m_nameValue, z_m_actionFrom, z_m_actionSize, z_m_commandModule, z_m_commandAction, z_m_guard, z_m_updates, z_m_over, z_m_under, z_m_setTo, z_m_code, z_m_firstChoice, z_m_firstOutcome, z_m_goesTo, z_m_taken, z_m_step, z_m_chosen, z_m_isTarget, z_m_holds, z_m_above, z_m_below, z_m_solved, z_m_known, z_m_zero, z_m_policy, z_m_unknown, z_m_index, z_m_got, z_m_set, z_m_stack, z_m_now, z_m_next, z_m_value, z_m_octets, z_m_varModule, z_m_low, z_m_high, z_m_first, z_m_isBool], [z_nn], [z_dg]) K E := by
  refine hw_meth hU hv_DG ⟨rfl, rfl⟩ (fun w X hs hX hF => ?_)
  have sb := sl_b hj
  have cuts : ∀ n : Nat, (∀ (k : Int), 0 ≤ k → k ≤ 71 → wsq z_m_text z_m_letters z_m_from j k → (100 - k).toNat < n → w (2, [some (hw_R 2 0), some (hw_R 1000000 j), some (hw_I (k))], [], ([z_m_err, z_m_fed, z_m_wrong, z_m_letters, z_m_there, z_m_kind, z_m_word, z_m_from, z_m_to, z_m_tokens, z_m_names, z_m_vars, z_m_modules, z_m_commands, z_m_actions, z_m_target, z_m_phase, z_m_codes, z_m_deep, z_m_bool, z_m_broken, z_m_explored, z_m_states, z_m_choices, z_m_outcomes, z_m_problem], [z_m_text, z_m_nameFrom, z_m_nameSize, z_m_nameKind, z_m_nameValue, z_m_actionFrom, z_m_actionSize, z_m_commandModule, z_m_commandAction, z_m_guard, z_m_updates, z_m_over, z_m_under, z_m_setTo, z_m_code, z_m_firstChoice, z_m_firstOutcome, z_m_goesTo, z_m_taken, z_m_step, z_m_chosen, z_m_isTarget, z_m_holds, z_m_above, z_m_below, z_m_solved, z_m_known, z_m_zero, z_m_policy, z_m_unknown, z_m_index, z_m_got, z_m_set, z_m_stack, z_m_now, z_m_next, z_m_value, z_m_octets, z_m_varModule, z_m_low, z_m_high, z_m_first, z_m_isBool], [z_nn], [z_dg]))) := by
    intro n
    induction n with
    | zero =>
      repeat' (first | refine And.intro ?_ ?_ | intro _)
      all_goals omega
    | succ n ih =>
      intros
      refine hs [] _ rfl ?_
      conv => whnf
      repeat' (first | refine hw_ex32 ⟨by omega, by omega⟩ ?_ | (intro h; exact absurd h (by decide)) | intro _ | refine And.intro ?_ ?_ | (refine hs [2] _ rfl ?_; conv => whnf) | apply ih | apply hK | apply hK1 | (apply hX; refine u_c hU ?_ ?_) | (apply hX; refine u_digit hU ?_ ?_) | (apply hX; refine u_letter hU ?_ ?_) | (apply hX; refine u_bad hU ?_) | (apply hX; refine s_length hU hj ?_) | (apply hX; refine s_fcharAt hU hj ?_ ?_))
      (all_goals clear ih); all_goals (first | with_reducible exact Nat.lt_succ_self _ | with_reducible assumption | omega | exact wsq_0 | (with_reducible exact wsq_e (by with_reducible assumption) (by omega)) | (with_reducible exact wsq_s (by with_reducible assumption) (by with_reducible assumption) (by omega) (by with_reducible assumption) (by omega) (by omega)) | (with_reducible exact wsq_n (by with_reducible assumption) (by with_reducible assumption) (by omega) (by omega) (by omega) (by omega)) | (clear hs hX hF hK hK1; fail))
  repeat' (first | refine hw_ex32 ⟨by omega, by omega⟩ ?_ | (intro h; exact absurd h (by decide)) | intro _ | refine And.intro ?_ ?_ | (refine hs [2] _ rfl ?_; conv => whnf) | apply (cuts _) | apply hK | apply hK1 | (apply hX; refine u_c hU ?_ ?_) | (apply hX; refine u_digit hU ?_ ?_) | (apply hX; refine u_letter hU ?_ ?_) | (apply hX; refine u_bad hU ?_) | (apply hX; refine s_length hU hj ?_) | (apply hX; refine s_fcharAt hU hj ?_ ?_))
  all_goals (first | with_reducible exact Nat.lt_succ_self _ | with_reducible assumption | omega | exact wsq_0 | (with_reducible exact wsq_e (by with_reducible assumption) (by omega)) | (with_reducible exact wsq_s (by with_reducible assumption) (by with_reducible assumption) (by omega) (by with_reducible assumption) (by omega) (by omega)) | (with_reducible exact wsq_n (by with_reducible assumption) (by with_reducible assumption) (by omega) (by omega) (by omega) (by omega)) | (clear hs hX hF hK hK1; fail))
theorem u_number (hU : hw_U (hm_T kof own)) (hf : 0 ≤ z_m_from ∧ z_m_from ≤ z_m_letters) (hl : 0 ≤ z_m_letters ∧ z_m_letters ≤ 8192) (hK : ∀ (kd_ t : Int), ((kd_ = 1 ∧ nkd z_m_text z_m_letters z_m_from = 3) ∨ (kd_ = 2 ∧ nkd z_m_text z_m_letters z_m_from = 4)) → t = z_m_from + nsz z_m_text z_m_letters z_m_from → K (some (hw_I 1)) ([z_m_err, z_m_fed, z_m_wrong, z_m_letters, z_m_there, kd_, z_m_word, z_m_from, t, z_m_tokens, z_m_names, z_m_vars, z_m_modules, z_m_commands, z_m_actions, z_m_target, z_m_phase, z_m_codes, z_m_deep, z_m_bool, z_m_broken, z_m_explored, z_m_states, z_m_choices, z_m_outcomes, z_m_problem], [z_m_text, z_m_nameFrom, z_m_nameSize, z_m_nameKind, z_m_nameValue, z_m_actionFrom, z_m_actionSize, z_m_commandModule, z_m_commandAction, z_m_guard, z_m_updates, z_m_over, z_m_under, z_m_setTo, z_m_code, z_m_firstChoice, z_m_firstOutcome, z_m_goesTo, z_m_taken, z_m_step, z_m_chosen, z_m_isTarget, z_m_holds, z_m_above, z_m_below, z_m_solved, z_m_known, z_m_zero, z_m_policy, z_m_unknown, z_m_index, z_m_got, z_m_set, z_m_stack, z_m_now, z_m_next, z_m_value, z_m_octets, z_m_varModule, z_m_low, z_m_high, z_m_first, z_m_isBool], [z_nn], [z_dg])) (hK1 : ∀ (kd_ t y : Int), nkd z_m_text z_m_letters z_m_from = 1 → K (some (hw_I 0)) ([z_m_err, z_m_fed, y, z_m_letters, z_m_there, kd_, z_m_word, z_m_from, t, z_m_tokens, z_m_names, z_m_vars, z_m_modules, z_m_commands, z_m_actions, z_m_target, z_m_phase, z_m_codes, z_m_deep, z_m_bool, z_m_broken, z_m_explored, z_m_states, z_m_choices, z_m_outcomes, z_m_problem], [z_m_text, z_m_nameFrom, z_m_nameSize, z_m_nameKind, z_m_nameValue, z_m_actionFrom, z_m_actionSize, z_m_commandModule, z_m_commandAction, z_m_guard, z_m_updates, z_m_over, z_m_under, z_m_setTo, z_m_code, z_m_firstChoice, z_m_firstOutcome, z_m_goesTo, z_m_taken, z_m_step, z_m_chosen, z_m_isTarget, z_m_holds, z_m_above, z_m_below, z_m_solved, z_m_known, z_m_zero, z_m_policy, z_m_unknown, z_m_index, z_m_got, z_m_set, z_m_stack, z_m_now, z_m_next, z_m_value, z_m_octets, z_m_varModule, z_m_low, z_m_high, z_m_first, z_m_isBool], [z_nn], [z_dg])) : hw_C pg_G pg_TT scr (hm_T kof own) (d + 4) 201 [hw_R 2 0] ([z_m_err, z_m_fed, z_m_wrong, z_m_letters, z_m_there, z_m_kind, z_m_word, z_m_from, z_m_to, z_m_tokens, z_m_names, z_m_vars, z_m_modules, z_m_commands, z_m_actions, z_m_target, z_m_phase, z_m_codes, z_m_deep, z_m_bool, z_m_broken, z_m_explored, z_m_states, z_m_choices, z_m_outcomes, z_m_problem], [z_m_text, z_m_nameFrom, z_m_nameSize, z_m_nameKind, z_m_nameValue, z_m_actionFrom, z_m_actionSize, z_m_commandModule, z_m_commandAction, z_m_guard, z_m_updates, z_m_over, z_m_under, z_m_setTo, z_m_code, z_m_firstChoice, z_m_firstOutcome, z_m_goesTo, z_m_taken, z_m_step, z_m_chosen, z_m_isTarget, z_m_holds, z_m_above, z_m_below, z_m_solved, z_m_known, z_m_zero, z_m_policy, z_m_unknown, z_m_index, z_m_got, z_m_set, z_m_stack, z_m_now, z_m_next, z_m_value, z_m_octets, z_m_varModule, z_m_low, z_m_high, z_m_first, z_m_isBool], [z_nn], [z_dg]) K E := by
  refine hw_meth hU hv_DG ⟨rfl, rfl⟩ (fun w X hs hX hF => ?_)
  have cuts : ∀ n : Nat, (∀ (k : Int), z_m_from ≤ k → k ≤ z_m_letters → 0 ≤ z_m_from → z_m_letters ≤ 8192 → dg z_m_text z_m_letters z_m_from = dg z_m_text z_m_letters k → (20000 - k).toNat < n → w (5, [some (hw_R 2 0), some (hw_I (k))], [], ([z_m_err, z_m_fed, z_m_wrong, z_m_letters, z_m_there, z_m_kind, z_m_word, z_m_from, z_m_to, z_m_tokens, z_m_names, z_m_vars, z_m_modules, z_m_commands, z_m_actions, z_m_target, z_m_phase, z_m_codes, z_m_deep, z_m_bool, z_m_broken, z_m_explored, z_m_states, z_m_choices, z_m_outcomes, z_m_problem], [z_m_text, z_m_nameFrom, z_m_nameSize, z_m_nameKind, z_m_nameValue, z_m_actionFrom, z_m_actionSize, z_m_commandModule, z_m_commandAction, z_m_guard, z_m_updates, z_m_over, z_m_under, z_m_setTo, z_m_code, z_m_firstChoice, z_m_firstOutcome, z_m_goesTo, z_m_taken, z_m_step, z_m_chosen, z_m_isTarget, z_m_holds, z_m_above, z_m_below, z_m_solved, z_m_known, z_m_zero, z_m_policy, z_m_unknown, z_m_index, z_m_got, z_m_set, z_m_stack, z_m_now, z_m_next, z_m_value, z_m_octets, z_m_varModule, z_m_low, z_m_high, z_m_first, z_m_isBool], [z_nn], [z_dg]))) ∧ (∀ (k : Int), z_m_from ≤ k → k ≤ z_m_letters → 0 ≤ z_m_from → z_m_letters ≤ 8192 → nw z_m_text z_m_letters z_m_from = k - z_m_from → ((11000 : Int)).toNat < n → w (22, [some (hw_R 2 0), some (hw_I (k))], [], ([z_m_err, z_m_fed, z_m_wrong, z_m_letters, z_m_there, z_m_kind, z_m_word, z_m_from, z_m_to, z_m_tokens, z_m_names, z_m_vars, z_m_modules, z_m_commands, z_m_actions, z_m_target, z_m_phase, z_m_codes, z_m_deep, z_m_bool, z_m_broken, z_m_explored, z_m_states, z_m_choices, z_m_outcomes, z_m_problem], [z_m_text, z_m_nameFrom, z_m_nameSize, z_m_nameKind, z_m_nameValue, z_m_actionFrom, z_m_actionSize, z_m_commandModule, z_m_commandAction, z_m_guard, z_m_updates, z_m_over, z_m_under, z_m_setTo, z_m_code, z_m_firstChoice, z_m_firstOutcome, z_m_goesTo, z_m_taken, z_m_step, z_m_chosen, z_m_isTarget, z_m_holds, z_m_above, z_m_below, z_m_solved, z_m_known, z_m_zero, z_m_policy, z_m_unknown, z_m_index, z_m_got, z_m_set, z_m_stack, z_m_now, z_m_next, z_m_value, z_m_octets, z_m_varModule, z_m_low, z_m_high, z_m_first, z_m_isBool], [z_nn], [z_dg]))) ∧ (∀ (k : Int), z_m_from ≤ k → k ≤ z_m_letters → 0 ≤ z_m_from → z_m_letters ≤ 8192 → nw z_m_text z_m_letters z_m_from = k - z_m_from → ndn z_m_text z_m_letters z_m_from k → ((5 : Int)).toNat < n → w (123, [some (hw_R 2 0), some (hw_I (k))], [], ([z_m_err, z_m_fed, z_m_wrong, z_m_letters, z_m_there, 1, z_m_word, z_m_from, k, z_m_tokens, z_m_names, z_m_vars, z_m_modules, z_m_commands, z_m_actions, z_m_target, z_m_phase, z_m_codes, z_m_deep, z_m_bool, z_m_broken, z_m_explored, z_m_states, z_m_choices, z_m_outcomes, z_m_problem], [z_m_text, z_m_nameFrom, z_m_nameSize, z_m_nameKind, z_m_nameValue, z_m_actionFrom, z_m_actionSize, z_m_commandModule, z_m_commandAction, z_m_guard, z_m_updates, z_m_over, z_m_under, z_m_setTo, z_m_code, z_m_firstChoice, z_m_firstOutcome, z_m_goesTo, z_m_taken, z_m_step, z_m_chosen, z_m_isTarget, z_m_holds, z_m_above, z_m_below, z_m_solved, z_m_known, z_m_zero, z_m_policy, z_m_unknown, z_m_index, z_m_got, z_m_set, z_m_stack, z_m_now, z_m_next, z_m_value, z_m_octets, z_m_varModule, z_m_low, z_m_high, z_m_first, z_m_isBool], [z_nn], [z_dg]))) ∧ (∀ (k t : Int), z_m_from ≤ k → k + 1 ≤ t → t ≤ z_m_letters → 0 ≤ z_m_from → z_m_letters ≤ 8192 → nw z_m_text z_m_letters z_m_from = k - z_m_from → k - z_m_from ≤ 3 → cO z_m_text z_m_letters k = 46 → dg z_m_text z_m_letters (k + 1) = dg z_m_text z_m_letters t → k + 1 < dg z_m_text z_m_letters (k + 1) → (10000 - t).toNat < n → w (77, [some (hw_R 2 0), some (hw_I (k))], [], ([z_m_err, z_m_fed, z_m_wrong, z_m_letters, z_m_there, 2, z_m_word, z_m_from, t, z_m_tokens, z_m_names, z_m_vars, z_m_modules, z_m_commands, z_m_actions, z_m_target, z_m_phase, z_m_codes, z_m_deep, z_m_bool, z_m_broken, z_m_explored, z_m_states, z_m_choices, z_m_outcomes, z_m_problem], [z_m_text, z_m_nameFrom, z_m_nameSize, z_m_nameKind, z_m_nameValue, z_m_actionFrom, z_m_actionSize, z_m_commandModule, z_m_commandAction, z_m_guard, z_m_updates, z_m_over, z_m_under, z_m_setTo, z_m_code, z_m_firstChoice, z_m_firstOutcome, z_m_goesTo, z_m_taken, z_m_step, z_m_chosen, z_m_isTarget, z_m_holds, z_m_above, z_m_below, z_m_solved, z_m_known, z_m_zero, z_m_policy, z_m_unknown, z_m_index, z_m_got, z_m_set, z_m_stack, z_m_now, z_m_next, z_m_value, z_m_octets, z_m_varModule, z_m_low, z_m_high, z_m_first, z_m_isBool], [z_nn], [z_dg]))) := by
    intro n
    induction n with
    | zero =>
      repeat' (first | refine And.intro ?_ ?_ | intro _)
      all_goals omega
    | succ n ih =>
      obtain ⟨ih0, ih1, ih2, ih3⟩ := ih
      refine ⟨?_, ?_, ?_, ?_⟩
      · intro k
        intros
        refine hs [] _ rfl ?_
        conv => whnf
        repeat' (first | refine hw_ex32 ⟨by omega, by omega⟩ ?_ | (intro h; exact absurd h (by decide)) | intro _ | refine And.intro ?_ ?_ | (refine hs [5, 22, 123, 77] _ rfl ?_; conv => whnf) | apply ih0 | apply ih1 | apply ih2 | apply ih3 | apply hK | apply hK1 | (apply hX; refine u_c hU ?_ ?_) | (apply hX; refine u_digit hU ?_ ?_) | (apply hX; refine u_letter hU ?_ ?_) | (apply hX; refine u_bad hU ?_))
        (all_goals clear ih0 ih1 ih2 ih3); all_goals (first | with_reducible exact Nat.lt_succ_self _ | with_reducible assumption | omega | exact rfl | (with_reducible exact dg_st (by with_reducible assumption) (by with_reducible assumption) (by omega) (by omega)) | (have E := ynm_i3 (by with_reducible assumption) (nd_e (by with_reducible assumption)) (by omega) (by with_reducible assumption) (by omega); omega) | (with_reducible exact ynm_i1 (by with_reducible assumption) (by omega)) | (with_reducible exact ynm_il (by with_reducible assumption) (nd_e (by with_reducible assumption)) (by with_reducible assumption) (by omega)) | (with_reducible exact ynm_u (by with_reducible assumption) (dg_n rfl (by with_reducible assumption) (by omega))) | (with_reducible exact nd_1 (by omega)) | (with_reducible exact nd_2 (by with_reducible assumption) (by omega)) | (with_reducible exact nd_3 (by with_reducible assumption) (by omega) (by omega)) | (with_reducible exact dg_eq (by omega)) | (with_reducible exact dg_gt (by with_reducible assumption) (by omega) (by omega) (by omega)) | (have D := dg_n (by with_reducible assumption) (by with_reducible assumption) (by omega); first | omega | (have E := ynm_r4 (by with_reducible assumption) (by omega) (by with_reducible assumption) D (by omega) (by omega) (by with_reducible assumption) (by omega); omega) | exact ynm_r1 (by with_reducible assumption) (by omega) (by with_reducible assumption) D (by omega) | exact ynm_rl (by with_reducible assumption) (by omega) (by with_reducible assumption) D (by omega) (by with_reducible assumption) (by omega)) | (have C := cq_lt (by with_reducible assumption) (by omega); omega) | (rw [← (by with_reducible assumption)]; omega) | (clear hs hX hF hK hK1; fail))
      · intro k
        intros
        refine hs [] _ rfl ?_
        conv => whnf
        repeat' (first | refine hw_ex32 ⟨by omega, by omega⟩ ?_ | (intro h; exact absurd h (by decide)) | intro _ | refine And.intro ?_ ?_ | (refine hs [5, 22, 123, 77] _ rfl ?_; conv => whnf) | apply ih0 | apply ih1 | apply ih2 | apply ih3 | apply hK | apply hK1 | (apply hX; refine u_c hU ?_ ?_) | (apply hX; refine u_digit hU ?_ ?_) | (apply hX; refine u_letter hU ?_ ?_) | (apply hX; refine u_bad hU ?_))
        (all_goals clear ih0 ih1 ih2 ih3); all_goals (first | with_reducible exact Nat.lt_succ_self _ | with_reducible assumption | omega | exact rfl | (with_reducible exact dg_st (by with_reducible assumption) (by with_reducible assumption) (by omega) (by omega)) | (have E := ynm_i3 (by with_reducible assumption) (nd_e (by with_reducible assumption)) (by omega) (by with_reducible assumption) (by omega); omega) | (with_reducible exact ynm_i1 (by with_reducible assumption) (by omega)) | (with_reducible exact ynm_il (by with_reducible assumption) (nd_e (by with_reducible assumption)) (by with_reducible assumption) (by omega)) | (with_reducible exact ynm_u (by with_reducible assumption) (dg_n rfl (by with_reducible assumption) (by omega))) | (with_reducible exact nd_1 (by omega)) | (with_reducible exact nd_2 (by with_reducible assumption) (by omega)) | (with_reducible exact nd_3 (by with_reducible assumption) (by omega) (by omega)) | (with_reducible exact dg_eq (by omega)) | (with_reducible exact dg_gt (by with_reducible assumption) (by omega) (by omega) (by omega)) | (have D := dg_n (by with_reducible assumption) (by with_reducible assumption) (by omega); first | omega | (have E := ynm_r4 (by with_reducible assumption) (by omega) (by with_reducible assumption) D (by omega) (by omega) (by with_reducible assumption) (by omega); omega) | exact ynm_r1 (by with_reducible assumption) (by omega) (by with_reducible assumption) D (by omega) | exact ynm_rl (by with_reducible assumption) (by omega) (by with_reducible assumption) D (by omega) (by with_reducible assumption) (by omega)) | (have C := cq_lt (by with_reducible assumption) (by omega); omega) | (rw [← (by with_reducible assumption)]; omega) | (clear hs hX hF hK hK1; fail))
      · intro k
        intros
        refine hs [] _ rfl ?_
        conv => whnf
        repeat' (first | refine hw_ex32 ⟨by omega, by omega⟩ ?_ | (intro h; exact absurd h (by decide)) | intro _ | refine And.intro ?_ ?_ | (refine hs [5, 22, 123, 77] _ rfl ?_; conv => whnf) | apply ih0 | apply ih1 | apply ih2 | apply ih3 | apply hK | apply hK1 | (apply hX; refine u_c hU ?_ ?_) | (apply hX; refine u_digit hU ?_ ?_) | (apply hX; refine u_letter hU ?_ ?_) | (apply hX; refine u_bad hU ?_))
        (all_goals clear ih0 ih1 ih2 ih3); all_goals (first | with_reducible exact Nat.lt_succ_self _ | with_reducible assumption | omega | exact rfl | (with_reducible exact dg_st (by with_reducible assumption) (by with_reducible assumption) (by omega) (by omega)) | (have E := ynm_i3 (by with_reducible assumption) (nd_e (by with_reducible assumption)) (by omega) (by with_reducible assumption) (by omega); omega) | (with_reducible exact ynm_i1 (by with_reducible assumption) (by omega)) | (with_reducible exact ynm_il (by with_reducible assumption) (nd_e (by with_reducible assumption)) (by with_reducible assumption) (by omega)) | (with_reducible exact ynm_u (by with_reducible assumption) (dg_n rfl (by with_reducible assumption) (by omega))) | (with_reducible exact nd_1 (by omega)) | (with_reducible exact nd_2 (by with_reducible assumption) (by omega)) | (with_reducible exact nd_3 (by with_reducible assumption) (by omega) (by omega)) | (with_reducible exact dg_eq (by omega)) | (with_reducible exact dg_gt (by with_reducible assumption) (by omega) (by omega) (by omega)) | (have D := dg_n (by with_reducible assumption) (by with_reducible assumption) (by omega); first | omega | (have E := ynm_r4 (by with_reducible assumption) (by omega) (by with_reducible assumption) D (by omega) (by omega) (by with_reducible assumption) (by omega); omega) | exact ynm_r1 (by with_reducible assumption) (by omega) (by with_reducible assumption) D (by omega) | exact ynm_rl (by with_reducible assumption) (by omega) (by with_reducible assumption) D (by omega) (by with_reducible assumption) (by omega)) | (have C := cq_lt (by with_reducible assumption) (by omega); omega) | (rw [← (by with_reducible assumption)]; omega) | (clear hs hX hF hK hK1; fail))
      · intro k t
        intros
        refine hs [] _ rfl ?_
        conv => whnf
        repeat' (first | refine hw_ex32 ⟨by omega, by omega⟩ ?_ | (intro h; exact absurd h (by decide)) | intro _ | refine And.intro ?_ ?_ | (refine hs [5, 22, 123, 77] _ rfl ?_; conv => whnf) | apply ih0 | apply ih1 | apply ih2 | apply ih3 | apply hK | apply hK1 | (apply hX; refine u_c hU ?_ ?_) | (apply hX; refine u_digit hU ?_ ?_) | (apply hX; refine u_letter hU ?_ ?_) | (apply hX; refine u_bad hU ?_))
        (all_goals clear ih0 ih1 ih2 ih3); all_goals (first | with_reducible exact Nat.lt_succ_self _ | with_reducible assumption | omega | exact rfl | (with_reducible exact dg_st (by with_reducible assumption) (by with_reducible assumption) (by omega) (by omega)) | (have E := ynm_i3 (by with_reducible assumption) (nd_e (by with_reducible assumption)) (by omega) (by with_reducible assumption) (by omega); omega) | (with_reducible exact ynm_i1 (by with_reducible assumption) (by omega)) | (with_reducible exact ynm_il (by with_reducible assumption) (nd_e (by with_reducible assumption)) (by with_reducible assumption) (by omega)) | (with_reducible exact ynm_u (by with_reducible assumption) (dg_n rfl (by with_reducible assumption) (by omega))) | (with_reducible exact nd_1 (by omega)) | (with_reducible exact nd_2 (by with_reducible assumption) (by omega)) | (with_reducible exact nd_3 (by with_reducible assumption) (by omega) (by omega)) | (with_reducible exact dg_eq (by omega)) | (with_reducible exact dg_gt (by with_reducible assumption) (by omega) (by omega) (by omega)) | (have D := dg_n (by with_reducible assumption) (by with_reducible assumption) (by omega); first | omega | (have E := ynm_r4 (by with_reducible assumption) (by omega) (by with_reducible assumption) D (by omega) (by omega) (by with_reducible assumption) (by omega); omega) | exact ynm_r1 (by with_reducible assumption) (by omega) (by with_reducible assumption) D (by omega) | exact ynm_rl (by with_reducible assumption) (by omega) (by with_reducible assumption) D (by omega) (by with_reducible assumption) (by omega)) | (have C := cq_lt (by with_reducible assumption) (by omega); omega) | (rw [← (by with_reducible assumption)]; omega) | (clear hs hX hF hK hK1; fail))
  repeat' (first | refine hw_ex32 ⟨by omega, by omega⟩ ?_ | (intro h; exact absurd h (by decide)) | intro _ | refine And.intro ?_ ?_ | (refine hs [5, 22, 123, 77] _ rfl ?_; conv => whnf) | apply (cuts _).1 | apply (cuts _).2.1 | apply (cuts _).2.2.1 | apply (cuts _).2.2.2 | apply hK | apply hK1 | (apply hX; refine u_c hU ?_ ?_) | (apply hX; refine u_digit hU ?_ ?_) | (apply hX; refine u_letter hU ?_ ?_) | (apply hX; refine u_bad hU ?_))
  all_goals (first | with_reducible exact Nat.lt_succ_self _ | with_reducible assumption | omega | exact rfl | (with_reducible exact dg_st (by with_reducible assumption) (by with_reducible assumption) (by omega) (by omega)) | (have E := ynm_i3 (by with_reducible assumption) (nd_e (by with_reducible assumption)) (by omega) (by with_reducible assumption) (by omega); omega) | (with_reducible exact ynm_i1 (by with_reducible assumption) (by omega)) | (with_reducible exact ynm_il (by with_reducible assumption) (nd_e (by with_reducible assumption)) (by with_reducible assumption) (by omega)) | (with_reducible exact ynm_u (by with_reducible assumption) (dg_n rfl (by with_reducible assumption) (by omega))) | (with_reducible exact nd_1 (by omega)) | (with_reducible exact nd_2 (by with_reducible assumption) (by omega)) | (with_reducible exact nd_3 (by with_reducible assumption) (by omega) (by omega)) | (with_reducible exact dg_eq (by omega)) | (with_reducible exact dg_gt (by with_reducible assumption) (by omega) (by omega) (by omega)) | (have D := dg_n (by with_reducible assumption) (by with_reducible assumption) (by omega); first | omega | (have E := ynm_r4 (by with_reducible assumption) (by omega) (by with_reducible assumption) D (by omega) (by omega) (by with_reducible assumption) (by omega); omega) | exact ynm_r1 (by with_reducible assumption) (by omega) (by with_reducible assumption) D (by omega) | exact ynm_rl (by with_reducible assumption) (by omega) (by with_reducible assumption) D (by omega) (by with_reducible assumption) (by omega)) | (have C := cq_lt (by with_reducible assumption) (by omega); omega) | (rw [← (by with_reducible assumption)]; omega) | (clear hs hX hF hK hK1; fail))
end CY51
