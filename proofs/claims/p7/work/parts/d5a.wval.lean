/-! the model: its numbers by their values -/
section C5a
variable {scr : Nat × (Nat → Int32)} {d : Nat} {K : Option hw_V → hw_Z → Prop} {E : Nat → hw_Z → Prop} {Z : hw_Z} {kof : Nat → Nat × Int} {own : Nat → Prop} {z_nn : Int → Int} {z_dg : Int → Int → Int} {zA : List Int} {zB : List (Int → Int)}
def wB (m : Nat) : Int := 65536 ^ m
theorem wB_le {m n : Nat} (h : m ≤ n) : wB m ≤ wB n := wp_le h
theorem wB_pos {m : Nat} : 0 < wB m := wp_pos m
theorem wB_mul {m n : Nat} {a b : Int} (ha : 0 ≤ a) (hb : 0 ≤ b) (h1 : a < wB m) (h2 : b < wB n) : a * b < wB (m + n) := by
  have h3 : a * b ≤ a * wB n := Int.mul_le_mul_of_nonneg_left (Int.le_of_lt h2) ha
  have h4 : a * wB n < wB m * wB n := Int.mul_lt_mul_of_pos_right h1 wB_pos
  have e : wB (m + n) = wB m * wB n := Int.pow_add _ _ _
  omega
theorem wB_rm {m : Nat} {r v : Int} (h : v < wB m) (hm : (m : Int) ≤ r) : v < 65536 ^ r.toNat := Int.lt_of_lt_of_le h (wp_le (by omega))
theorem wB_n {m : Nat} {n v : Int} {f : Int → Int} (h : wh_is n f v) (h1 : v < wB m) : n ≤ m := wh_len h h1
/-- every number is in order, and what it is -/
def wa_all (p : Int → Int) (q : Int → Int → Int) (va : Int → Int) : Prop := ∃ _ : Unit, ∀ k : Int, wh_is (p k) (q k) (va k)
theorem wa_up {p : Int → Int} {q : Int → Int → Int} {va : Int → Int} {i n x : Int} {f : Int → Int} (h : wa_all p q va) (h1 : wh_is n f x) : wa_all (hw_up p i n) (hw_up q i f) (hw_up va i x) := by
  refine h.elim fun _ h => ⟨(), fun k => ?_⟩
  by_cases e : k = i
  · rw [e, hw_up_s, hw_up_s, hw_up_s]; exact h1
  · rw [hw_up_n e, hw_up_n e, hw_up_n e]; exact h k
theorem wa_z {p : Int → Int} {q : Int → Int → Int} {va : Int → Int} {i : Int} (h : wa_all p q va) : wa_all (hw_up p i 0) q (hw_up va i 0) := by
  refine h.elim fun _ h => ⟨(), fun k => ?_⟩
  by_cases e : k = i
  · rw [e, hw_up_s, hw_up_s]; exact wh_0
  · rw [hw_up_n e, hw_up_n e]; exact h k
theorem wa_fr {p u : Int → Int} {q y : Int → Int → Int} {va : Int → Int} {i s x z : Int} (h : wa_all p q va) (hf : wf_ok p u q y i s) (h1 : wh_is (u i) (y i) x) (h2 : wh_is (u s) (y s) z) (hn : ¬ s = i) : wa_all u y (hw_up (hw_up va i x) s z) := by
  refine h.elim fun _ h => hf.elim fun _ hf => ⟨(), fun k => ?_⟩
  by_cases e : k = s
  · rw [e, hw_up_s]; exact h2
  · by_cases e2 : k = i
    · rw [hw_up_n e, e2, hw_up_s]; exact h1
    · rw [hw_up_n e, hw_up_n e2, (hf k e2 e).1, (hf k e2 e).2]; exact h k
theorem wa_nn {p : Int → Int} {q : Int → Int → Int} {va : Int → Int} (h : wa_all p q va) (k : Int) : 0 ≤ va k := h.elim fun _ h => (wh_nn (h k)).2
theorem wa_n0 {p : Int → Int} {q : Int → Int → Int} {va : Int → Int} {k : Int} (h : wa_all p q va) (hk : p k ≤ 0) : va k = 0 := h.elim fun _ h => wh_n0 (h k) (by have := (wh_nn (h k)).1; omega)
theorem wa_n1 {p : Int → Int} {q : Int → Int → Int} {va : Int → Int} {k : Int} (h : wa_all p q va) (hk : ¬ p k = 0) : 1 ≤ va k := h.elim fun _ h => wh_n1 (h k) hk
theorem hw_up_e {α : Type} {g : Int → α} {i q : Int} {x : α} : hw_up g i x q = if q = i then x else g q := rfl
theorem v_set (hU : hw_U (hm_T kof own)) {va : Int → Int} {i x : Int} (hv : wa_all z_nn z_dg va) (hx : 0 ≤ x ∧ x ≤ 9223372036854775807) (hK : ∀ u g, wa_all u g (hw_up va i x) → K none (zA, zB, [u], [g])) : hw_C pg_G pg_TT scr (hm_T kof own) (d + 1) 186 [hw_R 0 i, hw_J x] (zA, zB, [z_nn], [z_dg]) K E := hv.elim fun _ h =>
  w_set hU hx (fun _ _ hq => hK _ _ (wa_up hv hq))
theorem v_one (hU : hw_U (hm_T kof own)) {va : Int → Int} {i : Int} (hv : wa_all z_nn z_dg va) (hK : ∀ u g, wa_all u g (hw_up va i 1) → K none (zA, zB, [u], [g])) : hw_C pg_G pg_TT scr (hm_T kof own) (d + 2) 185 [hw_R 0 i] (zA, zB, [z_nn], [z_dg]) K E := hv.elim fun _ h =>
  w_one hU (fun _ _ hq => hK _ _ (wa_up hv hq))
theorem v_copy (hU : hw_U (hm_T kof own)) {va : Int → Int} {i j : Int} {m : Nat} (hv : wa_all z_nn z_dg va) (hij : ¬ j = i) (hb : va j < wB m) (hm : (m : Int) ≤ hm_rm i) (hK : ∀ u g, wa_all u g (hw_up va i (va j)) → K none (zA, zB, [u], [g])) : hw_C pg_G pg_TT scr (hm_T kof own) (d + 1) 249 [hw_R 0 i, hw_R 0 j] (zA, zB, [z_nn], [z_dg]) K E := hv.elim fun _ h =>
  w_copy hU hij ⟨(wh_nn (h j)).1, Int.le_trans (wB_n (h j) hb) hm⟩ (fun _ hq => hK _ _ (wa_up hv (wc_is hq (h j))))
theorem v_add (hU : hw_U (hm_T kof own)) {va : Int → Int} {i j : Int} {m : Nat} (hv : wa_all z_nn z_dg va) (hij : ¬ j = i) (hb : va i + va j < wB m) (hm : (m : Int) ≤ hm_rm i) (hK : ∀ u g, wa_all u g (hw_up va i (va i + va j)) → K none (zA, zB, [u], [g])) : hw_C pg_G pg_TT scr (hm_T kof own) (d + 1) 248 [hw_R 0 i, hw_R 0 j] (zA, zB, [z_nn], [z_dg]) K E := hv.elim fun _ h =>
  w_add hU hij (h i) (h j) (wB_rm hb hm) (fun _ _ hq => hK _ _ (wa_up hv hq))
theorem v_less (hU : hw_U (hm_T kof own)) {va : Int → Int} {i j : Int} (hv : wa_all z_nn z_dg va) (hij : ¬ j = i) (hab : va j ≤ va i) (hK : ∀ u g, wa_all u g (hw_up va i (va i - va j)) → K none (zA, zB, [u], [g])) : hw_C pg_G pg_TT scr (hm_T kof own) (d + 2) 266 [hw_R 0 i, hw_R 0 j] (zA, zB, [z_nn], [z_dg]) K E := hv.elim fun _ h =>
  w_less hU hij (h i) (h j) hab (fun _ _ hq => hK _ _ (wa_up hv hq))
theorem v_times (hU : hw_U (hm_T kof own)) {va : Int → Int} {i p r : Int} {m1 m2 : Nat} (hv : wa_all z_nn z_dg va) (hp : ¬ p = i) (hq : ¬ r = i) (h1 : va p < wB m1) (h2 : va r < wB m2) (hm : (m1 : Int) + (m2 : Int) ≤ hm_rm i) (hK : ∀ u g, wa_all u g (hw_up va i (va p * va r)) → K none (zA, zB, [u], [g])) : hw_C pg_G pg_TT scr (hm_T kof own) (d + 2) 247 [hw_R 0 i, hw_R 0 p, hw_R 0 r] (zA, zB, [z_nn], [z_dg]) K E := hv.elim fun _ h =>
  w_times hU hp hq (h p) (h r) (by have q1 := wB_n (h p) h1; have q2 := wB_n (h r) h2; omega) (fun _ _ hq => hK _ _ (wa_up hv hq))
theorem v_compare (hU : hw_U (hm_T kof own)) {va : Int → Int} {i j : Int} (hv : wa_all z_nn z_dg va) (hK : va i < va j → K (some (hw_I (-1))) (zA, zB, [z_nn], [z_dg])) (hK1 : va j < va i → K (some (hw_I 1)) (zA, zB, [z_nn], [z_dg])) (hK2 : va i = va j → K (some (hw_I 0)) (zA, zB, [z_nn], [z_dg])) : hw_C pg_G pg_TT scr (hm_T kof own) (d + 1) 253 [hw_R 0 i, hw_R 0 j] (zA, zB, [z_nn], [z_dg]) K E := hv.elim fun _ h =>
  w_compare hU (h i) (h j) hK hK1 hK2
theorem v_quotient (hU : hw_U (hm_T kof own)) {va : Int → Int} {i p r s : Int} {m1 m2 : Nat} (hv : wa_all z_nn z_dg va) (hpi : ¬ p = i) (hri : ¬ r = i) (hsi : ¬ s = i) (hps : ¬ p = s) (hrs : ¬ r = s) (hb : 1 ≤ va r) (h1 : va p < wB m1) (hm1 : (m1 : Int) ≤ hm_rm i) (h2 : va r < wB m2) (hm2 : (m2 : Int) + 1 ≤ hm_rm s) (hK : ∀ u g, wa_all u g (hw_up (hw_up va i (va p / va r)) s (va p % va r)) → K none (zA, zB, [u], [g])) : hw_C pg_G pg_TT scr (hm_T kof own) (d + 3) 252 [hw_R 0 i, hw_R 0 p, hw_R 0 r, hw_R 0 s] (zA, zB, [z_nn], [z_dg]) K E := hv.elim fun _ h =>
  w_quotient hU hpi hri hsi hps hrs (h p) (h r) hb (by have q1 := wB_n (h p) h1; omega) (by have q2 := wB_n (h r) h2; omega) (fun _ _ hf hq1 hq2 => hK _ _ (wa_fr hv hf hq1 hq2 hsi))
end C5a
