/-! operators and operands: out of arrays -/
def ypu (k q : Int) (W : List yE) (d : Int) (C : yC) (ty : Int) : Option (yG ⊕ (Int × yC)) :=
  if q = 32 ∨ q = 33 ∨ q = 20 ∨ q = 34 then some (.inl (1, (q, (if q = 34 then 0 else k), ty, (C.length : Int)) :: W, d, C ++ [(q, -1)], 0))
  else some (.inl (1, (q, (if q = 34 then 0 else k), ty, -1) :: W, d, C, 0))
def yopk (k q : Int) (W : List yE) (d : Int) (C : yC) (ty : Int) : Option (yG ⊕ (Int × yC)) :=
  if k = 0 then ybr q W d C ty else if k ≤ 2 ∧ 40 ≤ d then none else ypu k q W (if k ≤ 2 then d + 1 else d) C ty
theorem yrank_b (q : Int) : 0 ≤ yrank q ∧ yrank q ≤ 8 := by
  unfold yrank
  repeat' split
  all_goals omega
theorem yrank_12 {q : Int} (h : ¬ (q = 32 ∨ q = 33 ∨ q = 20 ∨ q = 34)) : yrank q = 0 ∨ 2 < yrank q := by
  unfold yrank
  repeat' split
  all_goals omega
theorem yop_k {q d ty : Int} {W : List yE} {C : yC} : yop q W d C ty = yopk (yrank q) q W d C ty := by
  unfold yop yopk ypu
  by_cases h0 : yrank q = 0
  · rw [if_pos h0, if_pos h0]
  · rw [if_neg h0, if_neg h0]
    by_cases h1 : yrank q ≤ 2 ∧ 40 ≤ d
    · rw [if_pos h1, if_pos h1]
    · rw [if_neg h1, if_neg h1]
      by_cases h2 : q = 32 ∨ q = 33 ∨ q = 20 ∨ q = 34
      · rw [if_pos h2, if_pos h2]
      · rw [if_neg h2, if_neg h2]
        have h3 := yrank_12 h2
        rw [if_neg (show ¬ yrank q ≤ 2 by omega), if_neg (show ¬ q = 34 by omega)]
theorem oh_n {a q x d ty : Int} {W : List yE} {C : yC} (h : yset a W d C ty = none) (ha : a = ythr x) (hx : x = q) : yhave q W d C ty = none := by
  subst ha hx
  unfold yhave
  rw [h]
theorem oh_t {a x d ty : Int} {W : List yE} {C : yC} {Y : Option (List yE × Int × yC × Int)} (h : yset a W d C ty = Y) (ha : a = ythr x) : yset (ythr x) W d C ty = Y := by
  subst ha
  exact h
theorem ysI {a d ty d' ty' n : Int} {W W' : List yE} {C C' : yC} (hI : yII W d C n) (h : yset a W d C ty = some (W', d', C', ty')) (ha : 1 ≤ a) : yII W' d' C' n := by
  obtain ⟨_, hI⟩ := hI
  exact ⟨(), (yset_I ha W d C ty n W' d' C' ty' hI h).1⟩
theorem oh_1 {q x k d ty d1 t1 : Int} {W W1 : List yE} {C C1 : yC} (h : yset (ythr x) W d C ty = some (W1, d1, C1, t1)) (hx : x = q) (hk : k = yrank x) (hn : ¬ k = 6 ∨ ¬ ytop W1 = 6) : yhave q W d C ty = yopk k x W1 d1 C1 t1 := by
  subst hx hk
  unfold yhave
  rw [h]
  show (if yrank x = 6 ∧ ytop W1 = 6 then _ else _) = _
  rw [if_neg (by omega)]
  exact yop_k
theorem oh_2n {q x k d ty d1 t1 : Int} {W W1 : List yE} {C C1 : yC} (h : yset (ythr x) W d C ty = some (W1, d1, C1, t1)) (h2 : yset 1 W1 d1 C1 t1 = none) (hx : x = q) (hk : k = yrank x) (h6 : k = 6) (ht : ytop W1 = 6) : yhave q W d C ty = none := by
  subst hx hk
  unfold yhave
  rw [h]
  show (if yrank x = 6 ∧ ytop W1 = 6 then (match yset 1 W1 d1 C1 t1 with | none => none | some (W2, d2, C2, t2) => ybr x W2 d2 C2 t2) else _) = _
  rw [if_pos ⟨h6, ht⟩, h2]
theorem oh_2 {q x k d ty d1 t1 d2 t2 : Int} {W W1 W2 : List yE} {C C1 C2 : yC} (h : yset (ythr x) W d C ty = some (W1, d1, C1, t1)) (h2 : yset 1 W1 d1 C1 t1 = some (W2, d2, C2, t2)) (hx : x = q) (hk : k = yrank x) (h6 : k = 6) (ht : ytop W1 = 6) : yhave q W d C ty = yopk 0 x W2 d2 C2 t2 := by
  subst hx hk
  unfold yhave
  rw [h]
  show (if yrank x = 6 ∧ ytop W1 = 6 then (match yset 1 W1 d1 C1 t1 with | none => none | some (W2, d2, C2, t2) => ybr x W2 d2 C2 t2) else _) = _
  rw [if_pos ⟨h6, ht⟩, h2]
  rfl
theorem ytn {fr w : Int} {wk wr wt wj : Int → Int} (h0 : 0 ≤ w) (h : w ≤ 0 ∨ ¬ wr (w - 1) = 6) : ¬ ytop (yW fr w wk wr wt wj) = 6 := by
  rcases Int.lt_or_le 0 w with g | g
  · rw [yt_top g]
    omega
  · rw [yt_top0 (by omega)]
    decide
theorem yty6 {fr w : Int} {wk wr wt wj : Int → Int} (h0 : 0 < w) (h : wr (w - 1) = 6) : ytop (yW fr w wk wr wt wj) = 6 := by
  rw [yt_top h0]
  exact h
section YO
variable {Y : Option (yG ⊕ (Int × yC))} {fr w d u ty k x m : Int} {wk wr wt wj op wi : Int → Int}
theorem ok_b {W : List yE} {C : yC} {Z : Option (yG ⊕ (Int × yC))} (h : Y = yopk k x W d C ty) (hb : ybr x W d C ty = Z) (hk : k = 0) : Y = Z := by
  rw [h]
  unfold yopk
  rw [if_pos hk]
  exact hb
theorem ok_n {W : List yE} {C : yC} (h : Y = yopk k x W d C ty) (hk : ¬ k = 0) (h2 : k ≤ 2) (hd : 40 ≤ d) : Y = none := by
  rw [h]
  unfold yopk
  rw [if_neg hk, if_pos ⟨h2, hd⟩]
theorem ok_p {d' : Int} {W : List yE} {C : yC} (h : Y = yopk k x W d C ty) (hk : ¬ k = 0) (h2 : k ≤ 2 → d < 40 ∧ d' = d + 1) (h3 : 2 < k → d' = d) : Y = ypu k x W d' C ty := by
  rw [h]
  unfold yopk
  rw [if_neg hk, if_neg (by omega)]
  have e : (if k ≤ 2 then d + 1 else d) = d' := by
    split
    · have := h2 (by assumption)
      omega
    · have := h3 (by omega)
      omega
  rw [e]
theorem pu_j {W : List yE} {r : Int} (h : Y = ypu k x W d (yCo fr u op wi) ty) (hx : x = 32 ∨ x = 33 ∨ x = 20 ∨ x = 34) (hf0 : 0 ≤ fr) (hu : fr ≤ u) (hm : m = u + 1) (hr : r = u) : Y = some (.inl (1, (x, (if x = 34 then 0 else k), ty, yrel fr r) :: W, d, yCo fr m (hw_up op u x) (hw_up wi u 0), 0)) := by
  subst hr
  have hp : yjp x := by unfold yjp; omega
  rw [h, yCo_emit hu hm, yrel_p hf0 hu]
  unfold ypu ydec
  rw [if_pos hx, yCo_len hu, if_pos hp, if_pos rfl]
theorem pu_n {W : List yE} {C : yC} (h : Y = ypu k x W d C ty) (hx : ¬ (x = 32 ∨ x = 33 ∨ x = 20 ∨ x = 34)) : Y = some (.inl (1, (x, (if x = 34 then 0 else k), ty, yrel fr (-1)) :: W, d, C, 0)) := by
  rw [h]
  unfold ypu
  rw [if_neg hx]
  rfl
theorem pv_e {a b c h' q : Int} {C : yC} (h : Y = some (.inl (1, (x, (if x = 34 then 0 else k), c, yrel fr h') :: yW fr w wk wr wt wj, d, C, 0))) (hb : (x = 34 → b = 0) ∧ (¬ x = 34 → b = k)) (hw : 0 ≤ w) (hq : q = w + 1) : Y = some (.inl (1, yW fr q (hw_up wk w x) (hw_up wr w b) (hw_up wt w c) (hw_up wj w h'), d, C, yty 1 a)) := by
  rw [h, yW_push hw hq]
  have e : (if x = 34 then 0 else k) = b := by
    split
    · exact (hb.1 (by assumption)).symm
    · exact (hb.2 (by assumption)).symm
  rw [e]
  rfl
end YO
theorem yh_0 {q d ty : Int} {W : List yE} {C : yC} {c : yG} (h : yhave q W d C ty = some (.inl c)) : ¬ q = 0 := by
  intro e
  subst e
  unfold yhave at h
  split at h
  · cases h
  · rename_i W1 d1 C1 t1 _
    rw [if_neg (by intro z; exact absurd z.1 (by decide))] at h
    unfold yop at h
    rw [if_pos (by decide)] at h
    unfold ybr at h
    split at h
    · cases h
    · rename_i k r a jm W2
      rw [if_neg (by omega), if_neg (by omega), if_neg (by omega), if_neg (by omega)] at h
      cases h
/-! what is kept by a step -/
theorem ybrI {q d ty n m d' t' : Int} {W W' : List yE} {C C' : yC} (hI : yI W d C n) (h : ybr q W d C ty = some (.inl (m, W', d', C', t'))) : yI W' d' C' (n + 1) := by
  unfold ybr at h
  split at h
  · cases h
  · rename_i k r a jm W2
    split at h
    · rename_i c
      obtain ⟨c1, c2⟩ := c
      subst c1
      injection h with h
      injection h with h
      injection h with h1 h
      injection h with h2 h
      injection h with h3 h
      injection h with h4 h5
      subst h2 h3 h4
      exact yI_colon hI (yI_ask hI) rfl
    · split at h
      · rename_i c
        obtain ⟨c1, c2⟩ := c
        subst c1
        injection h with h
        injection h with h
        injection h with h1 h
        injection h with h2 h
        injection h with h3 h
        injection h with h4 h5
        subst h2 h3 h4
        exact yI_le (yI_shut hI) (by omega)
      · split at h
        · injection h with h
          injection h with h
          injection h with h1 h
          injection h with h2 h
          injection h with h3 h
          injection h with h4 h5
          subst h2 h3 h4
          exact yI_le (yI_top hI) (by omega)
        · split at h
          · rename_i c
            injection h with h
            injection h with h
            injection h with h1 h
            injection h with h2 h
            injection h with h3 h
            injection h with h4 h5
            subst h2 h3 h4
            exact yI_le (yI_fun hI c.1) (by omega)
          · cases h
theorem yopI {q d ty n m d' t' : Int} {W W' : List yE} {C C' : yC} (hI : yI W d C n) (ht : ytop W < ythr q) (h6 : ¬ (yrank q = 6 ∧ ytop W = 6)) (h : yop q W d C ty = some (.inl (m, W', d', C', t'))) : yI W' d' C' (n + 1) := by
  unfold yop at h
  split at h
  · exact ybrI hI h
  · rename_i h0
    split at h
    · cases h
    · split at h
      · rename_i hj
        injection h with h
        injection h with h
        injection h with h1 h
        injection h with h2 h
        injection h with h3 h
        injection h with h4 h5
        subst h2 h3 h4
        refine yI_jmp hI ?_ (by unfold yjp; omega) rfl
        unfold ythr at ht
        rcases hj with rfl | rfl | rfl | rfl
        · have e : yrank 32 = 4 := by decide
          rw [e] at ht ⊢
          rw [if_neg (by omega)] at ht
          exact Or.inr ⟨by decide, ht, if_neg (by decide)⟩
        · have e : yrank 33 = 3 := by decide
          rw [e] at ht ⊢
          rw [if_neg (by omega)] at ht
          exact Or.inr ⟨by decide, ht, if_neg (by decide)⟩
        · exact Or.inl ⟨by decide, if_pos (by decide)⟩
        · exact Or.inl ⟨by decide, if_pos (by decide)⟩
      · rename_i hj
        injection h with h
        injection h with h
        injection h with h1 h
        injection h with h2 h
        injection h with h3 h
        injection h with h4 h5
        subst h2 h3 h4
        have hq : (21 ≤ q ∧ q ≤ 26) ∨ q = 27 ∨ q = 28 ∨ q = 29 := by
          unfold yrank at h0
          split at h0
          · omega
          · split at h0
            · omega
            · split at h0
              · omega
              · split at h0
                · omega
                · split at h0
                  · omega
                  · split at h0
                    · omega
                    · split at h0
                      · omega
                      · omega
        have hr : (21 ≤ q ∧ q ≤ 26 ∧ yrank q = 6) ∨ ((q = 27 ∨ q = 28) ∧ yrank q = 7) ∨ (q = 29 ∧ yrank q = 8) := by
          rcases hq with c | rfl | rfl | rfl
          · left
            refine ⟨c.1, c.2, ?_⟩
            unfold yrank
            rw [if_neg (by omega), if_neg (by omega), if_neg (by omega), if_neg (by omega), if_pos c]
          · exact Or.inr (Or.inl ⟨Or.inl rfl, by decide⟩)
          · exact Or.inr (Or.inl ⟨Or.inr rfl, by decide⟩)
          · exact Or.inr (Or.inr ⟨rfl, by decide⟩)
        refine yI_op hI ?_ ?_ ?_ rfl
        · omega
        · unfold ythr at ht
          split at ht <;> omega
        · unfold yjp
          omega
theorem ythr_b (q : Int) : 1 ≤ ythr q := by
  unfold ythr
  have := yrank_b q
  split <;> omega
theorem yhaveI {q d ty n m d' t' : Int} {W W' : List yE} {C C' : yC} (hI : yII W d C n) (h : yhave q W d C ty = some (.inl (m, W', d', C', t'))) : yII W' d' C' (n + 1) := by
  obtain ⟨_, hI⟩ := hI
  refine ⟨(), ?_⟩
  unfold yhave at h
  split at h
  · cases h
  · rename_i W1 d1 C1 t1 e1
    have i1 := yset_I (ythr_b q) W d C ty n W1 d1 C1 t1 hI e1
    split at h
    · split at h
      · cases h
      · rename_i W2 d2 C2 t2 e2
        exact ybrI (yset_I (by decide) W1 d1 C1 t1 n W2 d2 C2 t2 i1.1 e2).1 h
    · rename_i h6
      exact yopI i1.1 i1.2 h6 h
theorem ywantI {o : Option (Int × Int × Int)} {q d n m d' t' : Int} {W W' : List yE} {C C' : yC} (hI : yII W d C n) (h : ywant o q W d C = some (.inl (m, W', d', C', t'))) : yII W' d' C' (n + 1) := by
  obtain ⟨_, hI⟩ := hI
  refine ⟨(), ?_⟩
  unfold ywant at h
  split at h
  · injection h with h
    injection h with h
    injection h with h1 h
    injection h with h2 h
    injection h with h3 h
    injection h with h4 h5
    subst h2 h3 h4
    exact yI_emit hI
  · split at h
    · split at h
      · cases h
      · injection h with h
        injection h with h
        injection h with h1 h
        injection h with h2 h
        injection h with h3 h
        injection h with h4 h5
        subst h2 h3 h4
        exact yI_nest hI (by decide) (by decide)
    · split at h
      · split at h
        · cases h
        · injection h with h
          injection h with h
          injection h with h1 h
          injection h with h2 h
          injection h with h3 h
          injection h with h4 h5
          subst h2 h3 h4
          exact yI_nest hI (by decide) (by decide)
      · split at h
        · split at h
          · cases h
          · injection h with h
            injection h with h
            injection h with h1 h
            injection h with h2 h
            injection h with h3 h
            injection h with h4 h5
            subst h2 h3 h4
            exact yI_nest hI (by decide) (by decide)
        · split at h
          · rename_i c
            split at h
            · cases h
            · injection h with h
              injection h with h
              injection h with h1 h
              injection h with h2 h
              injection h with h3 h
              injection h with h4 h5
              subst h2 h3 h4
              exact yI_nest hI (by omega) (by unfold yjp; omega)
          · cases h
/-! operands -/
section YD
variable {t : Int → Int} {n vk j : Int} {L : yN}
theorem od_i {v : Int} (h : kd t n j = 3) (hv : v = nu t n j) : odl t n L vk j = some (3, v, 1) := by unfold odl; rw [if_pos h, hv]
theorem od_t (h : kd t n j = 13) : odl t n L vk j = some (3, 1, 2) := by unfold odl; rw [if_neg (by omega), if_pos h]
theorem od_f (h : kd t n j = 14) : odl t n L vk j = some (3, 0, 2) := by unfold odl; rw [if_neg (by omega), if_neg (by omega), if_pos h]
theorem od_c {r v : Int} {x : Int} (hf : fnd t n j L = some (r, v, x)) (h : kd t n j = 2) (hr : r = 0) : odl t n L vk j = some (3, v, 1) := by
  unfold odl
  rw [if_neg (by omega), if_neg (by omega), if_neg (by omega), if_pos h, hf]
  show (if r = 0 then some (3, v, 1) else if r = 1 ∧ ¬ vk = 0 then some (2, v, x) else none) = _
  rw [if_pos hr]
theorem od_v {r v x : Int} (hf : fnd t n j L = some (r, v, if r = 1 then x else 0)) (h : kd t n j = 2) (hr : r = 1) (hv : ¬ vk = 0) : odl t n L vk j = some (2, v, x) := by
  unfold odl
  rw [if_neg (by omega), if_neg (by omega), if_neg (by omega), if_pos h, hf]
  show (if r = 0 then some (3, v, 1) else if r = 1 ∧ ¬ vk = 0 then some (2, v, if r = 1 then x else 0) else none) = _
  rw [if_neg (by omega), if_pos ⟨hr, hv⟩, if_pos hr]
theorem od_n0 (hf : fnd t n j L = none) (h : kd t n j = 2) : odl t n L vk j = none := by
  unfold odl
  rw [if_neg (by omega), if_neg (by omega), if_neg (by omega), if_pos h, hf]
theorem od_n1 {r v x : Int} (hf : fnd t n j L = some (r, v, x)) (h : kd t n j = 2) (hr : r = 2 ∨ (r = 1 ∧ vk = 0)) : odl t n L vk j = none := by
  unfold odl
  rw [if_neg (by omega), if_neg (by omega), if_neg (by omega), if_pos h, hf]
  show (if r = 0 then some (3, v, 1) else if r = 1 ∧ ¬ vk = 0 then some (2, v, x) else none) = _
  rw [if_neg (by omega), if_neg (by omega)]
theorem od_n (h1 : ¬ kd t n j = 3) (h2 : ¬ kd t n j = 13) (h3 : ¬ kd t n j = 14) (h4 : ¬ kd t n j = 2) : odl t n L vk j = none := by
  unfold odl
  rw [if_neg h1, if_neg h2, if_neg h3, if_neg h4]
variable {fr w d u m q : Int} {wk wr wt wj op wi : Int → Int}
theorem wa_op {W : List yE} {c v x : Int} (ho : odl t n L vk j = some (c, v, x)) (hc : c = 2 ∨ c = 3) (hu : fr ≤ u) (hm : m = u + 1) : ywant (odl t n L vk j) q W d (yCo fr u op wi) = some (.inl (0, W, d, yCo fr m (hw_up op u c) (hw_up wi u v), yty 0 x)) := by
  rw [ho, yCo_emit hu hm]
  unfold ydec
  rw [if_neg (by unfold yjp; omega)]
  rfl
theorem wa_n2 {W : List yE} {C : yC} (ho : odl t n L vk j = none) (hq : q = 2) : ywant (odl t n L vk j) q W d C = none := by
  rw [ho, hq]
  rfl
theorem wa_no {W : List yE} {C : yC} (hq : q = kd t n j) (h1 : ¬ q = 3) (h2 : ¬ q = 13) (h3 : ¬ q = 14) (h4 : ¬ q = 2) (h5 : ¬ q = 31) (h6 : ¬ q = 28) (h7 : ¬ q = 39) (h8 : ¬ (15 ≤ q ∧ q ≤ 17)) : ywant (odl t n L vk j) q W d C = none := by
  rw [od_n (by omega) (by omega) (by omega) (by omega)]
  show (if q = 31 then _ else if q = 28 then _ else if q = 39 then _ else if 15 ≤ q ∧ q ≤ 17 then _ else none) = _
  rw [if_neg h5, if_neg h6, if_neg h7, if_neg h8]
theorem wa_not {C : yC} {d' a : Int} (hq : q = kd t n j) (h5 : q = 31) (hw : 0 ≤ w) (ht : w ≤ 0 ∨ wr (w - 1) ≤ 5) (hd : d < 40) (hd' : d' = d + 1) (hm : m = w + 1) : ywant (odl t n L vk j) q (yW fr w wk wr wt wj) d C = some (.inl (1, yW fr m (hw_up wk w 31) (hw_up wr w 5) (hw_up wt w 2) (hw_up wj w (-1)), d', C, yty 1 a)) := by
  rw [od_n (by omega) (by omega) (by omega) (by omega), yW_push hw hm]
  show (if q = 31 then (if 5 < ytop (yW fr w wk wr wt wj) ∨ 40 ≤ d then none else _) else _) = _
  have e : ¬ (5 < ytop (yW fr w wk wr wt wj) ∨ 40 ≤ d) := by
    rcases Int.lt_or_le 0 w with g | g
    · rw [yt_top g]
      omega
    · rw [yt_top0 (by omega)]
      omega
  rw [if_pos h5, if_neg e, hd']
  rfl
theorem wa_not0 {C : yC} (hq : q = kd t n j) (h5 : q = 31) (ht : (0 < w ∧ 5 < wr (w - 1)) ∨ 40 ≤ d) : ywant (odl t n L vk j) q (yW fr w wk wr wt wj) d C = none := by
  rw [od_n (by omega) (by omega) (by omega) (by omega)]
  show (if q = 31 then (if 5 < ytop (yW fr w wk wr wt wj) ∨ 40 ≤ d then none else _) else _) = _
  have e : 5 < ytop (yW fr w wk wr wt wj) ∨ 40 ≤ d := by
    rcases ht with ht | ht
    · rw [yt_top ht.1]
      exact Or.inl ht.2
    · exact Or.inr ht
  rw [if_pos h5, if_pos e]
theorem wa_neg {C : yC} {d' a : Int} (hq : q = kd t n j) (h5 : q = 28) (hw : 0 ≤ w) (hd : d < 40) (hd' : d' = d + 1) (hm : m = w + 1) : ywant (odl t n L vk j) q (yW fr w wk wr wt wj) d C = some (.inl (1, yW fr m (hw_up wk w 43) (hw_up wr w 9) (hw_up wt w 1) (hw_up wj w (-1)), d', C, yty 1 a)) := by
  rw [od_n (by omega) (by omega) (by omega) (by omega), yW_push hw hm]
  show (if q = 31 then _ else if q = 28 then (if 40 ≤ d then none else _) else _) = _
  rw [if_neg (by omega), if_pos h5, if_neg (by omega), hd']
  rfl
theorem wa_par {C : yC} {d' a : Int} (hq : q = kd t n j) (h5 : q = 39) (hw : 0 ≤ w) (hd : d < 40) (hd' : d' = d + 1) (hm : m = w + 1) : ywant (odl t n L vk j) q (yW fr w wk wr wt wj) d C = some (.inl (1, yW fr m (hw_up wk w 39) (hw_up wr w 0) (hw_up wt w 0) (hw_up wj w (-1)), d', C, yty 1 a)) := by
  rw [od_n (by omega) (by omega) (by omega) (by omega), yW_push hw hm]
  show (if q = 31 then _ else if q = 28 then _ else if q = 39 then (if 40 ≤ d then none else _) else _) = _
  rw [if_neg (by omega), if_neg (by omega), if_pos h5, if_neg (by omega), hd']
  rfl
theorem wa_d {W : List yE} {C : yC} (hq : q = kd t n j) (h5 : q = 28 ∨ q = 39 ∨ (15 ≤ q ∧ q ≤ 17)) (hd : 40 ≤ d) : ywant (odl t n L vk j) q W d C = none := by
  rw [od_n (by omega) (by omega) (by omega) (by omega)]
  show (if q = 31 then _ else if q = 28 then (if 40 ≤ d then none else _) else if q = 39 then (if 40 ≤ d then none else _) else if 15 ≤ q ∧ q ≤ 17 then (if 40 ≤ d then none else _) else _) = _
  rw [if_neg (by omega)]
  rcases h5 with h5 | h5 | h5
  · rw [if_pos h5, if_pos hd]
  · rw [if_neg (by omega), if_pos h5, if_pos hd]
  · rw [if_neg (by omega), if_neg (by omega), if_pos h5, if_pos hd]
theorem wa_fun {C : yC} {d' : Int} (hq : q = kd t n j) (h5 : 15 ≤ q ∧ q ≤ 17) (hw : 0 ≤ w) (hd : d < 40) (hd' : d' = d + 1) (hm : m = w + 1) : ywant (odl t n L vk j) q (yW fr w wk wr wt wj) d C = some (.inl (2, yW fr m (hw_up wk w q) (hw_up wr w 0) (hw_up wt w 0) (hw_up wj w (-1)), d', C, 0)) := by
  rw [od_n (by omega) (by omega) (by omega) (by omega), yW_push hw hm]
  show (if q = 31 then _ else if q = 28 then _ else if q = 39 then _ else if 15 ≤ q ∧ q ≤ 17 then (if 40 ≤ d then none else _) else _) = _
  rw [if_neg (by omega), if_neg (by omega), if_neg (by omega), if_pos h5, if_neg (by omega), hd']
  rfl
end YD
def is2 (Y : Option (yG ⊕ (Int × yC))) : Prop := ∃ (W : List yE) (d : Int) (C : yC) (x : Int), Y = some (.inl (2, W, d, C, x))
theorem is2_i {W : List yE} {d x : Int} {C : yC} {Y : Option (yG ⊕ (Int × yC))} (h : Y = some (.inl (2, W, d, C, x))) : is2 Y := ⟨W, d, C, x, h⟩
/-! the run of an expression -/
section YR
variable {k : Int → Int} {od : Int → Option (Int × Int × Int)} {R0 : Option (Int × Int × yC)} {W W' : List yE} {d d' j j' ty x : Int} {C C' : yC} {c : yG}
theorem rx_0 (h0 : R0 = yR k od (1, W, d, C, x) (k j) j) (h : ywant (od j) (k j) W d C = none) (hj : j < 1501) : R0 = none := by
  rw [h0]
  exact yR_n hj h
theorem rx_1 (h0 : R0 = yR k od (1, W, d, C, x) (k j) j) (h : ywant (od j) (k j) W d C = some (.inl c)) (ha : ad k j = some j') (hj : j < 1501) : R0 = yR k od c (k j') j' := by
  have a := ad_i ha
  obtain ⟨a1, a2⟩ := a
  subst a1
  rw [h0]
  exact yR_g hj h a2
theorem rx_1n (h0 : R0 = yR k od (1, W, d, C, x) (k j) j) (h : ywant (od j) (k j) W d C = some (.inl c)) (ha : ad k j = none) (hj : j < 1501) : R0 = none := by
  rw [h0]
  refine yR_b hj h ?_
  unfold ad at ha
  split at ha
  · assumption
  · cases ha
theorem rx_2 {j1 : Int} (h0 : R0 = yR k od (1, W, d, C, x) (k j) j) (h : ywant (od j) (k j) W d C = some (.inl (2, W', d', C', ty))) (ha : ad k j1 = some j') (h1 : j1 = j + 1) (hk : k j1 = 39) (hj : j < 1500) : R0 = yR k od (1, W', d', C', 0) (k j') j' := by
  subst h1
  obtain ⟨a1, a2⟩ := ad_i ha
  subst a1
  rw [h0, yR_g (c := (1, W, d, C, x)) (by omega) h (by omega)]
  refine yR_g (by omega) ?_ a2
  rw [hk]
  rfl
theorem rx_2n {j1 : Int} (h0 : R0 = yR k od (1, W, d, C, x) (k j) j) (h : ywant (od j) (k j) W d C = some (.inl (2, W', d', C', ty))) (ha : ad k j1 = none) (h1 : j1 = j + 1) (hk : k j1 = 39) (hj : j < 1500) : R0 = none := by
  subst h1
  rw [h0, yR_g (c := (1, W, d, C, x)) (by omega) h (by omega)]
  refine yR_b (c' := (1, W', d', C', 0)) (by omega) ?_ ?_
  · rw [hk]
    rfl
  · unfold ad at ha
    split at ha
    · assumption
    · cases ha
theorem rx_2k (h0 : R0 = yR k od (1, W, d, C, x) (k j) j) (h : is2 (ywant (od j) (k j) W d C)) (hk : ¬ k (j + 1) = 39) (hj : j < 1500) : R0 = none := by
  obtain ⟨W', d', C', y, h⟩ := h
  rw [h0]
  by_cases e : k (j + 1) = 1
  · exact yR_b (by omega) h e
  · rw [yR_g (c := (1, W, d, C, x)) (by omega) h e]
    refine yR_n (by omega) ?_
    show (if k (j + 1) = 39 then _ else none) = none
    rw [if_neg hk]
theorem rx_h0 (h0 : R0 = yR k od (0, W, d, C, ty) (k j) j) (h : yhave (k j) W d C ty = none) (hj : j < 1501) : R0 = none := by
  rw [h0]
  exact yR_n hj h
theorem rx_h1 (h0 : R0 = yR k od (0, W, d, C, ty) (k j) j) (h : yhave (k j) W d C ty = some (.inl c)) (ha : ad k j = some j') (hj : j < 1501) : R0 = yR k od c (k j') j' := by
  obtain ⟨a1, a2⟩ := ad_i ha
  subst a1
  rw [h0]
  exact yR_g hj h a2
theorem rx_h1n (h0 : R0 = yR k od (0, W, d, C, ty) (k j) j) (h : yhave (k j) W d C ty = some (.inl c)) (ha : ad k j = none) (hj : j < 1501) : R0 = none := by
  rw [h0]
  refine yR_b hj h ?_
  unfold ad at ha
  split at ha
  · assumption
  · cases ha
theorem rx_hd {t1 : Int} (h0 : R0 = yR k od (0, W, d, C, ty) (k j) j) (h : yhave (k j) W d C ty = some (.inr (t1, C'))) (hj : j < 1501) : R0 = some (j, t1, C') := by
  rw [h0]
  exact yR_d hj h
end YR
/-- an expression of TYPE x from j on: where it ends, its code -/
noncomputable def yex (t : Int → Int) (n : Int) (L : yN) (vk x j : Int) : Option (Int × yC) := match yR (kd t n) (odl t n L vk) (1, [], 0, [], 0) (kd t n j) j with
  | some (j', ty, C) => if ty = x then some (j', C) else none
  | none => none
theorem yex_n {t : Int → Int} {n vk x j : Int} {L : yN} (h : yR (kd t n) (odl t n L vk) (1, [], 0, [], 0) (kd t n j) j = none) : yex t n L vk x j = none := by unfold yex; rw [h]
theorem yex_w {t : Int → Int} {n vk x j j' ty : Int} {L : yN} {C : yC} (h : yR (kd t n) (odl t n L vk) (1, [], 0, [], 0) (kd t n j) j = some (j', ty, C)) (hx : ¬ ty = x) : yex t n L vk x j = none := by
  unfold yex
  rw [h]
  exact if_neg hx
theorem yex_s {t : Int → Int} {n vk x j j' ty : Int} {L : yN} {C : yC} (h : yR (kd t n) (odl t n L vk) (1, [], 0, [], 0) (kd t n j) j = some (j', ty, C)) (hx : ty = x) : yex t n L vk x j = some (j', C) := by
  unfold yex
  rw [h]
  exact if_pos hx
theorem ad_39 {k : Int → Int} {j : Int} (h : ad k j = none) : ¬ k (j + 1) = 39 := by
  unfold ad at h
  split at h
  · omega
  · cases h
theorem ad_k {k : Int → Int} {j v x : Int} (h : ad k j = some v) (hx : ¬ x = 39) (hv : x = k v) : ¬ k (j + 1) = 39 := by
  obtain ⟨a, b⟩ := ad_i h
  subst a
  omega
