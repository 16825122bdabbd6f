/-! the model's code as the spec's -/
def opm (o : Int) : Int := if o = 0 then 3 else if o = 1 then 2 else if o = 2 then 27 else if o = 3 then 28 else if o = 4 then 29 else if o = 5 then 15 else if o = 6 then 16 else if o = 7 then 17 else if o = 8 then 24 else if o = 9 then 21 else if o = 10 then 25 else if o = 11 then 22 else if o = 12 then 26 else if o = 13 then 23 else if o = 14 then 31 else if o = 15 then 43 else if o = 16 then 34 else if o = 17 then 32 else if o = 18 then 33 else if o = 19 then 20 else if o = 20 then 35 else 44
def mop (f : Int → Int) (i : Int) : Int := opm (f (2 * i))
def mhv (v : Int) : Int := if v % 2 = 0 then v / 2 else -5
def mwi (f : Int → Int) (i : Int) : Int := if 16 ≤ f (2 * i) ∧ f (2 * i) ≤ 20 then mhv (f (2 * i + 1)) else f (2 * i + 1)
def uC (f : Int → Int) (a b : Int) : yC := yCo (a / 2) (b / 2) (mop f) (mwi f)
theorem opm_j {o : Int} : yjp (opm o) ↔ 16 ≤ o ∧ o ≤ 20 := by
  unfold opm yjp
  repeat' split
  all_goals omega
/-- what is below stays -/
def ucs (f g : Int → Int) (b : Int) : Prop := ∃ _ : Unit, ∀ q, q < b → g q = f q
theorem ucs_r {f : Int → Int} {b : Int} : ucs f f b := ⟨(), fun _ _ => rfl⟩
theorem ucs_at {f g : Int → Int} {b q : Int} (h : ucs f g b) (hq : q < b) : g q = f q := h.elim fun _ h => h q hq
theorem ucs_t {f g k : Int → Int} {b c : Int} (h : ucs f g b) (h' : ucs g k c) (hc : b ≤ c) : ucs f k b := ⟨(), fun q hq => by rw [ucs_at h' (by omega), ucs_at h hq]⟩
theorem ucs_e {f g : Int → Int} {b c e o v : Int} (h : ucs f g b) (hc : b ≤ c) (he : c ≤ e) : ucs f (hw_up (hw_up g c o) e v) b := ⟨(), fun q hq => by rw [hw_up_n (by omega), hw_up_n (by omega), ucs_at h hq]⟩
theorem ucs_1 {f g : Int → Int} {b c v : Int} (h : ucs f g b) (hc : b ≤ c) : ucs f (hw_up g c v) b := ⟨(), fun q hq => by rw [hw_up_n (by omega), ucs_at h hq]⟩
theorem ucs_j {f g k : Int → Int} {b c e o v x : Int} (h' : ucs (hw_up (hw_up g c o) e v) k x) (h : ucs f g b) (hc : b ≤ c) (he : c ≤ e) (hx : b ≤ x) : ucs f k b := ucs_t (ucs_e h hc he) h' hx
theorem ucs_i {f g k : Int → Int} {b c e o v x p u : Int} (h' : ucs (hw_up (hw_up (hw_up g c o) e v) p u) k x) (h : ucs f g b) (hc : b ≤ c) (he : c ≤ e) (hp : b ≤ p) (hx : b ≤ x) : ucs f k b := ucs_t (ucs_1 (ucs_e h hc he) hp) h' hx
theorem uC_len {f : Int → Int} {a b : Int} (h : a ≤ b) : ((uC f a b).length : Int) = b / 2 - a / 2 := yCo_len (by omega)
theorem uC_0 {f : Int → Int} {a : Int} : uC f a a = [] := yCo_0
theorem uC_eq {f g : Int → Int} {a b : Int} (h0 : 0 ≤ a) (hb : b % 2 = 0) (h : ∀ q, q < b → g q = f q) : uC g a b = uC f a b := by
  unfold uC yCo
  refine yCf_eq _ (fun i hi => ?_)
  unfold mop mwi
  rw [h _ (by omega), h _ (by omega)]
  exact ⟨rfl, rfl⟩
theorem uC_k {f g : Int → Int} {a b c : Int} (h : ucs f g c) (h0 : 0 ≤ a) (hb : b % 2 = 0) (hc : b ≤ c) : uC g a b = uC f a b := uC_eq h0 hb (fun q hq => ucs_at h (by omega))
/-- two places are written -/
theorem uC_em {f : Int → Int} {a b c o v : Int} (h0 : 0 ≤ a ∧ a ≤ b) (hb : b % 2 = 0) (hc : c = b + 2) : uC (hw_up (hw_up f b o) (b + 1) v) a c = uC f a b ++ [(opm o, ydec (a / 2) (opm o) (if 16 ≤ o ∧ o ≤ 20 then mhv v else v))] := by
  subst hc
  unfold uC
  rw [show (b + 2) / 2 = b / 2 + 1 by omega, yCo_s (by omega)]
  have e1 : 2 * (b / 2) = b := by omega
  have m1 : mop (hw_up (hw_up f b o) (b + 1) v) (b / 2) = opm o := by
    unfold mop
    rw [e1, hw_up_n (by omega), hw_up_s]
  have m2 : mwi (hw_up (hw_up f b o) (b + 1) v) (b / 2) = if 16 ≤ o ∧ o ≤ 20 then mhv v else v := by
    unfold mwi
    rw [e1, hw_up_s, hw_up_n (by omega), hw_up_s]
  rw [m1, m2]
  refine congrArg (fun z => z ++ _) ?_
  exact uC_eq h0.1 hb (fun q hq => by rw [hw_up_n (by omega), hw_up_n (by omega)])
theorem uC_p {f : Int → Int} {a b c o v x : Int} (h0 : 0 ≤ a ∧ a ≤ b) (hb : b % 2 = 0) (hc : c = b + 2) (ho : o < 16) (hx : opm o = x) : uC (hw_up (hw_up f b o) (b + 1) v) a c = uC f a b ++ [(x, v)] := by
  have e : ¬ (16 ≤ o ∧ o ≤ 20) := by omega
  rw [uC_em h0 hb hc, if_neg e, hx]
  unfold ydec
  rw [if_neg (by rw [← hx]; exact fun z => e (opm_j.mp z))]
theorem uC_j {f : Int → Int} {a b c o x : Int} (h0 : 0 ≤ a ∧ a ≤ b) (hb : b % 2 = 0) (hc : c = b + 2) (ho : 16 ≤ o ∧ o ≤ 20) (hx : opm o = x) : uC (hw_up (hw_up f b o) (b + 1) 0) a c = uC f a b ++ [(x, -1)] := by
  rw [uC_em h0 hb hc, if_pos ho, hx]
  unfold ydec
  rw [if_pos (by rw [← hx]; exact opm_j.mpr ho), if_pos (by decide)]
theorem uC_aim {f : Int → Int} {a b g y v : Int} (h0 : 0 ≤ a ∧ a ≤ g) (hg : g % 2 = 0) (hb : b % 2 = 0) (hgb : g < b) (hf : 16 ≤ f g ∧ f g ≤ 20) (hy : y = g + 1) (hv : v = b) : uC (hw_up f y v) a b = yaim (uC f a b) (g / 2 - a / 2) := by
  subst hy hv
  have e1 : 2 * (g / 2) = g := by omega
  have m1 : mop (hw_up f (g + 1) v) = mop f := by
    funext i
    unfold mop
    rw [hw_up_n (by omega)]
  have m2 : mwi (hw_up f (g + 1) v) = hw_up (mwi f) (g / 2) (v / 2) := by
    funext i
    by_cases e : i = g / 2
    · subst e
      rw [hw_up_s]
      unfold mwi
      rw [e1, hw_up_n (by omega), if_pos hf, hw_up_s]
      unfold mhv
      exact if_pos hb
    · rw [hw_up_n e]
      unfold mwi
      rw [hw_up_n (by omega), hw_up_n (by omega)]
  unfold uC
  rw [m1, m2]
  refine yCo_aim (by omega) (by omega) (by omega) ?_
  unfold mop
  rw [e1]
  exact opm_j.mpr hf
/-! steps of the way down, with the model's code -/
section YE
variable {k : Int → Int} {od : Int → Option (Int × Int × Int)} {R0 : Option (Int × Int × yC)} {W : List yE} {C : yC} {d d' j j' t t' lev q r b o x a cs y v jm : Int} {cd f g : Int → Int}
/-- an operand -/
theorem uT_od {z : Int} (h : R0 = yR k od (1, W, d, uC f a cs, 0) (k j) j) (ho : od j = some (q, v, t)) (ha : ad k j = some j') (hj : j < 1501) (h0 : 0 ≤ a ∧ a ≤ cs) (hb : cs % 2 = 0) (hx : x = cs + 2) (hq : o = 0 ∧ q = 3 ∨ o = 1 ∧ q = 2) (hz : z = v) : uH 9 R0 k od W d (uC (hw_up (hw_up f cs o) (cs + 1) z) a x) t j' := by
  subst hz
  rw [uC_p (x := q) h0 hb hx (by omega) (by rcases hq with ⟨e, e2⟩ | ⟨e, e2⟩ <;> (subst e e2; rfl))]
  exact uW_od h ho ha hj
/-- product, sum -/
theorem uT_pr (h : uH lev R0 k od ((q, r, b, -1) :: W) d (uC cd a cs) t j) (hq : q = 29 ∧ r = 8 ∧ lev = 9 ∧ o = 4 ∨ q = 27 ∧ r = 7 ∧ lev = 8 ∧ o = 2 ∨ q = 28 ∧ r = 7 ∧ lev = 8 ∧ o = 3) (hb : b = 1) (ht : t = 1) (h0 : 0 ≤ a ∧ a ≤ cs) (he : cs % 2 = 0) (hx : x = cs + 2) (hj : j < 1501) (ht' : t' = t) (hd : d' = d) : uH lev R0 k od W d' (uC (hw_up (hw_up cd cs o) (cs + 1) 0) a x) t' j := by
  subst ht' hd
  have z := uH_set h (by omega) (by omega) (by omega) (by omega) hj
  rw [uC_p (x := q) h0 he hx (by omega) (by rcases hq with ⟨e, _, _, e2⟩ | ⟨e, _, _, e2⟩ | ⟨e, _, _, e2⟩ <;> (subst e e2; rfl))]
  have e1 : yd1 r d' = d' := if_neg (by omega)
  have e2 : yc1 q (-1) (uC cd a cs) = uC cd a cs ++ [(q, 0)] := if_neg (by decide)
  have e3 : yt1 r t' = t' := by unfold yt1; rw [if_neg (by omega), if_pos (by omega)]; exact ht.symm
  rw [e1, e2, e3] at z
  exact z
theorem uT_prn (h : uH lev R0 k od ((q, r, b, -1) :: W) d (uC cd a cs) t j) (hq : q = 29 ∧ r = 8 ∧ lev = 9 ∨ q = 27 ∧ r = 7 ∧ lev = 8 ∨ q = 28 ∧ r = 7 ∧ lev = 8) (hb : ¬ b = 1 ∨ ¬ t = 1) (hj : j < 1501) : R0 = none := uH_no h (by omega) (by omega) (by omega) (by omega) hj
/-- relations -/
theorem ucm_q {r q : Int} (h : ucm r q) (h0 : 0 ≤ r) : (21 ≤ q ∧ q ≤ 26) ∨ q = 27 ∨ q = 28 ∨ q = 29 := by omega
theorem ucm_r {r q : Int} (h : ucm r q) (h0 : 0 ≤ r) : yrank q = 6 := by
  unfold yrank
  rw [if_neg (by omega), if_neg (by omega), if_neg (by omega), if_neg (by omega), if_pos (by omega)]
theorem ucm_o {r q : Int} (h : ucm r q) (h0 : 0 ≤ r) : opm r = q ∧ r < 16 := by
  rcases h with h | h | h | h | h | h | h
  · omega
  all_goals (obtain ⟨e, e2⟩ := h; subst e e2; decide)
theorem uT_cmp (h : uH 7 R0 k od ((q, 6, b, -1) :: W) d (uC cd a cs) t j) (hW : ytop W ≤ 5) (hc : ucm r q) (hr : 0 ≤ r) (hf : b = t ∧ (r ≤ 9 ∨ t = 1)) (h0 : 0 ≤ a ∧ a ≤ cs) (he : cs % 2 = 0) (hx : x = cs + 2) (hj : j < 1501) (ht' : t' = 2) (hd : d' = d) : uH 6 R0 k od W d' (uC (hw_up (hw_up cd cs r) (cs + 1) 0) a x) t' j := by
  subst ht' hd
  have o := ucm_o hc hr
  rw [uC_p (x := q) h0 he hx o.2 o.1]
  exact uH_cmp h hW (by omega) hj
theorem uT_cmn (h : uH 7 R0 k od ((q, 6, b, -1) :: W) d (uC cd a cs) t j) (hc : ucm r q) (hr : 0 ≤ r) (hf : ¬ b = t ∨ (9 < r ∧ ¬ t = 1) ∨ (9 < r ∧ ¬ b = 1)) (hj : j < 1501) : R0 = none := uH_cn h (by omega) hj
/-- not, minus, functions -/
theorem uT_not (h : uH 5 R0 k od ((31, 5, 2, -1) :: W) d (uC cd a cs) t j) (ht : t = 2) (h0 : 0 ≤ a ∧ a ≤ cs) (he : cs % 2 = 0) (hx : x = cs + 2) (hj : j < 1501) (ht' : t' = t) (hd : d' = d - 1) : uH 5 R0 k od W d' (uC (hw_up (hw_up cd cs 14) (cs + 1) 0) a x) t' j := by
  subst ht' hd
  have z := uH_set h (by decide) (by decide) (by decide) (by omega) hj
  rw [uC_p (x := 31) h0 he hx (by decide) (by decide)]
  subst ht
  exact z
theorem uT_notn (h : uH 5 R0 k od ((31, 5, 2, -1) :: W) d (uC cd a cs) t j) (ht : ¬ t = 2) (hj : j < 1501) : R0 = none := uH_no h (by decide) (by decide) (by decide) (by omega) hj
theorem uT_neg (h : uH 9 R0 k od ((q, 9, b, -1) :: W) d (uC cd a cs) t j) (hq : q = 43 ∧ o = 15 ∨ q = 15 ∧ o = 5 ∨ q = 16 ∧ o = 6 ∨ q = 17 ∧ o = 7) (hb : b = 1) (ht : t = 1) (h0 : 0 ≤ a ∧ a ≤ cs) (he : cs % 2 = 0) (hx : x = cs + 2) (hj : j < 1501) (ht' : t' = 1) (hd : d' = d - 1) : uH 9 R0 k od W d' (uC (hw_up (hw_up cd cs o) (cs + 1) 0) a x) t' j := by
  subst ht' hd
  have z := uH_set h (by decide) (by decide) (by decide) (by omega) hj
  rw [uC_p (x := q) h0 he hx (by omega) (by rcases hq with ⟨e, e2⟩ | ⟨e, e2⟩ | ⟨e, e2⟩ | ⟨e, e2⟩ <;> (subst e e2; rfl))]
  exact z
theorem uT_negn (h : uH 9 R0 k od ((q, 9, b, -1) :: W) d (uC cd a cs) t j) (hq : q = 43 ∨ (15 ≤ q ∧ q ≤ 17)) (hb : ¬ b = 1 ∨ ¬ t = 1) (hj : j < 1501) : R0 = none := uH_no h (by decide) (by decide) (by decide) (by omega) hj
/-- both, either: a jump is led to the end -/
theorem uT_j (h : uH lev R0 k od ((q, r, b, ((uC f a cs).length : Int)) :: W) d (uC g a x) t j) (hs : ucs (hw_up (hw_up f cs o) (cs + 1) 0) g y) (hq : q = 32 ∧ r = 4 ∧ lev = 5 ∧ o = 17 ∨ q = 33 ∧ r = 3 ∧ lev = 4 ∧ o = 18 ∨ q = 20 ∧ r = 2 ∧ lev = 2 ∧ o = 19) (hy : y = cs + 2) (hx : cs < x) (h0 : 0 ≤ a ∧ a ≤ cs) (he : cs % 2 = 0) (he' : x % 2 = 0) (hb : b = 2) (ht : t = 2) {p : Int} (hp : p = cs + 1) (hv : v = x) (hj : j < 1501) (ht' : t' = t) (hd : r ≤ 2 ∧ d' = d - 1 ∨ 2 < r ∧ d' = d) : uH lev R0 k od W d' (uC (hw_up g p v) a x) t' j := by
  subst ht'
  have ed : yd1 r d = d' := by
    unfold yd1
    split <;> omega
  have z := uH_set h (by omega) (by omega) (by omega) (by omega) hj
  have e0 := uC_len (f := f) h0.2
  have eg : g cs = o := by rw [ucs_at hs (by omega), hw_up_n (by omega), hw_up_s]
  rw [uC_aim (g := cs) h0 he he' hx (by rw [eg]; omega) hp hv]
  have e2 : yc1 q ((uC f a cs).length : Int) (uC g a x) = yaim (uC g a x) (cs / 2 - a / 2) := by
    unfold yc1
    rw [if_pos (by omega), e0]
  have e3 : yt1 r t' = t' := by unfold yt1; rw [if_neg (by omega), if_neg (by omega)]; exact ht.symm
  rw [e2, e3, ed] at z
  exact z
theorem uT_jn (h : uH lev R0 k od ((q, r, b, jm) :: W) d C t j) (hq : q = 32 ∧ r = 4 ∧ lev = 5 ∨ q = 33 ∧ r = 3 ∧ lev = 4 ∨ q = 20 ∧ r = 2 ∧ lev = 2) (hb : ¬ b = 2 ∨ ¬ t = 2) (hj : j < 1501) : R0 = none := uH_no h (by omega) (by omega) (by omega) (by omega) hj
/-- an operator with a jump: before the second operand -/
theorem uT_jw (h : uH lev R0 k od W d (uC f a cs) t j) (hq : k j = q) (h1 : q = 32 ∧ r = 4 ∧ o = 17 ∨ q = 33 ∧ r = 3 ∧ o = 18) (hW : ytop W < r) (ha : ad k j = some j') (hj : j < 1501) (h0 : 0 ≤ a ∧ a ≤ cs) (he : cs % 2 = 0) (hx : x = cs + 2) : R0 = yR k od (1, (q, r, t, ((uC f a cs).length : Int)) :: W, d, uC (hw_up (hw_up f cs o) (cs + 1) 0) a x, 0) (k j') j' := by
  rw [uC_j (x := q) h0 he hx (by omega) (by rcases h1 with ⟨e, _, e2⟩ | ⟨e, _, e2⟩ <;> (subst e e2; rfl))]
  exact uH_jmp h hq (by omega) hW ha hj
theorem uT_iw (h : uH lev R0 k od W d (uC f a cs) t j) (hq : k j = 20) (hW : ytop W ≤ 2) (hd : d < 40) (ha : ad k j = some j') (hj : j < 1501) (h0 : 0 ≤ a ∧ a ≤ cs) (he : cs % 2 = 0) (hx : x = cs + 2) (hd' : d' = d + 1) : R0 = yR k od (1, (20, 2, t, ((uC f a cs).length : Int)) :: W, d', uC (hw_up (hw_up f cs 19) (cs + 1) 0) a x, 0) (k j') j' := by
  subst hd'
  rw [uC_j (x := 20) h0 he hx (by decide) (by decide)]
  exact uH_imp h hq hW hd ha hj
theorem uT_aw (h : uH lev R0 k od W d (uC f a cs) t j) (hq : k j = 34) (hW : ytop W ≤ 1) (hd : d < 40) (ha : ad k j = some j') (hj : j < 1501) (h0 : 0 ≤ a ∧ a ≤ cs) (he : cs % 2 = 0) (hx : x = cs + 2) (hd' : d' = d + 1) : R0 = yR k od (1, (34, 0, t, ((uC f a cs).length : Int)) :: W, d', uC (hw_up (hw_up f cs 16) (cs + 1) 0) a x, 0) (k j') j' := by
  subst hd'
  rw [uC_j (x := 34) h0 he hx (by decide) (by decide)]
  exact uH_ask h hq hW hd ha hj
/-- a colon: before the second branch -/
theorem uT_cw {p : Int} (h : uH 1 R0 k od ((34, 0, b, ((uC f a cs).length : Int)) :: W) d (uC g a x) t j) (hk : tke k 35 j = some j') (hs : ucs (hw_up (hw_up f cs 16) (cs + 1) 0) g y) (hy : y = cs + 2) (hx : cs < x) (h0 : 0 ≤ a ∧ a ≤ cs) (he : cs % 2 = 0) (he' : x % 2 = 0) {z : Int} (hz : z = x + 2) (hp : p = cs + 1) (hv : v = z) (hj : j < 1501) (hd : d' = d) : R0 = yR k od (1, (34, 1, (if b = 2 then t else 0), ((uC g a x).length : Int)) :: W, d', uC (hw_up (hw_up (hw_up g x 20) (x + 1) 0) p v) a z, 0) (k j') j' := by
  subst hd
  have e0 := uC_len (f := f) h0.2
  have eg : g cs = 16 := by rw [ucs_at hs (by omega), hw_up_n (by omega), hw_up_s]
  rw [uC_aim (g := cs) h0 he (by omega) (by omega) (by rw [hw_up_n (by omega), hw_up_n (by omega), eg]; decide) hp hv, uC_j (x := 35) ⟨h0.1, by omega⟩ he' hz (by decide) (by decide), ← e0]
  exact uH_col h hk hj
/-- the second branch is read -/
theorem uT_c2 {p : Int} (h : uH 1 R0 k od ((34, 1, (if b = 2 then q else 0), ((uC f a cs).length : Int)) :: W) d (uC g a x) t j) (hs : ucs (hw_up (hw_up (hw_up f cs 20) (cs + 1) 0) r o) g y) (hr : r < cs) (hy : y = cs + 2) (hx : cs < x) (h0 : 0 ≤ a ∧ a ≤ cs) (he : cs % 2 = 0) (he' : x % 2 = 0) (hb : b = 2) (hq : q = t) (hp : p = cs + 1) (hv : v = x) (hj : j < 1501) (ht' : t' = t) (hd : d' = d - 1) : uH 1 R0 k od W d' (uC (hw_up g p v) a x) t' j := by
  subst ht' hd
  rw [if_pos hb] at h
  have z := uH_set h (by decide) (by decide) (by decide) (by omega) hj
  have e0 := uC_len (f := f) h0.2
  have eg : g cs = 20 := by rw [ucs_at hs (by omega), hw_up_n (by omega), hw_up_n (by omega), hw_up_s]
  rw [uC_aim (g := cs) h0 he he' hx (by rw [eg]; decide) hp hv]
  have e2 : yc1 34 ((uC f a cs).length : Int) (uC g a x) = yaim (uC g a x) (cs / 2 - a / 2) := by
    unfold yc1
    rw [if_pos (by omega), e0]
  rw [e2] at z
  exact z
theorem uT_c2n (h : uH 1 R0 k od ((34, 1, (if b = 2 then q else 0), jm) :: W) d C t j) (hb : ¬ b = 2 ∨ ¬ q = t) (ht : 1 ≤ t) (hj : j < 1501) : R0 = none := by
  by_cases e : b = 2
  · rw [if_pos e] at h
    exact uH_no h (by decide) (by decide) (by decide) (by omega) hj
  · rw [if_neg e] at h
    exact uH_no h (by decide) (by decide) (by decide) (by omega) hj
end YE
/-! what a TOKEN is as an operand -/
theorem uod_i {t : Int → Int} {n vk j : Int} {L : yN} (h : kd t n j = 3) : odl t n L vk j = some (3, nu t n j, 1) := if_pos h
theorem uod_t {t : Int → Int} {n vk j : Int} {L : yN} (h : kd t n j = 13) : odl t n L vk j = some (3, 1, 2) := by unfold odl; rw [if_neg (by omega), if_pos h]
theorem uod_f {t : Int → Int} {n vk j : Int} {L : yN} (h : kd t n j = 14) : odl t n L vk j = some (3, 0, 2) := by unfold odl; rw [if_neg (by omega), if_neg (by omega), if_pos h]
theorem uod_0 {t : Int → Int} {n vk j : Int} {L : yN} (h3 : ¬ kd t n j = 3) (h13 : ¬ kd t n j = 13) (h14 : ¬ kd t n j = 14) (h2 : ¬ kd t n j = 2) : odl t n L vk j = none := by unfold odl; rw [if_neg h3, if_neg h13, if_neg h14, if_neg h2]
theorem uod_u {t : Int → Int} {n vk j : Int} {L : yN} (h : kd t n j = 2) (hf : fnd t n j L = none) : odl t n L vk j = none := by
  unfold odl
  rw [if_neg (by omega), if_neg (by omega), if_neg (by omega), if_pos h, hf]
theorem uod_n {t : Int → Int} {n vk j r h v : Int} {L : yN} (hk : kd t n j = 2) (hf : fnd t n j L = some (r, h, v)) : odl t n L vk j = if r = 0 then some (3, h, 1) else if r = 1 ∧ ¬ vk = 0 then some (2, h, v) else none := by
  unfold odl
  rw [if_neg (by omega), if_neg (by omega), if_neg (by omega), if_pos hk, hf]
theorem uod_c {t : Int → Int} {n vk j r h v : Int} {L : yN} (hk : kd t n j = 2) (hf : fnd t n j L = some (r, h, v)) (hr : r = 0) : odl t n L vk j = some (3, h, 1) := by rw [uod_n hk hf, if_pos hr]
theorem uod_v {t : Int → Int} {n vk j r h : Int} {L : yN} {ib : Int → Int} (hk : kd t n j = 2) (hf : fnd t n j L = some (r, h, uty ib r h)) (hr : r = 1) (hv : ¬ vk = 0) : odl t n L vk j = some (2, h, ib h + 1) := by
  rw [uod_n hk hf, if_neg (by omega), if_pos ⟨hr, hv⟩]
  unfold uty
  rw [if_pos hr]
theorem uod_x {t : Int → Int} {n vk j r h v : Int} {L : yN} (hk : kd t n j = 2) (hf : fnd t n j L = some (r, h, v)) (hr : r = 2 ∨ (r = 1 ∧ vk = 0)) : odl t n L vk j = none := by rw [uod_n hk hf, if_neg (by omega), if_neg (by omega)]
/-- a whole number's digits -/
theorem nu_i {t : Int → Int} {n k w fr to tn : Int} (h : um_ok t n k w fr to tn) (h3 : kd t n (tn - 1) = 3) : nu t n (tn - 1) = dv t n fr (to - fr) ∧ ydgs t n fr to ∧ to - fr ≤ 6 := by
  obtain ⟨_, h1, h2, h4, h5, h6, h7⟩ := h
  have hd : tkd t n fr = 3 := by rw [kd_in (by omega), ← h4] at h3; exact h3
  have hn : ¬ n ≤ fr := by
    intro z
    unfold tkd at hd
    rw [if_pos z] at hd
    omega
  have hl : ¬ isL (cO t n fr) := by
    intro z
    unfold tkd at hd
    rw [if_neg hn, if_pos z] at hd
    have := wk_b (t := t) (n := n) (p := fr) (s := nl t n fr)
    omega
  have hg : isD (cO t n fr) := by
    refine Classical.byContradiction (fun z => ?_)
    unfold tkd at hd
    rw [if_neg hn, if_neg hl, if_neg z] at hd
    have := sgk_b (c := cO t n fr) (d := cO t n (fr + 1))
    omega
  have q := tyk_d (by omega : fr < n) hl hg
  rw [q.1] at hd
  have hs : ¬ 0 < nf t n fr ∧ nw t n fr ≤ 6 := by
    unfold nkd at hd
    split at hd
    · omega
    · split at hd
      · omega
      · omega
  have e1 : nsz t n fr = nw t n fr := by unfold nsz; rw [if_neg hs.1]
  have e2 : ln t n (tn - 1) = nw t n fr := by unfold ln; rw [← h4, q.2, e1]
  have e3 : to = fr + nw t n fr := by omega
  refine ⟨?_, ⟨(), fun i i1 i2 => ?_⟩, by omega⟩
  · unfold nu nvl
    rw [← h4, if_neg hs.1, e3, show fr + nw t n fr - fr = nw t n fr by omega]
  · unfold nw at e3
    exact (dg_bd h6.1).2.2 i i1 (by omega)
