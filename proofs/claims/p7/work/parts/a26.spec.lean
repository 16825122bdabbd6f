/-! what a text says: its statements -/
noncomputable def pConst (t : Int → Int) (n : Int) (L : yN) (j : Int) : Option (Int × yN) := (match tke (kd t n) 6 j with
    | none => none
    | some a => (match tke (kd t n) 7 a with
    | none => none
    | some b => (match nwn t n L b with
    | none => none
    | some c => (match tke (kd t n) 24 c with
    | none => none
    | some d => (match yex t n L 0 1 d with
    | none => none
    | some (e, C) => (match tke (kd t n) 36 e with
    | none => none
    | some f => (match yval C with
    | none => none
    | some v => some (f, L ++ [(b, 0, v, 0)]))))))))
theorem pConst_n0 {t : Int → Int} {n : Int} {L : yN} {j : Int}  (h0 : tke (kd t n) 6 j = none) : pConst t n L j = none := by
  unfold pConst
  simp only [h0]
theorem pConst_n1 {t : Int → Int} {n : Int} {L : yN} {j : Int} {a : Int} (h0 : tke (kd t n) 6 j = some a) (h1 : tke (kd t n) 7 a = none) : pConst t n L j = none := by
  unfold pConst
  simp only [h0, h1]
theorem pConst_n2 {t : Int → Int} {n : Int} {L : yN} {j : Int} {a : Int} {b : Int} (h0 : tke (kd t n) 6 j = some a) (h1 : tke (kd t n) 7 a = some b) (h2 : nwn t n L b = none) : pConst t n L j = none := by
  unfold pConst
  simp only [h0, h1, h2]
theorem pConst_n3 {t : Int → Int} {n : Int} {L : yN} {j : Int} {a : Int} {b : Int} {c : Int} (h0 : tke (kd t n) 6 j = some a) (h1 : tke (kd t n) 7 a = some b) (h2 : nwn t n L b = some c) (h3 : tke (kd t n) 24 c = none) : pConst t n L j = none := by
  unfold pConst
  simp only [h0, h1, h2, h3]
theorem pConst_n4 {t : Int → Int} {n : Int} {L : yN} {j : Int} {a : Int} {b : Int} {c : Int} {d : Int} (h0 : tke (kd t n) 6 j = some a) (h1 : tke (kd t n) 7 a = some b) (h2 : nwn t n L b = some c) (h3 : tke (kd t n) 24 c = some d) (h4 : yex t n L 0 1 d = none) : pConst t n L j = none := by
  unfold pConst
  simp only [h0, h1, h2, h3, h4]
theorem pConst_n5 {t : Int → Int} {n : Int} {L : yN} {j : Int} {a : Int} {b : Int} {c : Int} {d : Int} {e : Int} {C : yC} (h0 : tke (kd t n) 6 j = some a) (h1 : tke (kd t n) 7 a = some b) (h2 : nwn t n L b = some c) (h3 : tke (kd t n) 24 c = some d) (h4 : yex t n L 0 1 d = some (e, C)) (h5 : tke (kd t n) 36 e = none) : pConst t n L j = none := by
  unfold pConst
  simp only [h0, h1, h2, h3, h4, h5]
theorem pConst_n6 {t : Int → Int} {n : Int} {L : yN} {j : Int} {a : Int} {b : Int} {c : Int} {d : Int} {e : Int} {C : yC} {f : Int} (h0 : tke (kd t n) 6 j = some a) (h1 : tke (kd t n) 7 a = some b) (h2 : nwn t n L b = some c) (h3 : tke (kd t n) 24 c = some d) (h4 : yex t n L 0 1 d = some (e, C)) (h5 : tke (kd t n) 36 e = some f) (h6 : yval C = none) : pConst t n L j = none := by
  unfold pConst
  simp only [h0, h1, h2, h3, h4, h5, h6]
theorem pConst_s {t : Int → Int} {n : Int} {L : yN} {j : Int} {a : Int} {b : Int} {c : Int} {d : Int} {e : Int} {C : yC} {f : Int} {v : Int} (h0 : tke (kd t n) 6 j = some a) (h1 : tke (kd t n) 7 a = some b) (h2 : nwn t n L b = some c) (h3 : tke (kd t n) 24 c = some d) (h4 : yex t n L 0 1 d = some (e, C)) (h5 : tke (kd t n) 36 e = some f) (h6 : yval C = some v) : pConst t n L j = some (f, L ++ [(b, 0, v, 0)]) := by
  unfold pConst
  simp only [h0, h1, h2, h3, h4, h5, h6]
/-- a condition -/
def cnd (p : Prop) [Decidable p] : Option Unit := if p then some () else none
theorem cnd_s {p : Prop} [Decidable p] (h : p) : cnd p = some () := if_pos h
theorem cnd_n {p : Prop} [Decidable p] (h : ¬ p) : cnd p = none := if_neg h
noncomputable def pOpen (t : Int → Int) (n : Int) (L : yN) (M : Int) (j : Int) : Option (Int × yN) := (match cnd (M < 3) with
    | none => none
    | some _ => (match tke (kd t n) 9 j with
    | none => none
    | some a => (match nwn t n L a with
    | none => none
    | some b => some (b, L ++ [(a, 2, M, 0)]))))
theorem pOpen_n0 {t : Int → Int} {n : Int} {L : yN} {M : Int} {j : Int}  (h0 : cnd (M < 3) = none) : pOpen t n L M j = none := by
  unfold pOpen
  simp only [h0]
theorem pOpen_n1 {t : Int → Int} {n : Int} {L : yN} {M : Int} {j : Int} (h0 : cnd (M < 3) = some ()) (h1 : tke (kd t n) 9 j = none) : pOpen t n L M j = none := by
  unfold pOpen
  simp only [h0, h1]
theorem pOpen_n2 {t : Int → Int} {n : Int} {L : yN} {M : Int} {j : Int} {a : Int} (h0 : cnd (M < 3) = some ()) (h1 : tke (kd t n) 9 j = some a) (h2 : nwn t n L a = none) : pOpen t n L M j = none := by
  unfold pOpen
  simp only [h0, h1, h2]
theorem pOpen_s {t : Int → Int} {n : Int} {L : yN} {M : Int} {j : Int} {a : Int} {b : Int} (h0 : cnd (M < 3) = some ()) (h1 : tke (kd t n) 9 j = some a) (h2 : nwn t n L a = some b) : pOpen t n L M j = some (b, L ++ [(a, 2, M, 0)]) := by
  unfold pOpen
  simp only [h0, h1, h2]
noncomputable def pTarget (t : Int → Int) (n : Int) (L : yN) (j : Int) : Option (Int × yC) := (match tke (kd t n) 12 j with
    | none => none
    | some a => (match yex t n L 1 2 a with
    | none => none
    | some (b, C) => (match tke (kd t n) 36 b with
    | none => none
    | some c => (match cnd (kd t n c = 0) with
    | none => none
    | some _ => some (c, C)))))
theorem pTarget_n0 {t : Int → Int} {n : Int} {L : yN} {j : Int}  (h0 : tke (kd t n) 12 j = none) : pTarget t n L j = none := by
  unfold pTarget
  simp only [h0]
theorem pTarget_n1 {t : Int → Int} {n : Int} {L : yN} {j : Int} {a : Int} (h0 : tke (kd t n) 12 j = some a) (h1 : yex t n L 1 2 a = none) : pTarget t n L j = none := by
  unfold pTarget
  simp only [h0, h1]
theorem pTarget_n2 {t : Int → Int} {n : Int} {L : yN} {j : Int} {a : Int} {b : Int} {C : yC} (h0 : tke (kd t n) 12 j = some a) (h1 : yex t n L 1 2 a = some (b, C)) (h2 : tke (kd t n) 36 b = none) : pTarget t n L j = none := by
  unfold pTarget
  simp only [h0, h1, h2]
theorem pTarget_n3 {t : Int → Int} {n : Int} {L : yN} {j : Int} {a : Int} {b : Int} {C : yC} {c : Int} (h0 : tke (kd t n) 12 j = some a) (h1 : yex t n L 1 2 a = some (b, C)) (h2 : tke (kd t n) 36 b = some c) (h3 : cnd (kd t n c = 0) = none) : pTarget t n L j = none := by
  unfold pTarget
  simp only [h0, h1, h2, h3]
theorem pTarget_s {t : Int → Int} {n : Int} {L : yN} {j : Int} {a : Int} {b : Int} {C : yC} {c : Int} (h0 : tke (kd t n) 12 j = some a) (h1 : yex t n L 1 2 a = some (b, C)) (h2 : tke (kd t n) 36 b = some c) (h3 : cnd (kd t n c = 0) = some ()) : pTarget t n L j = some (c, C) := by
  unfold pTarget
  simp only [h0, h1, h2, h3]
noncomputable def pBounds (t : Int → Int) (n : Int) (L : yN) (j : Int) : Option (Int × Int × Int) := (match tke (kd t n) 41 j with
    | none => none
    | some a => (match yex t n L 0 1 a with
    | none => none
    | some (b, C) => (match tke (kd t n) 19 b with
    | none => none
    | some c => (match yex t n L 0 1 c with
    | none => none
    | some (d, C2) => (match tke (kd t n) 42 d with
    | none => none
    | some e => (match yval C2 with
    | none => none
    | some hi => (match yval C with
    | none => none
    | some lo => (match cnd (lo ≤ hi ∧ hi - lo < 1000) with
    | none => none
    | some _ => some (e, lo, hi)))))))))
theorem pBounds_n0 {t : Int → Int} {n : Int} {L : yN} {j : Int}  (h0 : tke (kd t n) 41 j = none) : pBounds t n L j = none := by
  unfold pBounds
  simp only [h0]
theorem pBounds_n1 {t : Int → Int} {n : Int} {L : yN} {j : Int} {a : Int} (h0 : tke (kd t n) 41 j = some a) (h1 : yex t n L 0 1 a = none) : pBounds t n L j = none := by
  unfold pBounds
  simp only [h0, h1]
theorem pBounds_n2 {t : Int → Int} {n : Int} {L : yN} {j : Int} {a : Int} {b : Int} {C : yC} (h0 : tke (kd t n) 41 j = some a) (h1 : yex t n L 0 1 a = some (b, C)) (h2 : tke (kd t n) 19 b = none) : pBounds t n L j = none := by
  unfold pBounds
  simp only [h0, h1, h2]
theorem pBounds_n3 {t : Int → Int} {n : Int} {L : yN} {j : Int} {a : Int} {b : Int} {C : yC} {c : Int} (h0 : tke (kd t n) 41 j = some a) (h1 : yex t n L 0 1 a = some (b, C)) (h2 : tke (kd t n) 19 b = some c) (h3 : yex t n L 0 1 c = none) : pBounds t n L j = none := by
  unfold pBounds
  simp only [h0, h1, h2, h3]
theorem pBounds_n4 {t : Int → Int} {n : Int} {L : yN} {j : Int} {a : Int} {b : Int} {C : yC} {c : Int} {d : Int} {C2 : yC} (h0 : tke (kd t n) 41 j = some a) (h1 : yex t n L 0 1 a = some (b, C)) (h2 : tke (kd t n) 19 b = some c) (h3 : yex t n L 0 1 c = some (d, C2)) (h4 : tke (kd t n) 42 d = none) : pBounds t n L j = none := by
  unfold pBounds
  simp only [h0, h1, h2, h3, h4]
theorem pBounds_n5 {t : Int → Int} {n : Int} {L : yN} {j : Int} {a : Int} {b : Int} {C : yC} {c : Int} {d : Int} {C2 : yC} {e : Int} (h0 : tke (kd t n) 41 j = some a) (h1 : yex t n L 0 1 a = some (b, C)) (h2 : tke (kd t n) 19 b = some c) (h3 : yex t n L 0 1 c = some (d, C2)) (h4 : tke (kd t n) 42 d = some e) (h5 : yval C2 = none) : pBounds t n L j = none := by
  unfold pBounds
  simp only [h0, h1, h2, h3, h4, h5]
theorem pBounds_n6 {t : Int → Int} {n : Int} {L : yN} {j : Int} {a : Int} {b : Int} {C : yC} {c : Int} {d : Int} {C2 : yC} {e : Int} {hi : Int} (h0 : tke (kd t n) 41 j = some a) (h1 : yex t n L 0 1 a = some (b, C)) (h2 : tke (kd t n) 19 b = some c) (h3 : yex t n L 0 1 c = some (d, C2)) (h4 : tke (kd t n) 42 d = some e) (h5 : yval C2 = some hi) (h6 : yval C = none) : pBounds t n L j = none := by
  unfold pBounds
  simp only [h0, h1, h2, h3, h4, h5, h6]
theorem pBounds_n7 {t : Int → Int} {n : Int} {L : yN} {j : Int} {a : Int} {b : Int} {C : yC} {c : Int} {d : Int} {C2 : yC} {e : Int} {hi : Int} {lo : Int} (h0 : tke (kd t n) 41 j = some a) (h1 : yex t n L 0 1 a = some (b, C)) (h2 : tke (kd t n) 19 b = some c) (h3 : yex t n L 0 1 c = some (d, C2)) (h4 : tke (kd t n) 42 d = some e) (h5 : yval C2 = some hi) (h6 : yval C = some lo) (h7 : cnd (lo ≤ hi ∧ hi - lo < 1000) = none) : pBounds t n L j = none := by
  unfold pBounds
  simp only [h0, h1, h2, h3, h4, h5, h6, h7]
theorem pBounds_s {t : Int → Int} {n : Int} {L : yN} {j : Int} {a : Int} {b : Int} {C : yC} {c : Int} {d : Int} {C2 : yC} {e : Int} {hi : Int} {lo : Int} (h0 : tke (kd t n) 41 j = some a) (h1 : yex t n L 0 1 a = some (b, C)) (h2 : tke (kd t n) 19 b = some c) (h3 : yex t n L 0 1 c = some (d, C2)) (h4 : tke (kd t n) 42 d = some e) (h5 : yval C2 = some hi) (h6 : yval C = some lo) (h7 : cnd (lo ≤ hi ∧ hi - lo < 1000) = some ()) : pBounds t n L j = some (e, lo, hi) := by
  unfold pBounds
  simp only [h0, h1, h2, h3, h4, h5, h6, h7]
/-- names are put down -/
theorem nm_p0 {t : Int → Int} {n made N N' V tok x : Int} {nt role holds ty : Int → Int} (h : nv_ok t n made N V nt role holds) (hN : N' = N + 1) : nmL N' (hw_up nt N tok) (hw_up role N 0) (hw_up holds N x) ty = nmL N nt role holds ty ++ [(tok, 0, x, 0)] := by
  rw [nm_push h hN]
  rfl
theorem nm_p2 {t : Int → Int} {n made N N' V tok x : Int} {nt role holds ty : Int → Int} (h : nv_ok t n made N V nt role holds) (hN : N' = N + 1) : nmL N' (hw_up nt N tok) (hw_up role N 2) (hw_up holds N x) ty = nmL N nt role holds ty ++ [(tok, 2, x, 0)] := by
  rw [nm_push h hN]
  rfl
theorem nm_p1 {t : Int → Int} {n made N N' V tok x : Int} {nt role holds ty : Int → Int} (h : nv_ok t n made N V nt role holds) (hN : N' = N + 1) : nmL N' (hw_up nt N tok) (hw_up role N 1) (hw_up holds N x) ty = nmL N nt role holds ty ++ [(tok, 1, x, ty x)] := by
  rw [nm_push h hN]
  rfl
/-- an expression takes a TOKEN at least -/
theorem yRf_j {k : Int → Int} {od : Int → Option (Int × Int × Int)} : ∀ (f : Nat) (c : yG) (q j j' ty : Int) (C : yC), yRf k od f c q j = some (j', ty, C) → j ≤ j' ∧ (c.1 = 1 → j < j') := by
  intro f
  induction f with
  | zero => intro c q j j' ty C h; cases h
  | succ f ih =>
    intro c q j j' ty C h
    obtain ⟨m, W, d, C0, t0⟩ := c
    unfold yRf at h
    split at h
    · cases h
    · rename_i t1 C1 hs
      injection h with h
      injection h with h1 h
      refine ⟨by omega, fun hm => ?_⟩
      have hm : m = 1 := hm
      subst hm
      have hs : ywant (od j) q W d C0 = some (.inr (t1, C1)) := hs
      unfold ywant at hs
      repeat' split at hs
      all_goals cases hs
    · split at h
      · cases h
      · have := ih _ _ _ _ _ _ h
        exact ⟨by omega, fun _ => by omega⟩
theorem yex_lt {t : Int → Int} {n vk x j j' : Int} {L : yN} {C : yC} (h : yex t n L vk x j = some (j', C)) : j < j' := by
  unfold yex at h
  split at h
  · rename_i a b c e
    split at h
    · injection h with h
      injection h with e1 e2
      subst e1
      exact (yRf_j _ _ _ _ _ _ _ e).2 rfl
    · cases h
  · cases h
theorem nwn_i {t : Int → Int} {n j b : Int} {L : yN} (h : nwn t n L j = some b) : kd t n j = 2 ∧ b = j + 1 := by
  unfold nwn at h
  split at h
  · rename_i q
    exact ⟨q.1, (ad_i h).1⟩
  · cases h
