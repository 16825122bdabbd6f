/-! running the small machine: plain steps in a row -/
def mr_pl : Instr → Bool
  | .return_ | .ireturn | .lreturn | .areturn | .invokespecial _ | .invokevirtual _ | .invokestatic _ => false
  | _ => true
section MR30
variable {G : mm_G} {T : mm_T} {scr : Nat × (Nat → Int32)} {X : mm_XR} {f : Nat} {Q : mm_O → mm_S → Prop}
def mr_row (G : mm_G) (T : mm_T) (scr : Nat × (Nat → Int32)) (f : Nat) (k : mm_Kf) : Option (Instr × Nat × Nat) → Option mm_Kf
  | none => none
  | some (i, nx, tg) => if mr_pl i = true then (match mm_thr G f k.1 with
    | some _ => none
    | none => match mm_st0 i k.1 nx tg k.2.1 k.2.2.1 k.2.2.2 with
      | some k' => some k'
      | none => mm_st1 T (mm_ini G f) (mm_oc G f) (mm_pool G f) scr i nx k.2.1 k.2.2.1 k.2.2.2) else none
def mr_one (G : mm_G) (T : mm_T) (scr : Nat × (Nat → Int32)) (f : Nat) (k : mm_Kf) : Option mm_Kf := mr_row G T scr f k (mm_code G f k.1)
def mr_run (G : mm_G) (T : mm_T) (scr : Nat × (Nat → Int32)) (f : Nat) : Nat → mm_Kf → Option mm_Kf
  | 0, k => some k
  | n + 1, k => match mr_one G T scr f k with
    | some k' => mr_run G T scr f n k'
    | none => none
theorem mr_one_ok {m : Nat} {k k' : mm_Kf} (h : mr_one G T scr f k = some k') (hw : mm_wp G T scr X f Q m k') : mm_wp G T scr X f Q (m + 1) k := by
  show mm_body G T scr X f Q (mm_wp G T scr X f Q m) k.1 k.2.1 k.2.2.1 k.2.2.2 (mm_code G f k.1)
  unfold mr_one at h
  cases hc : mm_code G f k.1 with
  | none => rw [hc] at h; cases h
  | some en =>
    obtain ⟨i, nx, tg⟩ := en
    rw [hc] at h
    replace h : (if mr_pl i = true then (match mm_thr G f k.1 with
      | some _ => none
      | none => match mm_st0 i k.1 nx tg k.2.1 k.2.2.1 k.2.2.2 with
        | some k' => some k'
        | none => mm_st1 T (mm_ini G f) (mm_oc G f) (mm_pool G f) scr i nx k.2.1 k.2.2.1 k.2.2.2) else none) = some k' := h
    split at h
    · rename_i hp
      have key : (match mm_thr G f k.1 with
          | some ec => k.2.2.2.1 + 1 ≤ mm_lc T ∧ k.2.2.2.2.1 + 6 ≤ mm_lsl T ∧ (k.2.2.1.map Value.category).sum ≤ 8 ∧ Q (.inr (ec, k.2.2.2.1)) (mm_add k.2.2.2 6 (.inr (ec, [])))
          | none => match mm_st0 i k.1 nx tg k.2.1 k.2.2.1 k.2.2.2 with
            | some k => mm_wp G T scr X f Q m k
            | none => match mm_st1 T (mm_ini G f) (mm_oc G f) (mm_pool G f) scr i nx k.2.1 k.2.2.1 k.2.2.2 with
              | some k => mm_wp G T scr X f Q m k
              | none => False) := by
        cases ht : mm_thr G f k.1 with
        | some ec => rw [ht] at h; cases h
        | none =>
          rw [ht] at h
          dsimp only at h ⊢
          cases h0 : mm_st0 i k.1 nx tg k.2.1 k.2.2.1 k.2.2.2 with
          | some k2 => rw [h0] at h; cases h; exact hw
          | none =>
            rw [h0] at h
            dsimp only at h ⊢
            rw [h]
            exact hw
      cases i <;> first | (cases hp; done) | exact key
    · cases h
theorem mr_run_ok {n m : Nat} {k k' : mm_Kf} (h : mr_run G T scr f n k = some k') (hw : mm_wp G T scr X f Q m k') : mm_wp G T scr X f Q (m + n) k := by
  induction n generalizing k with
  | zero => cases h; exact hw
  | succ n ih =>
    replace h : (match mr_one G T scr f k with
      | some k' => mr_run G T scr f n k'
      | none => none) = some k' := h
    cases hs : mr_one G T scr f k with
    | none => rw [hs] at h; cases h
    | some k2 =>
      rw [hs] at h
      exact mr_one_ok hs (ih h)
end MR30
section MP30
variable {G : mm_G} {T : mm_T} {scr : Nat × (Nat → Int32)} {f pc nx tg x : Nat} {L : mm_L} {r : List Value} {S : mm_S}
theorem mr_pf {ci k a : Nat} {v : Value} {vs : List Value} (hc : mm_code G f pc = some (.putfield x, nx, tg)) (ht : mm_thr G f pc = none) (hp : mm_pool G f x = some (.inl (ci, k))) (ha : a < S.1) (hS : S.2.2 a = .inr (ci, vs)) (hk : k < vs.length) (hf : mm_fit (mm_ft T ci k) v = true) (hfi : mm_fi T ci k = false ∨ (mm_ini G f = true ∧ ci = mm_oc G f)) :
    mr_one G T scr f (pc, L, v :: .ref a :: r, S) = some (nx, L, r, mm_up S a (.inr (ci, vs.set k v))) := by
  unfold mr_one
  dsimp only
  rw [hc]
  unfold mr_row
  dsimp only
  rw [if_pos (show mr_pl (.putfield x) = true from rfl), ht]
  dsimp only
  have h0 : mm_st0 (.putfield x) pc nx tg L (v :: .ref a :: r) S = none := rfl
  rw [h0]
  dsimp only
  show mm_pf T (mm_ini G f) (mm_oc G f) (mm_pool G f) x nx L (v :: .ref a :: r) S = _
  unfold mm_pf
  rw [hp]
  dsimp only
  rw [hS]
  dsimp only
  rw [if_pos ⟨ha, rfl, hk, hf, hfi⟩]
theorem mr_gf {ci k a : Nat} {v : Value} {vs : List Value} (hc : mm_code G f pc = some (.getfield x, nx, tg)) (ht : mm_thr G f pc = none) (hp : mm_pool G f x = some (.inl (ci, k))) (ha : a < S.1) (hS : S.2.2 a = .inr (ci, vs)) (hk : vs[k]? = some v) :
    mr_one G T scr f (pc, L, .ref a :: r, S) = some (nx, L, v :: r, S) := by
  unfold mr_one
  dsimp only
  rw [hc]
  unfold mr_row
  dsimp only
  rw [if_pos (show mr_pl (.getfield x) = true from rfl), ht]
  dsimp only
  have h0 : mm_st0 (.getfield x) pc nx tg L (.ref a :: r) S = none := rfl
  rw [h0]
  dsimp only
  show mm_gf (mm_pool G f) x nx L (.ref a :: r) S = _
  unfold mm_gf
  rw [hp]
  dsimp only
  rw [hS]
  dsimp only
  rw [if_pos ⟨ha, rfl⟩, hk]
end MP30
/-- Math.max -/
theorem r_max {scr : Nat × (Nat → Int32)} {d : Nat} {S : mm_S} {Q : mm_O → mm_S → Prop} {x y : Int32} (h : Q (.inl (some (.int (if x < y then y else x)))) S) : mm_ex pg_G pg_TT scr (d + 1) 10 [.int x, .int y] S Q := by
  by_cases hxy : x < y
  · rw [if_pos hxy] at h
    refine ⟨rfl, 1 + 1 + 3, mr_run_ok (n := 3) rfl ?_⟩
    rw [if_pos (show mm_icmp .lt x y = true from decide_eq_true hxy)]
    exact mr_run_ok (n := 1) rfl ⟨_, rfl, Or.inl rfl, h⟩
  · rw [if_neg hxy] at h
    refine ⟨rfl, 1 + 2 + 3, mr_run_ok (n := 3) rfl ?_⟩
    rw [if_neg (show ¬ mm_icmp .lt x y = true from fun q => hxy (of_decide_eq_true q))]
    exact mr_run_ok (n := 2) rfl ⟨_, rfl, Or.inl rfl, h⟩
/-- new Nat(n): an array of max(n, 1) zeros -/
theorem r_Nat {scr : Nat × (Nat → Int32)} {d : Nat} {S : mm_S} {Q : mm_O → mm_S → Prop} {a : Nat} {x y : Int32} {vs : List Value} (ha : a < S.1) (hS : S.2.2 a = .inr (5, vs)) (hvs : vs.length = 2) (hy : y = if x < Int32.ofInt 1 then Int32.ofInt 1 else x) (hr : 0 ≤ y.toInt ∧ y.toNatClampNeg ≤ 60000000 ∧ S.1 + 1 ≤ 601024 ∧ S.2.1 + y.toNatClampNeg ≤ 7293034)
    (h : Q (.inl none) (mm_up (mm_add S y.toNatClampNeg (.inl (0, y.toNatClampNeg, .inl (fun _ => 0)))) a (.inr (5, vs.set 0 (.ref S.1))))) : mm_ex pg_G pg_TT scr (d + 2) 9 [.ref a, .int x] S Q := by
  refine ⟨rfl, 1 + 1 + 1 + 1 + 3 + 1 + 1, ?_⟩
  refine mr_run_ok (n := 1) rfl ?_
  dsimp only
  refine ⟨_, _, rfl, by decide, ?_⟩
  refine mr_run_ok (n := 3) rfl ?_
  dsimp only
  refine ⟨rfl, ⟨?_, ?_⟩, Nat.le_of_ble_eq_true rfl, Nat.le_of_ble_eq_true rfl, rfl, r_max ?_⟩
  · show S.1 ≤ 601024
    omega
  · show S.2.1 ≤ 7293034
    omega
  · rw [← hy]
    refine mr_one_ok (k' := (12, mm_entry (mm_nl pg_G 9) [Value.ref a, Value.int x], [.ref S.1, .ref a], mm_add S y.toNatClampNeg (.inl (0, y.toNatClampNeg, .inl (fun _ => 0))))) (if_pos hr) ?_
    refine mr_one_ok (mr_pf rfl rfl rfl (Nat.lt_succ_of_lt ha) (vs := vs) (by show va_up S.2.2 S.1 _ a = _; rw [← hS]; exact if_neg (Nat.ne_of_lt ha)) (by rw [hvs]; decide) rfl (Or.inr ⟨rfl, rfl⟩)) ?_
    exact ⟨rfl, rfl, h⟩
