/-! an UPDATE, step by step -/
section YU
variable {t : Int → Int} {n own j f g v : Int} {L : yN} {S S' : List Int} {P : Option Int}
theorem ua_n (h0 : P = pAs t n L own S j) (h : pAsg t n L own S j = none) (hS : S.length ≤ 1500) : P = none := by
  rw [h0, pAs_u hS, h]
theorem ua_d (h0 : P = pAs t n L own S j) (h : pAsg t n L own S j = some (f, v)) (hk : ¬ kd t n f = 32) (hS : S.length ≤ 1500) : P = some f := by
  rw [h0, pAs_u hS, h]
  exact if_neg hk
theorem ua_c (h0 : P = pAs t n L own S j) (h : pAsg t n L own S j = some (f, v)) (ha : ad (kd t n) f = some g) (hk : kd t n f = 32) (hS : S.length ≤ 1500) (hS' : S' = S ++ [v]) : P = pAs t n L own S' g := by
  rw [h0, pAs_u hS, h, hS']
  show (if kd t n f = 32 then (match ad (kd t n) f with | none => none | some g => pAs t n L own (S ++ [v]) g) else some f) = _
  rw [if_pos hk, ha]
theorem ua_x (h0 : P = pAs t n L own S j) (h : pAsg t n L own S j = some (f, v)) (ha : ad (kd t n) f = none) (hk : kd t n f = 32) (hS : S.length ≤ 1500) : P = none := by
  rw [h0, pAs_u hS, h]
  show (if kd t n f = 32 then (match ad (kd t n) f with | none => none | some g => pAs t n L own (S ++ [v]) g) else some f) = _
  rw [if_pos hk, ha]
theorem pChg_c {sv : Int → Int} {a b s : Int} {Y : Option (Int × Int)} (h : pChg t n L own (svL sv a s) j = Y) (e : a = b) : pChg t n L own (svL sv b s) j = Y := by
  subst e
  exact h
theorem svL_len {sv : Int → Int} {a s : Int} (h : a ≤ s) : ((svL sv a s).length : Int) = s - a := by
  have key : ∀ m : Nat, (svf sv a m).length = m := by
    intro m
    induction m with
    | zero => rfl
    | succ m ih => unfold svf; rw [List.length_append, ih]; rfl
  unfold svL
  rw [key]
  omega
theorem pUpd_t (h : kd t n j = 13) {Y : Option Int} (ha : ad (kd t n) j = Y) : pUpdate t n L own j = Y := by
  unfold pUpdate
  rw [if_pos h]
  exact ha
theorem pUpd_a {sv : Int → Int} {s : Int} (h : ¬ kd t n j = 13) : pUpdate t n L own j = pAs t n L own (svL sv s s) j := by
  unfold pUpdate
  rw [if_neg h, svL_0]
end YU
theorem pChg_2 {t : Int → Int} {n own j : Int} {L : yN} {S : List Int} {x : Int × Int} (h : pChg t n L own S j = some x) : kd t n j = 2 := by
  unfold pChg at h
  split at h
  · assumption
  · cases h
