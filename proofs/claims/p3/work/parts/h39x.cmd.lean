/-! a COMMAND, step by step -/
noncomputable def pcF (Q : List (Int × Int)) (j : Int) : Option Int := match qonD Q with
  | none => none
  | some _ => some j
noncomputable def pcE (t : Int → Int) (n : Int) (Q : List (Int × Int)) (j : Int) : Option Int := match tke (kd t n) 36 j with
  | none => none
  | some c => pcF Q c
noncomputable def pcS (t : Int → Int) (n : Int) (L : yN) (own : Int) (Q : List (Int × Int)) (j : Int) : Option Int := match pShs t n L own Q j with
  | none => none
  | some (b, Q) => pcE t n Q b
noncomputable def pcB (t : Int → Int) (n : Int) (L : yN) (own : Int) (j : Int) : Option Int := match pBody t n L own j with
  | none => none
  | some (b, Q) => pcE t n Q b
section YM
variable {t : Int → Int} {n own N j a b c d x y : Int} {L : yN} {Q : List (Int × Int)} {P : Option Int}
theorem pq_h (h : pHead t n L N j = some a) : pCmd t n L own N j = pcB t n L own a := by
  unfold pCmd pcB
  simp only [h]
  cases pBody t n L own a with
  | none => rfl
  | some x =>
    obtain ⟨b, Q⟩ := x
    rfl
theorem pq_hn (h : pHead t n L N j = none) : pCmd t n L own N j = none := pCmd_n0 h
theorem pq_s (hk : ¬ (kd t n a = 13 ∨ kd t n a = 39)) : pcB t n L own a = pcS t n L own [] a := by
  unfold pcB pcS
  rw [pBody_s hk]
theorem pq_1 (h : pUpdate t n L own a = some b) (hk : kd t n a = 13 ∨ kd t n a = 39) : pcB t n L own a = pcE t n [(1, 1)] b := by
  unfold pcB
  rw [pBody_1 h hk]
theorem pq_1n (h : pUpdate t n L own a = none) (hk : kd t n a = 13 ∨ kd t n a = 39) : pcB t n L own a = none := by
  unfold pcB
  rw [pBody_1n h hk]
theorem pq_n (h : pStep t n L own Q j = none) (hQ : Q.length ≤ 6) : pcS t n L own Q j = none := by
  unfold pcS
  rw [uq_n rfl h hQ]
theorem pq_d (h : pStep t n L own Q j = some (c, x, y)) (hk : ¬ kd t n c = 27) (hQ : Q.length ≤ 6) : pcS t n L own Q j = pcE t n (Q ++ [(x, y)]) c := by
  unfold pcS
  rw [uq_d rfl h hk hQ]
theorem pq_c (h : pStep t n L own Q j = some (c, x, y)) (ha : ad (kd t n) c = some d) (hk : kd t n c = 27) (hQ : Q.length ≤ 6) : pcS t n L own Q j = pcS t n L own (Q ++ [(x, y)]) d := by
  unfold pcS
  rw [uq_c rfl h ha hk hQ]
theorem pq_x (h : pStep t n L own Q j = some (c, x, y)) (ha : ad (kd t n) c = none) (hk : kd t n c = 27) (hQ : Q.length ≤ 6) : pcS t n L own Q j = none := by
  unfold pcS
  rw [uq_x rfl h ha hk hQ]
theorem pq_e (h : tke (kd t n) 36 j = some c) : pcE t n Q j = pcF Q c := by
  unfold pcE
  rw [h]
theorem pq_en (h : tke (kd t n) 36 j = none) : pcE t n Q j = none := by
  unfold pcE
  rw [h]
theorem pq_f (h : qone Q) : pcF Q j = some j := by
  unfold pcF
  rw [qonD_s h]
theorem pq_fn (h : ¬ qone Q) : pcF Q j = none := by
  unfold pcF
  rw [qonD_n h]
end YM
/-! sums of tops -/
theorem shsum_s {to : Int → Int} : ∀ (m : Nat) (f : Int), shsum to f (m + 1) = shsum to f m + to (f + m) := by
  intro m
  induction m with
  | zero =>
    intro f
    show to f + 0 = 0 + to (f + ((0 : Nat) : Int))
    rw [show f + ((0 : Nat) : Int) = f by omega]
    omega
  | succ m ih =>
    intro f
    show to f + shsum to (f + 1) (m + 1) = (to f + shsum to (f + 1) m) + to (f + ((m + 1 : Nat) : Int))
    rw [ih (f + 1), show f + 1 + (m : Int) = f + ((m + 1 : Nat) : Int) by omega]
    omega
def shs (to : Int → Int) (f u : Int) : Int := shsum to f (u - f).toNat
theorem shs_0 {to : Int → Int} {f : Int} : 0 = shs to f f := by
  unfold shs
  rw [show (f - f).toNat = 0 by omega]
  rfl
theorem shs_s {to : Int → Int} {f u u' s s' : Int} (h : s = shs to f u) (hf : f ≤ u) (hu : u' = u + 1) (hs : s' = s + to u) : s' = shs to f u' := by
  subst hu hs h
  unfold shs
  rw [show (u + 1 - f).toNat = (u - f).toNat + 1 by omega, shsum_s, show f + (((u - f).toNat : Nat) : Int) = u by omega]
theorem shs_b {B : Int} {to : Int → Int} {Q : List (Int × Int)} {f : Int} (hq : shq B to f Q) (hB : 1 ≤ B) : ∀ m : Nat, m ≤ Q.length → 0 ≤ shsum to f m ∧ shsum to f m ≤ B * m := by
  intro m
  induction m with
  | zero => intro _; exact ⟨show (0 : Int) ≤ 0 by decide, by show (0 : Int) ≤ B * 0; omega⟩
  | succ m ih =>
    intro hm
    have i := ih (by omega)
    have c := shq_b Q f (f + m) hq hB (by omega) (by omega)
    rw [shsum_s]
    refine ⟨by omega, ?_⟩
    rw [show ((m + 1 : Nat) : Int) = (m : Int) + 1 from rfl, Int.mul_add]
    omega
theorem shs_one {B s f u : Int} {to : Int → Int} {Q : List (Int × Int)} (h : s = shs to f u) (hq : shq B to f Q) (hB : 1 ≤ B) (hu : u = f + Q.length) : s = B ↔ qone Q := by
  have e : shs to f u = shsum to f Q.length := by
    unfold shs
    rw [show (u - f).toNat = Q.length by omega]
  rw [h, e]
  exact shq_one hq hB
