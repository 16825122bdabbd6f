/-! a COMMAND, step by step -/
/-- what is left: (action, guard, actions) are known -/
abbrev pcH : Type := Int × Int × yC × List Int
noncomputable def pcF (H : pcH) (Q : List (Int × Int)) (G : List dU) (j : Int) : Option (Int × dC × List Int) := match qonD Q with
  | none => none
  | some _ => some (j, (H.1, H.2.1, H.2.2.1, G), H.2.2.2)
noncomputable def pcE (t : Int → Int) (n : Int) (H : pcH) (Q : List (Int × Int)) (G : List dU) (j : Int) : Option (Int × dC × List Int) := match tke (kd t n) 36 j with
  | none => none
  | some c => pcF H Q G c
noncomputable def pcS (t : Int → Int) (n : Int) (L : yN) (own : Int) (H : pcH) (Q : List (Int × Int)) (G : List dU) (j : Int) : Option (Int × dC × List Int) := match pShs t n L own Q G j with
  | none => none
  | some (b, Q, G) => pcE t n H Q G b
noncomputable def pcB (t : Int → Int) (n : Int) (L : yN) (own : Int) (H : pcH) (j : Int) : Option (Int × dC × List Int) := match pBody t n L own j with
  | none => none
  | some (b, Q, G) => pcE t n H Q G b
section YM
variable {t : Int → Int} {n own N M j a b c d x y i : Int} {L : yN} {Q : List (Int × Int)} {G : List dU} {U : dU} {H : pcH} {C : yC} {A A' : List Int}
theorem pq_h (h : pHead t n L N A j = some (a, i, C, A')) : pCmd t n L own N M A j = pcB t n L own (M, i, C, A') a := by
  unfold pCmd pcB
  simp only [h]
  cases pBody t n L own a with
  | none => rfl
  | some x =>
    obtain ⟨b, Q, G⟩ := x
    rfl
theorem pq_hn (h : pHead t n L N A j = none) : pCmd t n L own N M A j = none := pCmd_n0 h
theorem pq_s (hk : ¬ (kd t n a = 13 ∨ kd t n a = 39)) : pcB t n L own H a = pcS t n L own H [] [] a := by
  unfold pcB pcS
  rw [pBody_s hk]
theorem pq_1 (h : pUpdate t n L own a = some (b, U)) (hk : kd t n a = 13 ∨ kd t n a = 39) : pcB t n L own H a = pcE t n H [(1, 1)] [U] b := by
  unfold pcB
  rw [pBody_1 h hk]
theorem pq_1n (h : pUpdate t n L own a = none) (hk : kd t n a = 13 ∨ kd t n a = 39) : pcB t n L own H a = none := by
  unfold pcB
  rw [pBody_1n h hk]
theorem pq_n (h : pStep t n L own Q j = none) (hQ : Q.length ≤ 6) : pcS t n L own H Q G j = none := by
  unfold pcS
  rw [uq_n rfl h hQ]
theorem pq_d (h : pStep t n L own Q j = some (c, x, y, U)) (hk : ¬ kd t n c = 27) (hQ : Q.length ≤ 6) : pcS t n L own H Q G j = pcE t n H (Q ++ [(x, y)]) (G ++ [U]) c := by
  unfold pcS
  rw [uq_d rfl h hk hQ]
theorem pq_c (h : pStep t n L own Q j = some (c, x, y, U)) (ha : ad (kd t n) c = some d) (hk : kd t n c = 27) (hQ : Q.length ≤ 6) : pcS t n L own H Q G j = pcS t n L own H (Q ++ [(x, y)]) (G ++ [U]) d := by
  unfold pcS
  rw [uq_c rfl h ha hk hQ]
theorem pq_x (h : pStep t n L own Q j = some (c, x, y, U)) (ha : ad (kd t n) c = none) (hk : kd t n c = 27) (hQ : Q.length ≤ 6) : pcS t n L own H Q G j = none := by
  unfold pcS
  rw [uq_x rfl h ha hk hQ]
theorem pq_e (h : tke (kd t n) 36 j = some c) : pcE t n H Q G j = pcF H Q G c := by
  unfold pcE
  rw [h]
theorem pq_en (h : tke (kd t n) 36 j = none) : pcE t n H Q G j = none := by
  unfold pcE
  rw [h]
theorem pq_f (h : qone Q) : pcF (M, i, C, A) Q G j = some (j, (M, i, C, G), A) := by
  unfold pcF
  rw [qonD_s h]
theorem pq_fn (h : ¬ qone Q) : pcF H Q G j = none := by
  unfold pcF
  rw [qonD_n h]
end YM
/-! sums of tops -/
theorem shsum_s {to : Int → Int} : ∀ (m : Nat) (f : Int), shsum to f (m + 1) = shsum to f m + to (f + m) := by
  intro m
  induction m with
  | zero =>
    intro f
    show to f + 0 = 0 + to (f + ((0 : Nat) : Int))
    rw [show f + ((0 : Nat) : Int) = f by omega]
    omega
  | succ m ih =>
    intro f
    show to f + shsum to (f + 1) (m + 1) = (to f + shsum to (f + 1) m) + to (f + ((m + 1 : Nat) : Int))
    rw [ih (f + 1), show f + 1 + (m : Int) = f + ((m + 1 : Nat) : Int) by omega]
    omega
def shs (to : Int → Int) (f u : Int) : Int := shsum to f (u - f).toNat
theorem shs_0 {to : Int → Int} {f : Int} : 0 = shs to f f := by
  unfold shs
  rw [show (f - f).toNat = 0 by omega]
  rfl
theorem shs_s {to : Int → Int} {f u u' s s' : Int} (h : s = shs to f u) (hf : f ≤ u) (hu : u' = u + 1) (hs : s' = s + to u) : s' = shs to f u' := by
  subst hu hs h
  unfold shs
  rw [show (u + 1 - f).toNat = (u - f).toNat + 1 by omega, shsum_s, show f + (((u - f).toNat : Nat) : Int) = u by omega]
theorem shs_b {B : Int} {to : Int → Int} {Q : List (Int × Int)} {f : Int} (hq : shq B to f Q) (hB : 1 ≤ B) : ∀ m : Nat, m ≤ Q.length → 0 ≤ shsum to f m ∧ shsum to f m ≤ B * m := by
  intro m
  induction m with
  | zero => intro _; exact ⟨show (0 : Int) ≤ 0 by decide, by show (0 : Int) ≤ B * 0; omega⟩
  | succ m ih =>
    intro hm
    have i := ih (by omega)
    have c := shq_b Q f (f + m) hq hB (by omega) (by omega)
    rw [shsum_s]
    refine ⟨by omega, ?_⟩
    rw [show ((m + 1 : Nat) : Int) = (m : Int) + 1 from rfl, Int.mul_add]
    omega
theorem shs_one {B s f u : Int} {to : Int → Int} {Q : List (Int × Int)} (h : s = shs to f u) (hq : shq B to f Q) (hB : 1 ≤ B) (hu : u = f + Q.length) : s = B ↔ qone Q := by
  have e : shs to f u = shsum to f Q.length := by
    unfold shs
    rw [show (u - f).toNat = Q.length by omega]
  rw [h, e]
  exact shq_one hq hB
