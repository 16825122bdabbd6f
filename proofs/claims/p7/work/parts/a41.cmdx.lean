/-! a COMMAND's shares, as they are counted -/
def p1k (m : Nat) : Int := 1000 ^ m
theorem p1k_b {m : Nat} (h : m ≤ 5) : p1k m ≤ 1000000000000000 := by
  have c : m = 0 ∨ m = 1 ∨ m = 2 ∨ m = 3 ∨ m = 4 ∨ m = 5 := by omega
  rcases c with rfl | rfl | rfl | rfl | rfl | rfl <;> decide
theorem p1k_6 {m : Nat} (h : m ≤ 6) : p1k m ≤ 1000000000000000000 := by
  have c : m = 0 ∨ m = 1 ∨ m = 2 ∨ m = 3 ∨ m = 4 ∨ m = 5 ∨ m = 6 := by omega
  rcases c with rfl | rfl | rfl | rfl | rfl | rfl | rfl <;> decide
theorem p1k_s {B B' x y : Int} {Q : List (Int × Int)} (h : B ≤ p1k Q.length) (h1 : B' ≤ B * 1000) : B' ≤ p1k (Q ++ [(x, y)]).length := by
  rw [List.length_append]
  show B' ≤ (1000 : Int) ^ (Q.length + 1)
  rw [Int.pow_succ]
  have h : B ≤ (1000 : Int) ^ Q.length := h
  omega
theorem shq_cg {B a b a' b' f f' : Int} {to : Int → Int} {Q : List (Int × Int)} (h : shq B to f (Q ++ [(a, b)])) (ef : f = f') (ea : a = a') (eb : b = b') : shq B to f' (Q ++ [(a', b')]) := by
  subst ef ea eb
  exact h
theorem shq_f {B f f' : Int} {to : Int → Int} {Q : List (Int × Int)} (h : shq B to f Q) (ef : f = f') : shq B to f' Q := by
  subst ef
  exact h
theorem pStep_E {t : Int → Int} {n own j a x y b k : Int} {L : yN} {Q : List (Int × Int)} (h0 : pShare t n j = some (a, x, y)) (h1 : tke (kd t n) 35 a = some b) (h : 6 ≤ k ∨ pUpdate t n L own b = none) (hk : k = Q.length) : pStep t n L own Q j = none := by
  rcases h with h | h
  · exact pStep_n2 h0 h1 (cnd_n (by omega))
  · by_cases c : Q.length < 6
    · exact pStep_n3 h0 h1 (cnd_s c) h
    · exact pStep_n2 h0 h1 (cnd_n c)
theorem pUpd_E {α : Type} {k : Int} {P : Option α} (h : 6 ≤ k ∨ P = none) (hk : k < 6) : P = none := by
  rcases h with h | h
  · omega
  · exact h
theorem qlen_s {Q : List (Int × Int)} {x : Int × Int} : ((Q ++ [x]).length : Int) = Q.length + 1 := by
  rw [List.length_append]
  rfl
theorem shs_ex {B z s q f u up : Int} {to : Int → Int} {Q : List (Int × Int)} (h : s = shs to f u) (hz : z = s + to u + 18446744073709551616 * q) (hr : -9223372036854775808 ≤ z ∧ z ≤ 9223372036854775807) (hq : shq B to f Q) (hB : 1 ≤ B) (hb : B ≤ p1k Q.length) (h6 : Q.length ≤ 6) (hf : f ≤ u) (hu : u < up) (hup : up = f + Q.length) : z = s + to u := by
  have k := p1k_6 h6
  have c := shq_b Q f u hq hB hf (by omega)
  have b := shs_b hq hB (u - f).toNat (by omega)
  have e : s = shsum to f (u - f).toNat := h
  rw [← e] at b
  have m : B * (((u - f).toNat : Nat) : Int) ≤ B * 5 := Int.mul_le_mul_of_nonneg_left (by omega) (by omega)
  omega
theorem sh_11 {B a b f f' : Int} {to : Int → Int} (h : shq B to f ([] ++ [(a, b)])) (ef : f = f') (ea : a = 1) (eb : b = 1) : to f' * 1 = 1 * B := by
  subst ef ea eb
  exact h.1.2.2.2
theorem p1k_1 : p1k [((1 : Int), (1 : Int))].length = 1000 := by decide
