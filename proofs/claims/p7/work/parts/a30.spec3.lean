/-! what a text says: a P -/
noncomputable def pShR (t : Int → Int) (n : Int) (j : Int) : Option (Int × Int × Int) := (match ad (kd t n) j with
    | none => none
    | some a => (match cnd (1 ≤ nu t n j ∧ nu t n j ≤ 1000) with
    | none => none
    | some _ => some (a, nu t n j, 1000)))
theorem pShR_n0 {t : Int → Int} {n : Int} {j : Int}  (h0 : ad (kd t n) j = none) : pShR t n j = none := by
  unfold pShR
  simp only [h0]
theorem pShR_n1 {t : Int → Int} {n : Int} {j : Int} {a : Int} (h0 : ad (kd t n) j = some a) (h1 : cnd (1 ≤ nu t n j ∧ nu t n j ≤ 1000) = none) : pShR t n j = none := by
  unfold pShR
  simp only [h0, h1]
theorem pShR_s {t : Int → Int} {n : Int} {j : Int} {a : Int} (h0 : ad (kd t n) j = some a) (h1 : cnd (1 ≤ nu t n j ∧ nu t n j ≤ 1000) = some ()) : pShR t n j = some (a, nu t n j, 1000) := by
  unfold pShR
  simp only [h0, h1]
noncomputable def pShF (t : Int → Int) (n : Int) (j : Int) : Option (Int × Int × Int) := (match tke (kd t n) 3 j with
    | none => none
    | some a => (match ad (kd t n) a with
    | none => none
    | some b => (match tke (kd t n) 3 b with
    | none => none
    | some c => (match cnd (nu t n j ≤ 999 ∧ nu t n b ≤ 999 ∧ 1 ≤ nu t n j ∧ nu t n j ≤ nu t n b) with
    | none => none
    | some _ => some (c, nu t n j, nu t n b)))))
theorem pShF_n0 {t : Int → Int} {n : Int} {j : Int}  (h0 : tke (kd t n) 3 j = none) : pShF t n j = none := by
  unfold pShF
  simp only [h0]
theorem pShF_n1 {t : Int → Int} {n : Int} {j : Int} {a : Int} (h0 : tke (kd t n) 3 j = some a) (h1 : ad (kd t n) a = none) : pShF t n j = none := by
  unfold pShF
  simp only [h0, h1]
theorem pShF_n2 {t : Int → Int} {n : Int} {j : Int} {a : Int} {b : Int} (h0 : tke (kd t n) 3 j = some a) (h1 : ad (kd t n) a = some b) (h2 : tke (kd t n) 3 b = none) : pShF t n j = none := by
  unfold pShF
  simp only [h0, h1, h2]
theorem pShF_n3 {t : Int → Int} {n : Int} {j : Int} {a : Int} {b : Int} {c : Int} (h0 : tke (kd t n) 3 j = some a) (h1 : ad (kd t n) a = some b) (h2 : tke (kd t n) 3 b = some c) (h3 : cnd (nu t n j ≤ 999 ∧ nu t n b ≤ 999 ∧ 1 ≤ nu t n j ∧ nu t n j ≤ nu t n b) = none) : pShF t n j = none := by
  unfold pShF
  simp only [h0, h1, h2, h3]
theorem pShF_s {t : Int → Int} {n : Int} {j : Int} {a : Int} {b : Int} {c : Int} (h0 : tke (kd t n) 3 j = some a) (h1 : ad (kd t n) a = some b) (h2 : tke (kd t n) 3 b = some c) (h3 : cnd (nu t n j ≤ 999 ∧ nu t n b ≤ 999 ∧ 1 ≤ nu t n j ∧ nu t n j ≤ nu t n b) = some ()) : pShF t n j = some (c, nu t n j, nu t n b) := by
  unfold pShF
  simp only [h0, h1, h2, h3]
noncomputable def pShI (t : Int → Int) (n : Int) (j : Int) : Option (Int × Int × Int) := (match tke (kd t n) 3 j with
    | none => none
    | some a => (match cnd (nu t n j = 1) with
    | none => none
    | some _ => some (a, nu t n j, 1)))
theorem pShI_n0 {t : Int → Int} {n : Int} {j : Int}  (h0 : tke (kd t n) 3 j = none) : pShI t n j = none := by
  unfold pShI
  simp only [h0]
theorem pShI_n1 {t : Int → Int} {n : Int} {j : Int} {a : Int} (h0 : tke (kd t n) 3 j = some a) (h1 : cnd (nu t n j = 1) = none) : pShI t n j = none := by
  unfold pShI
  simp only [h0, h1]
theorem pShI_s {t : Int → Int} {n : Int} {j : Int} {a : Int} (h0 : tke (kd t n) 3 j = some a) (h1 : cnd (nu t n j = 1) = some ()) : pShI t n j = some (a, nu t n j, 1) := by
  unfold pShI
  simp only [h0, h1]
noncomputable def pShare (t : Int → Int) (n : Int) (j : Int) : Option (Int × Int × Int) := if kd t n j = 4 then pShR t n j else (match tke (kd t n) 3 j with
    | none => none
    | some a => if kd t n a = 30 then pShF t n j else pShI t n j)
theorem pSh_r {t : Int → Int} {n j : Int} {Y : Option (Int × Int × Int)} (h : pShR t n j = Y) (hk : kd t n j = 4) : pShare t n j = Y := by
  unfold pShare
  rw [if_pos hk]
  exact h
theorem pSh_n {t : Int → Int} {n j : Int} (h : tke (kd t n) 3 j = none) (hk : ¬ kd t n j = 4) : pShare t n j = none := by
  unfold pShare
  simp only [if_neg hk, h]
theorem pSh_f {t : Int → Int} {n j a : Int} {Y : Option (Int × Int × Int)} (h : pShF t n j = Y) (h1 : tke (kd t n) 3 j = some a) (hk : ¬ kd t n j = 4) (ha : kd t n a = 30) : pShare t n j = Y := by
  unfold pShare
  simp only [if_neg hk, h1, if_pos ha]
  exact h
theorem pSh_i {t : Int → Int} {n j a : Int} {Y : Option (Int × Int × Int)} (h : pShI t n j = Y) (h1 : tke (kd t n) 3 j = some a) (hk : ¬ kd t n j = 4) (ha : ¬ kd t n a = 30) : pShare t n j = Y := by
  unfold pShare
  simp only [if_neg hk, h1, if_neg ha]
  exact h
/-- a P in one number -/
theorem sh_r {a b r x : Int} {X : Option (Int × Int × Int)} (h : X = some (x, a, b)) (ha : 1 ≤ a) (hb : a ≤ b ∧ b ≤ 1000) (hr : r = a * 1001 + b) : X = some (x, r / 1001, r % 1001) := by
  rw [h, show r / 1001 = a by omega, show r % 1001 = b by omega]
