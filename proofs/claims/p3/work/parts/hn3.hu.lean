/-! the finer views, of the cells behind the constructors -/
noncomputable def w3_VX (t : Nat ⊕ Nat) : Nat := match t with
  | .inl j => (fx_nth [41, 29, 30, 22, 49, 48, 19, 55, 42, 47, 8, 9, 10, 11, 12, 4, 5, 6, 14, 15, 16, 17, 28, 32, 33, 35, 36, 21, 23, 24, 25] j).getD 0
  | .inr j => (fx_nth [57] j).getD 0
set_option maxRecDepth 100000 in
theorem w3_x3 : ck_all 0 66 (fun k => ck_su w3_U w3_VX k (hx_KT k)) = true := by decide +kernel
set_option maxRecDepth 100000 in
theorem w3_x4 : ck_all 0 1654 (fun a => Nat.blt (w3_k a).1 66 && (!(ck_one w3_U (hx_KT (w3_k a).1)) || decide ((w3_k a).2 = 0))) = true := by decide +kernel
theorem w3_HX : hw_U (hx_T w3_k (fun a => w3_ob a = true)) := by
  refine ck_U (KT := hx_KT) (kof := w3_k) (ob := w3_ob) (rm := hv_rm) (U := w3_U) (V := w3_VX) (inv := w3_in) (fun i => ?_) (fun a ha => ?_) (fun a ha => ?_) (fun a ha h => ?_)
  · have := hv_rm_b i
    omega
  · have h0 := w3_in_ob ha
    exact Nat.eq_of_beq_eq_true (ck_all_ok w3_c2 h0.1 h0.2)
  · have h0 := w3_in_ob ha
    have h1 := ck_all_ok w3_x4 h0.1 h0.2
    rw [Bool.and_eq_true] at h1
    have h2 : (w3_k a).1 + 1 ≤ 66 := Nat.le_of_ble_eq_true h1.1
    exact ck_all_ok (P := fun k => ck_su w3_U w3_VX k (hx_KT k)) w3_x3 (Nat.zero_le _) (by omega)
  · have h0 := w3_in_ob ha
    have h1 := ck_all_ok w3_x4 h0.1 h0.2
    rw [Bool.and_eq_true, h] at h1
    exact of_decide_eq_true h1.2
noncomputable def w4_VX (t : Nat ⊕ Nat) : Nat := match t with
  | .inl j => (fx_nth [6, 7, 8, 9, 10, 11, 12, 17, 18, 19, 20, 21, 22, 23, 25, 29, 30, 31, 33, 34, 35, 36, 37, 38, 39, 40, 41, 42, 43, 45, 46, 47, 57, 26, 27, 32, 28, 5, 13, 14, 15, 16, 24] j).getD 0
  | .inr j => (fx_nth [1] j).getD 0
set_option maxRecDepth 100000 in
theorem w4_x3 : ck_all 0 58 (fun k => ck_su w4_U w4_VX k (hy_KT k)) = true := by decide +kernel
set_option maxRecDepth 100000 in
theorem w4_x4 : ck_all 1654 1642 (fun a => Nat.blt (w4_k a).1 58 && (!(ck_one w4_U (hy_KT (w4_k a).1)) || decide ((w4_k a).2 = 0))) = true := by decide +kernel
theorem w4_HY : hw_U (hy_T w4_k (fun a => w4_ob a = true)) := by
  refine ck_U (KT := hy_KT) (kof := w4_k) (ob := w4_ob) (rm := hy_rm) (U := w4_U) (V := w4_VX) (inv := w4_in) (fun i => ?_) (fun a ha => ?_) (fun a ha => ?_) (fun a ha h => ?_)
  · have := hy_rm_b i
    omega
  · have h0 := w4_in_ob ha
    exact Nat.eq_of_beq_eq_true (ck_all_ok w4_c2 h0.1 h0.2)
  · have h0 := w4_in_ob ha
    have h1 := ck_all_ok w4_x4 h0.1 h0.2
    rw [Bool.and_eq_true] at h1
    have h2 : (w4_k a).1 + 1 ≤ 58 := Nat.le_of_ble_eq_true h1.1
    exact ck_all_ok (P := fun k => ck_su w4_U w4_VX k (hy_KT k)) w4_x3 (Nat.zero_le _) (by omega)
  · have h0 := w4_in_ob ha
    have h1 := ck_all_ok w4_x4 h0.1 h0.2
    rw [Bool.and_eq_true, h] at h1
    exact of_decide_eq_true h1.2
