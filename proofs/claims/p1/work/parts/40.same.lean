def fg_ckp (pl : List pg_Row) (B : List (List (List (Nat × mm_P)))) : Bool := B.flatten.flatten.all (fun r => decide (pg_pool pl r.1 = some r.2))
theorem fg_ckp_use {pl : List pg_Row} {B : List (List (List (Nat × mm_P)))} (h : fg_ckp pl B = true) {x : Nat} {v : mm_P} (hb : fx_b2 4 B x = some v) : pg_pool pl x = some v := of_decide_eq_true (List.all_eq_true.mp h _ (fx_b2_mem hb))
set_option maxRecDepth 20000 in
theorem fg_kp0 : fg_ckp pgP_0 fg_p0 = true := by decide +kernel
set_option maxRecDepth 20000 in
theorem fg_kp1 : fg_ckp pgP_1 fg_p1 = true := by decide +kernel
set_option maxRecDepth 20000 in
theorem fg_kp10 : fg_ckp pgP_10 fg_p10 = true := by decide +kernel
set_option maxRecDepth 20000 in
theorem fg_kp11 : fg_ckp pgP_11 fg_p11 = true := by decide +kernel
set_option maxRecDepth 20000 in
theorem fg_kp12 : fg_ckp pgP_12 fg_p12 = true := by decide +kernel
set_option maxRecDepth 20000 in
theorem fg_kp13 : fg_ckp pgP_13 fg_p13 = true := by decide +kernel
set_option maxRecDepth 20000 in
theorem fg_kp14 : fg_ckp pgP_14 fg_p14 = true := by decide +kernel
set_option maxRecDepth 20000 in
theorem fg_kp15 : fg_ckp pgP_15 fg_p15 = true := by decide +kernel
set_option maxRecDepth 20000 in
theorem fg_kp16 : fg_ckp pgP_16 fg_p16 = true := by decide +kernel
set_option maxRecDepth 20000 in
theorem fg_kp2 : fg_ckp pgP_2 fg_p2 = true := by decide +kernel
set_option maxRecDepth 20000 in
theorem fg_kp3 : fg_ckp pgP_3 fg_p3 = true := by decide +kernel
set_option maxRecDepth 20000 in
theorem fg_kp4 : fg_ckp pgP_4 fg_p4 = true := by decide +kernel
set_option maxRecDepth 20000 in
theorem fg_kp5 : fg_ckp pgP_5 fg_p5 = true := by decide +kernel
set_option maxRecDepth 20000 in
theorem fg_kp6 : fg_ckp pgP_6 fg_p6 = true := by decide +kernel
set_option maxRecDepth 20000 in
theorem fg_kp7 : fg_ckp pgP_7 fg_p7 = true := by decide +kernel
set_option maxRecDepth 20000 in
theorem fg_kp8 : fg_ckp pgP_8 fg_p8 = true := by decide +kernel
set_option maxRecDepth 20000 in
theorem fg_kp9 : fg_ckp pgP_9 fg_p9 = true := by decide +kernel
theorem fg_pool_eq : fg_pool = fun f => pg_pool (pg_plr (pg_pc f)) := by
  funext f x
  refine fx_els_eq (fun v hv => ?_)
  split at hv
  · cases hv
  · rename_i B hB
    have hlt := fx_two_lt hB 100 (by decide)
    refine fg_ckp_use ?_ hv
    match f, hB, hlt with
    | 0, hB, _ => cases hB; cases hv
    | 1, hB, _ => cases hB; exact fg_kp0
    | 2, hB, _ => cases hB; exact fg_kp3
    | 3, hB, _ => cases hB; exact fg_kp10
    | 4, hB, _ => cases hB; exact fg_kp4
    | 5, hB, _ => cases hB; exact fg_kp8
    | 6, hB, _ => cases hB; exact fg_kp9
    | 7, hB, _ => cases hB; exact fg_kp6
    | 8, hB, _ => cases hB; exact fg_kp2
    | 9, hB, _ => cases hB; exact fg_kp5
    | 10, hB, _ => cases hB; exact fg_kp16
    | 11, hB, _ => cases hB; exact fg_kp5
    | 12, hB, _ => cases hB; exact fg_kp1
    | 13, hB, _ => cases hB; exact fg_kp11
    | 14, hB, _ => cases hB; exact fg_kp7
    | 15, hB, _ => cases hB; exact fg_kp0
    | 16, hB, _ => cases hB; exact fg_kp0
    | 17, hB, _ => cases hB; exact fg_kp5
    | 18, hB, _ => cases hB; exact fg_kp5
    | 19, hB, _ => cases hB; exact fg_kp15
    | 20, hB, _ => cases hB; exact fg_kp12
    | 21, hB, _ => cases hB; exact fg_kp0
    | 22, hB, _ => cases hB; exact fg_kp10
    | 23, hB, _ => cases hB; exact fg_kp12
    | 24, hB, _ => cases hB; exact fg_kp0
    | 25, hB, _ => cases hB; exact fg_kp0
    | 26, hB, _ => cases hB; exact fg_kp1
    | 27, hB, _ => cases hB; exact fg_kp8
    | 28, hB, _ => cases hB; exact fg_kp4
    | 29, hB, _ => cases hB; exact fg_kp10
    | 30, hB, _ => cases hB; exact fg_kp8
    | 31, hB, _ => cases hB; exact fg_kp10
    | 32, hB, _ => cases hB; exact fg_kp16
    | 33, hB, _ => cases hB; exact fg_kp10
    | 34, hB, _ => cases hB; exact fg_kp10
    | 35, hB, _ => cases hB; exact fg_kp10
    | 36, hB, _ => cases hB; exact fg_kp8
    | 37, hB, _ => cases hB; exact fg_kp8
    | 38, hB, _ => cases hB; exact fg_kp8
    | 39, hB, _ => cases hB; exact fg_kp8
    | 40, hB, _ => cases hB; exact fg_kp12
    | 41, hB, _ => cases hB; exact fg_kp0
    | 42, hB, _ => cases hB; exact fg_kp12
    | 43, hB, _ => cases hB; exact fg_kp0
    | 44, hB, _ => cases hB; exact fg_kp12
    | 45, hB, _ => cases hB; exact fg_kp0
    | 46, hB, _ => cases hB; exact fg_kp0
    | 47, hB, _ => cases hB; exact fg_kp12
    | 48, hB, _ => cases hB; exact fg_kp0
    | 49, hB, _ => cases hB; exact fg_kp12
    | 50, hB, _ => cases hB; exact fg_kp0
    | 51, hB, _ => cases hB; exact fg_kp0
    | 52, hB, _ => cases hB; exact fg_kp12
    | 53, hB, _ => cases hB; exact fg_kp0
    | 54, hB, _ => cases hB; exact fg_kp12
    | 55, hB, _ => cases hB; exact fg_kp0
    | 56, hB, _ => cases hB; exact fg_kp12
    | 57, hB, _ => cases hB; exact fg_kp0
    | 58, hB, _ => cases hB; exact fg_kp12
    | 59, hB, _ => cases hB; exact fg_kp0
    | 60, hB, _ => cases hB; exact fg_kp12
    | 61, hB, _ => cases hB; exact fg_kp0
    | 62, hB, _ => cases hB; exact fg_kp12
    | 63, hB, _ => cases hB; exact fg_kp0
    | 64, hB, _ => cases hB; exact fg_kp13
    | 65, hB, _ => cases hB; exact fg_kp14
    | 66, hB, _ => cases hB; exact fg_kp13
    | 67, hB, _ => cases hB; exact fg_kp14
    | 68, hB, _ => cases hB; exact fg_kp14
    | 69, hB, _ => cases hB; exact fg_kp13
    | 70, hB, _ => cases hB; exact fg_kp13
    | 71, hB, _ => cases hB; exact fg_kp13
    | 72, hB, _ => cases hB; exact fg_kp13
    | 73, hB, _ => cases hB; exact fg_kp13
    | 74, hB, _ => cases hB; exact fg_kp13
    | 75, hB, _ => cases hB; exact fg_kp13
    | 76, hB, _ => cases hB; exact fg_kp13
    | 77, hB, _ => cases hB; exact fg_kp13
    | 78, hB, _ => cases hB; exact fg_kp13
    | 79, hB, _ => cases hB; exact fg_kp13
    | 80, hB, _ => cases hB; exact fg_kp13
    | 81, hB, _ => cases hB; exact fg_kp13
    | 82, hB, _ => cases hB; exact fg_kp13
    | 83, hB, _ => cases hB; exact fg_kp13
    | 84, hB, _ => cases hB; exact fg_kp13
    | 85, hB, _ => cases hB; exact fg_kp13
    | 86, hB, _ => cases hB; exact fg_kp13
    | 87, hB, _ => cases hB; exact fg_kp13
    | 88, hB, _ => cases hB; exact fg_kp13
    | 89, hB, _ => cases hB; exact fg_kp14
    | 90, hB, _ => cases hB; exact fg_kp13
    | 91, hB, _ => cases hB; exact fg_kp13
    | 92, hB, _ => cases hB; exact fg_kp13
    | 93, hB, _ => cases hB; exact fg_kp13
    | 94, hB, _ => cases hB; exact fg_kp13
    | 95, hB, _ => cases hB; exact fg_kp14
    | 96, hB, _ => cases hB; exact fg_kp13
    | 97, hB, _ => cases hB; exact fg_kp12
    | 98, hB, _ => cases hB
    | 99, hB, _ => cases hB
    | n + 100, _, hlt => exact absurd hlt (by omega)
set_option maxRecDepth 20000 in
theorem fg_inf_k : (List.range 100).all (fun f => match fx_two fg_it f with
  | none => true
  | some v => decide (v = pg_inf f)) = true := by decide +kernel
theorem fg_inf_eq (f : Nat) : fx_el (fx_two fg_it f) (pg_inf f) = pg_inf f := by
  cases hq : fx_two fg_it f with
  | none => rfl
  | some v =>
    have hlt := fx_two_lt hq 100 (by decide)
    have h := List.all_eq_true.mp fg_inf_k f (List.mem_range.mpr hlt)
    rw [hq] at h
    exact of_decide_eq_true h
set_option maxRecDepth 20000 in
theorem fg_rt_k : (List.range 100).all (fun f => match fx_two fg_rtt f with
  | none => true
  | some v => decide (v = pg_rt f)) = true := by decide +kernel
theorem fg_rt_eq (f : Nat) : fx_el (fx_two fg_rtt f) (pg_rt f) = pg_rt f := by
  cases hq : fx_two fg_rtt f with
  | none => rfl
  | some v =>
    have hlt := fx_two_lt hq 100 (by decide)
    have h := List.all_eq_true.mp fg_rt_k f (List.mem_range.mpr hlt)
    rw [hq] at h
    exact of_decide_eq_true h
set_option maxRecDepth 20000 in
theorem fg_thr_k : (List.range 100).all (fun f => match fx_two fg_tt f with
  | none => true
  | some v => decide (v = pg_thr f)) = true := by decide +kernel
theorem fg_thr_eq (f : Nat) : fx_el (fx_two fg_tt f) (pg_thr f) = pg_thr f := by
  cases hq : fx_two fg_tt f with
  | none => rfl
  | some v =>
    have hlt := fx_two_lt hq 100 (by decide)
    have h := List.all_eq_true.mp fg_thr_k f (List.mem_range.mpr hlt)
    rw [hq] at h
    exact of_decide_eq_true h
set_option maxRecDepth 20000 in
theorem fg_fd_k : (List.range 20).all (fun f => match fx_two fg_fdt f with
  | none => true
  | some v => decide (v = pg_fd f)) = true := by decide +kernel
theorem fg_fd_eq (f : Nat) : fx_el (fx_two fg_fdt f) (pg_fd f) = pg_fd f := by
  cases hq : fx_two fg_fdt f with
  | none => rfl
  | some v =>
    have hlt := fx_two_lt hq 20 (by decide)
    have h := List.all_eq_true.mp fg_fd_k f (List.mem_range.mpr hlt)
    rw [hq] at h
    exact of_decide_eq_true h
set_option maxRecDepth 20000 in
theorem fg_ft_k : (List.range 20).all (fun c => match fx_two fg_ftt c with
  | none => true
  | some l => (List.range l.length).all (fun k => match fx_nth l k with
    | none => true
    | some v => decide (v = pg_ft c k))) = true := by decide +kernel
theorem fg_ft_eq (c k : Nat) : fx_el (fg_in fg_ftt c k) (pg_ft c k) = pg_ft c k := by
  unfold fg_in
  cases hq : fx_two fg_ftt c with
  | none => rfl
  | some l =>
    dsimp only
    have hlt := fx_two_lt hq 20 (by decide)
    have h := List.all_eq_true.mp fg_ft_k c (List.mem_range.mpr hlt)
    rw [hq] at h
    cases hr : fx_nth l k with
    | none => rfl
    | some v =>
      have h2 := List.all_eq_true.mp h k (List.mem_range.mpr (fx_nth_lt _ _ _ hr))
      rw [hr] at h2
      exact of_decide_eq_true h2
set_option maxRecDepth 20000 in
theorem fg_fi_k : (List.range 20).all (fun c => match fx_two fg_fit c with
  | none => true
  | some l => (List.range l.length).all (fun k => match fx_nth l k with
    | none => true
    | some v => decide (v = pg_fi c k))) = true := by decide +kernel
theorem fg_fi_eq (c k : Nat) : fx_el (fg_in fg_fit c k) (pg_fi c k) = pg_fi c k := by
  unfold fg_in
  cases hq : fx_two fg_fit c with
  | none => rfl
  | some l =>
    dsimp only
    have hlt := fx_two_lt hq 20 (by decide)
    have h := List.all_eq_true.mp fg_fi_k c (List.mem_range.mpr hlt)
    rw [hq] at h
    cases hr : fx_nth l k with
    | none => rfl
    | some v =>
      have h2 := List.all_eq_true.mp h k (List.mem_range.mpr (fx_nth_lt _ _ _ hr))
      rw [hr] at h2
      exact of_decide_eq_true h2
theorem fg_G_eq : fg_G = pg_G := by
  have e1 : fg_inf = pg_inf := funext fg_inf_eq
  have e2 : fg_rt = pg_rt := funext fg_rt_eq
  have e3 : fg_thr = fun f pc => (pg_thr f).lookup pc := by
    funext f pc
    unfold fg_thr
    rw [fg_thr_eq, fx_lf_eq]
  unfold fg_G pg_G
  rw [fg_pool_eq, e1, e2, e3]
theorem fg_T_eq : fg_T = pg_TT := by
  have e1 : fg_ft = pg_ft := funext fun c => funext fun k => fg_ft_eq c k
  have e2 : fg_fi = pg_fi := funext fun c => funext fun k => fg_fi_eq c k
  have e3 : fg_fd = pg_fd := funext fg_fd_eq
  unfold fg_T
  rw [e1, e2, e3]
  rfl
