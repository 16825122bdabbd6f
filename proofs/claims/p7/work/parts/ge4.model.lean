/-! the model after the constructors -/
def w4_one (i : Int) : Bool := decide ((698 ≤ i ∧ i ≤ 721) ∨ i = 791)
def w4_sz (i : Int) : Int := if w4_one i = true then 1 else 0
def w4_sc : List Int := [0, 0, -1, 0, 0, 0, 0, 0, 0, 0, 0, 0, 0, 0, 0, 0, 0, 0, 0, 0, 0, 0, 0, 0, 0, 0]
def w4_ff : List (Int → Int) := [w4_sz]
def w4_Z : hw_Z := ck_Z w4_sc 43 w4_ff 1 w4_one
noncomputable def w4_ck (a : Nat) : Bool := match fx_look fl_T1 a with
  | some c => ck_c w4_k w4_ob hm_rm w4_sc 43 w4_ff 1 w4_one (w4_k a).2 (hm_KT (w4_k a).1) c
  | none => false
set_option maxRecDepth 100000 in
theorem w4_c1 : ck_all 1654 1642 w4_ck = true := by decide +kernel
set_option maxRecDepth 100000 in
theorem w4_c2 : ck_all 1654 1642 (fun a => Nat.beq (w4_in (w4_k a)) a) = true := by decide +kernel
set_option maxRecDepth 100000 in
theorem w4_c3 : ck_all 0 58 (fun k => ck_su w4_U w4_V k (hm_KT k)) = true := by decide +kernel
set_option maxRecDepth 100000 in
theorem w4_c4 : ck_all 1654 1642 (fun a => Nat.blt (w4_k a).1 58 && (!(ck_one w4_U (hm_KT (w4_k a).1)) || decide ((w4_k a).2 = 0))) = true := by decide +kernel
theorem w4_in_ob {a : Nat} (h : w4_ob a = true) : 1654 ≤ a ∧ a < 1654 + 1642 := by
  unfold w4_ob at h
  rw [Bool.and_eq_true] at h
  have h1 := Nat.le_of_ble_eq_true h.1
  have h2 : a + 1 ≤ 3296 := Nat.le_of_ble_eq_true h.2
  omega
noncomputable abbrev w4_T : hw_T := hm_T w4_k (fun a => w4_ob a = true)
theorem w4_RS (t : Nat) : hw_RS w4_T w4_Z (3297, t, fx_mem fl_T1) := by
  refine ck_RS (KT := hm_KT) (by decide) (fun a ha => ?_)
  have h0 := w4_in_ob ha
  have h1 := ck_all_ok w4_c1 h0.1 h0.2
  refine ⟨by omega, ?_⟩
  unfold w4_ck at h1
  split at h1
  · rename_i c hc
    exact ⟨c, hc, h1⟩
  · cases h1
theorem w4_HU : hw_U w4_T := by
  refine ck_U (KT := hm_KT) (kof := w4_k) (ob := w4_ob) (rm := hm_rm) (U := w4_U) (V := w4_V) (inv := w4_in) (fun i => ?_) (fun a ha => ?_) (fun a ha => ?_) (fun a ha h => ?_)
  · have := hm_rm_b i
    omega
  · have h0 := w4_in_ob ha
    exact Nat.eq_of_beq_eq_true (ck_all_ok w4_c2 h0.1 h0.2)
  · have h0 := w4_in_ob ha
    have h1 := ck_all_ok w4_c4 h0.1 h0.2
    rw [Bool.and_eq_true] at h1
    have h2 : (w4_k a).1 + 1 ≤ 58 := Nat.le_of_ble_eq_true h1.1
    exact ck_all_ok (P := fun k => ck_su w4_U w4_V k (hm_KT k)) w4_c3 (Nat.zero_le _) (by omega)
  · have h0 := w4_in_ob ha
    have h1 := ck_all_ok w4_c4 h0.1 h0.2
    rw [Bool.and_eq_true, h] at h1
    exact of_decide_eq_true h1.2
theorem w4_w1 {f : Int → Int} (h : f 0 = 1) : wh_is 1 f 1 := by
  refine ⟨1, rfl, fun i hi => ?_, fun j hj => ?_, ?_⟩
  · have : i = 0 := by omega
    subst this
    show 0 ≤ f 0 ∧ f 0 ≤ 65535
    omega
  · have : j = 0 := by omega
    subst this
    show 1 ≤ f 0
    omega
  · rw [wv_s]
    show wv f 0 + f 0 * 65536 ^ 0 = 1
    rw [h]
    rfl
theorem w4_wa : wa_all w4_sz (ck_g w4_one) w4_sz := by
  refine ⟨(), fun k => ?_⟩
  by_cases h : w4_one k = true
  · rw [show w4_sz k = 1 from if_pos h]
    exact w4_w1 (if_pos ⟨h, rfl⟩)
  · rw [show w4_sz k = 0 from if_neg h]
    exact wh_0
theorem w4_s0 {i : Int} (h : ¬ ((698 ≤ i ∧ i ≤ 721) ∨ i = 791)) : w4_sz i = 0 := if_neg (fun e => h (of_decide_eq_true e))
theorem w4_s1 (i : Int) : w4_sz i ≤ 1 := by
  unfold w4_sz
  split <;> omega
theorem w4_B {m : Nat} (h : 1 ≤ m) : (1 : Int) < wB m := Int.lt_of_lt_of_le (show (1 : Int) < wB 1 by decide) (wB_le h)
theorem w4_mi {fo go ab be fc tg ze po kn so : Int → Int} {n : Int} : mi_ok fo go ab be fc tg ze po kn so 0 n w4_sz := by
  refine ⟨(), fun h => absurd rfl h, fun s h1 h2 => ⟨?_, ?_⟩, ?_, ?_⟩
  · exact Int.lt_of_le_of_lt (w4_s1 _) (w4_B (by decide))
  · exact Int.lt_of_le_of_lt (w4_s1 _) (w4_B (by decide))
  · rw [w4_s0 (by omega)]
    unfold w4_sz
    split <;> omega
  · exact Int.lt_of_le_of_lt (w4_s1 _) (w4_B (by decide))
