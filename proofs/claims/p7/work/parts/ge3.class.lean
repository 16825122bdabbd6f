/-! the class after the constructors -/
def w3_one (i : Int) : Bool := false
def w3_sz (i : Int) : Int := if i = 768 ∨ i = 787 then 1 else 0
def w3_sc : List Int := [0, 0, 0, 0, 0, 0, 0, 0, 0, 0, 0, 0, 0, 0, 0, 0, 0, 0, 0, 0, 0, -1, 0, 0, 0, 0, 0, 0]
def w3_ff : List (Int → Int) := [w3_sz, fun _ => 0, fun _ => 0, fun _ => 0]
def w3_Z : hw_Z := ck_Z w3_sc 40 w3_ff 1 w3_one
noncomputable def w3_ck (a : Nat) : Bool := match fx_look fl_T1 a with
  | some c => ck_c w3_k w3_ob hv_rm w3_sc 40 w3_ff 1 w3_one (w3_k a).2 (hv_KT (w3_k a).1) c
  | none => false
set_option maxRecDepth 100000 in
theorem w3_c1 : ck_all 0 1654 w3_ck = true := by decide +kernel
set_option maxRecDepth 100000 in
theorem w3_c2 : ck_all 0 1654 (fun a => Nat.beq (w3_in (w3_k a)) a) = true := by decide +kernel
set_option maxRecDepth 100000 in
theorem w3_c3 : ck_all 0 66 (fun k => ck_su w3_U w3_V k (hv_KT k)) = true := by decide +kernel
set_option maxRecDepth 100000 in
theorem w3_c4 : ck_all 0 1654 (fun a => Nat.blt (w3_k a).1 66 && (!(ck_one w3_U (hv_KT (w3_k a).1)) || decide ((w3_k a).2 = 0))) = true := by decide +kernel
theorem w3_in_ob {a : Nat} (h : w3_ob a = true) : 0 ≤ a ∧ a < 0 + 1654 := by
  unfold w3_ob at h
  rw [Bool.and_eq_true] at h
  have h1 := Nat.le_of_ble_eq_true h.1
  have h2 : a + 1 ≤ 1654 := Nat.le_of_ble_eq_true h.2
  omega
noncomputable abbrev w3_T : hw_T := hv_T w3_k (fun a => w3_ob a = true)
theorem w3_RS (t : Nat) : hw_RS w3_T w3_Z (3297, t, fx_mem fl_T1) := by
  refine ck_RS (KT := hv_KT) (by decide) (fun a ha => ?_)
  have h0 := w3_in_ob ha
  have h1 := ck_all_ok w3_c1 h0.1 h0.2
  refine ⟨by omega, ?_⟩
  unfold w3_ck at h1
  split at h1
  · rename_i c hc
    exact ⟨c, hc, h1⟩
  · cases h1
theorem w3_HU : hw_U w3_T := by
  refine ck_U (KT := hv_KT) (kof := w3_k) (ob := w3_ob) (rm := hv_rm) (U := w3_U) (V := w3_V) (inv := w3_in) (fun i => ?_) (fun a ha => ?_) (fun a ha => ?_) (fun a ha h => ?_)
  · have := hv_rm_b i
    omega
  · have h0 := w3_in_ob ha
    exact Nat.eq_of_beq_eq_true (ck_all_ok w3_c2 h0.1 h0.2)
  · have h0 := w3_in_ob ha
    have h1 := ck_all_ok w3_c4 h0.1 h0.2
    rw [Bool.and_eq_true] at h1
    have h2 : (w3_k a).1 + 1 ≤ 66 := Nat.le_of_ble_eq_true h1.1
    exact ck_all_ok (P := fun k => ck_su w3_U w3_V k (hv_KT k)) w3_c3 (Nat.zero_le _) (by omega)
  · have h0 := w3_in_ob ha
    have h1 := ck_all_ok w3_c4 h0.1 h0.2
    rw [Bool.and_eq_true, h] at h1
    exact of_decide_eq_true h1.2
theorem w3_I {g : Int → Int} : hv_I 0 g none none w3_Z := ⟨0, 0, 0, 0, 0, 0, 0, 0, 0, 0, 0, 0, 0, 0, 0, 0, 0, 0, 0, 0, -1, 0, 0, 0, 0, 0, 0, fun _ => 0, fun _ => 0, fun _ => 0, fun _ => 0, fun _ => 0, fun _ => 0, fun _ => 0, fun _ => 0, fun _ => 0, fun _ => 0, fun _ => 0, fun _ => 0, fun _ => 0, fun _ => 0, fun _ => 0, fun _ => 0, fun _ => 0, fun _ => 0, fun _ => 0, fun _ => 0, fun _ => 0, fun _ => 0, fun _ => 0, fun _ => 0, fun _ => 0, fun _ => 0, fun _ => 0, fun _ => 0, fun _ => 0, fun _ => 0, fun _ => 0, fun _ => 0, fun _ => 0, fun _ => 0, fun _ => 0, fun _ => 0, fun _ => 0, fun _ => 0, fun _ => 0, fun _ => 0, w3_sz, fun _ => 0, fun _ => 0, fun _ => 0, ck_g w3_one, rfl, ⟨(), fun h => absurd rfl h, fun a _ _ => ⟨fun h => absurd rfl h, fun h => absurd rfl h⟩⟩, oc_0, cDo_n, cYo_n⟩
