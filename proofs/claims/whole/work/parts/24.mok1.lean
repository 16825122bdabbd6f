/-! the longest methods: their code's word by reduction, not by decision -/
def pg_mokr (cl : List vw_C) (G : mm_G) (yn : Nat → MethodName) (hh : Nat → List (Nat × Nat × Nat × Nat)) (wm : pg_Wm) (g : Nat) : Bool :=
  pg_has (wm g).2.1 (.initialized (yn g).cls) && decide (mm_nl G g ≤ 40) && decide ((yn g).cls ≠ "java/lang/invoke/MethodHandle") && decide ((yn g).cls ≠ "java/lang/invoke/VarHandle") &&
    (if mm_stc G g = true then pg_has (wm g).2.2.1 (.static (yn g)) && decide ((parseMethodDescriptor (yn g).desc).map (fun d => d.parameters.length) = some (mm_na' G g))
     else decide (hh g = []) && pg_has (wm g).2.2.1 (.instanceMethod (yn g)) && decide ((parseMethodDescriptor (yn g).desc).map (fun d => d.parameters.length + 1) = some (mm_na' G g)) &&
       (if mm_ini G g = true then decide ((yn g).name = "<init>") && decide (mm_rt G g = none) else match cl[mm_oc G g]? with
         | some r => pg_has (wm g).2.2.2 (.selects r.1 (yn g) (yn g))
         | none => false))
theorem pg_mok_i {cl : List vw_C} {G : mm_G} {yn : Nat → MethodName} {cc : Nat → ByteArray} {hh : Nat → List (Nat × Nat × Nat × Nat)} {wm : pg_Wm} {g i : Nat} (hi : (wm g).1 = i) (h1 : lw_tbl[i]? = some (mm_cw yn cc hh G g)) (h2 : pg_gd (mm_cw yn cc hh G g) = true) (h3 : pg_mokr cl G yn hh wm g = true) : pg_mok cl G yn cc hh wm g = true := by
  unfold pg_mokr at h3
  unfold pg_mok
  have h : pg_has (wm g).1 (mm_cw yn cc hh G g) = true := by
    unfold pg_has
    rw [Bool.and_eq_true, hi]
    exact ⟨decide_eq_true h1, h2⟩
  rw [h, Bool.true_and]
  exact h3
theorem pgm_64 : pg_mok pg_cl pg_G pg_yn pg_cc pg_hh pg_wm 64 = true := pg_mok_i (i := 1667) rfl rfl rfl (by decide +kernel)
theorem pgm_82 : pg_mok pg_cl pg_G pg_yn pg_cc pg_hh pg_wm 82 = true := pg_mok_i (i := 2269) rfl rfl rfl (by decide +kernel)
theorem pgm_86 : pg_mok pg_cl pg_G pg_yn pg_cc pg_hh pg_wm 86 = true := pg_mok_i (i := 2388) rfl rfl rfl (by decide +kernel)
