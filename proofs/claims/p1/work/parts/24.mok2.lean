/-! the program keeps what the small machine asks -/
theorem pg_mall : ∀ g, 1 ≤ g → g ≤ 96 → pg_mok pg_cl pg_G pg_yn pg_cc pg_hh pg_wm g = true := by
  intro g h1 h2
  match g, h1, h2 with
  | 1, _, _ => exact pgm_1
  | 2, _, _ => exact pgm_2
  | 3, _, _ => exact pgm_3
  | 4, _, _ => exact pgm_4
  | 5, _, _ => exact pgm_5
  | 6, _, _ => exact pgm_6
  | 7, _, _ => exact pgm_7
  | 8, _, _ => exact pgm_8
  | 9, _, _ => exact pgm_9
  | 10, _, _ => exact pgm_10
  | 11, _, _ => exact pgm_11
  | 12, _, _ => exact pgm_12
  | 13, _, _ => exact pgm_13
  | 14, _, _ => exact pgm_14
  | 15, _, _ => exact pgm_15
  | 16, _, _ => exact pgm_16
  | 17, _, _ => exact pgm_17
  | 18, _, _ => exact pgm_18
  | 19, _, _ => exact pgm_19
  | 20, _, _ => exact pgm_20
  | 21, _, _ => exact pgm_21
  | 22, _, _ => exact pgm_22
  | 23, _, _ => exact pgm_23
  | 24, _, _ => exact pgm_24
  | 25, _, _ => exact pgm_25
  | 26, _, _ => exact pgm_26
  | 27, _, _ => exact pgm_27
  | 28, _, _ => exact pgm_28
  | 29, _, _ => exact pgm_29
  | 30, _, _ => exact pgm_30
  | 31, _, _ => exact pgm_31
  | 32, _, _ => exact pgm_32
  | 33, _, _ => exact pgm_33
  | 34, _, _ => exact pgm_34
  | 35, _, _ => exact pgm_35
  | 36, _, _ => exact pgm_36
  | 37, _, _ => exact pgm_37
  | 38, _, _ => exact pgm_38
  | 39, _, _ => exact pgm_39
  | 40, _, _ => exact pgm_40
  | 41, _, _ => exact pgm_41
  | 42, _, _ => exact pgm_42
  | 43, _, _ => exact pgm_43
  | 44, _, _ => exact pgm_44
  | 45, _, _ => exact pgm_45
  | 46, _, _ => exact pgm_46
  | 47, _, _ => exact pgm_47
  | 48, _, _ => exact pgm_48
  | 49, _, _ => exact pgm_49
  | 50, _, _ => exact pgm_50
  | 51, _, _ => exact pgm_51
  | 52, _, _ => exact pgm_52
  | 53, _, _ => exact pgm_53
  | 54, _, _ => exact pgm_54
  | 55, _, _ => exact pgm_55
  | 56, _, _ => exact pgm_56
  | 57, _, _ => exact pgm_57
  | 58, _, _ => exact pgm_58
  | 59, _, _ => exact pgm_59
  | 60, _, _ => exact pgm_60
  | 61, _, _ => exact pgm_61
  | 62, _, _ => exact pgm_62
  | 63, _, _ => exact pgm_63
  | 64, _, _ => exact pgm_64
  | 65, _, _ => exact pgm_65
  | 66, _, _ => exact pgm_66
  | 67, _, _ => exact pgm_67
  | 68, _, _ => exact pgm_68
  | 69, _, _ => exact pgm_69
  | 70, _, _ => exact pgm_70
  | 71, _, _ => exact pgm_71
  | 72, _, _ => exact pgm_72
  | 73, _, _ => exact pgm_73
  | 74, _, _ => exact pgm_74
  | 75, _, _ => exact pgm_75
  | 76, _, _ => exact pgm_76
  | 77, _, _ => exact pgm_77
  | 78, _, _ => exact pgm_78
  | 79, _, _ => exact pgm_79
  | 80, _, _ => exact pgm_80
  | 81, _, _ => exact pgm_81
  | 82, _, _ => exact pgm_82
  | 83, _, _ => exact pgm_83
  | 84, _, _ => exact pgm_84
  | 85, _, _ => exact pgm_85
  | 86, _, _ => exact pgm_86
  | 87, _, _ => exact pgm_87
  | 88, _, _ => exact pgm_88
  | 89, _, _ => exact pgm_89
  | 90, _, _ => exact pgm_90
  | 91, _, _ => exact pgm_91
  | 92, _, _ => exact pgm_92
  | 93, _, _ => exact pgm_93
  | 94, _, _ => exact pgm_94
  | 95, _, _ => exact pgm_95
  | 96, _, _ => exact pgm_96
  | g + 97, _, h2 => exact absurd h2 (by omega)
def pg_ml (pl : List pg_Row) : Bool := pl.all (fun q => match q.2.1 with | .inr (.inl g) => decide (g ≤ 96) | _ => true)
theorem pg_mle {pl : List pg_Row} (h : pg_ml pl = true) : ∀ g w x, (x, (.inr (.inl (g + 1)) : mm_P), w) ∈ pl → pg_mok pg_cl pg_G pg_yn pg_cc pg_hh pg_wm (g + 1) = true := by
  intro g w x hm
  have h1 := List.all_eq_true.mp h _ hm
  dsimp only at h1
  rw [decide_eq_true_eq] at h1
  exact pg_mall _ (Nat.succ_le_succ (Nat.zero_le _)) h1
theorem pgp_0 : pgP_0.all (pg_row pg_cl pg_aT pg_TT pg_yn pg_wc "MarkovDesk" 0) = true := by decide +kernel
theorem pgq_0 : pg_ml pgP_0 = true := by decide +kernel
theorem pgp_1 : pgP_1.all (pg_row pg_cl pg_aT pg_TT pg_yn pg_wc "MarkovDesk$Answer" 1) = true := by decide +kernel
theorem pgq_1 : pg_ml pgP_1 = true := by decide +kernel
theorem pgp_2 : pgP_2.all (pg_row pg_cl pg_aT pg_TT pg_yn pg_wc "MarkovDesk$Equations" 2) = true := by decide +kernel
theorem pgq_2 : pg_ml pgP_2 = true := by decide +kernel
theorem pgp_3 : pgP_3.all (pg_row pg_cl pg_aT pg_TT pg_yn pg_wc "MarkovDesk$Machine" 3) = true := by decide +kernel
theorem pgq_3 : pg_ml pgP_3 = true := by decide +kernel
theorem pgp_4 : pgP_4.all (pg_row pg_cl pg_aT pg_TT pg_yn pg_wc "MarkovDesk$Model" 4) = true := by decide +kernel
theorem pgq_4 : pg_ml pgP_4 = true := by decide +kernel
theorem pgp_5 : pgP_5.all (pg_row pg_cl pg_aT pg_TT pg_yn pg_wc "MarkovDesk$Nat" 5) = true := by decide +kernel
theorem pgq_5 : pg_ml pgP_5 = true := by decide +kernel
theorem pgp_6 : pgP_6.all (pg_row pg_cl pg_aT pg_TT pg_yn pg_wc "MarkovDesk$Planner" 6) = true := by decide +kernel
theorem pgq_6 : pg_ml pgP_6 = true := by decide +kernel
theorem pgp_7 : pgP_7.all (pg_row pg_cl pg_aT pg_TT pg_yn pg_wc "MarkovDesk$Ratio" 7) = true := by decide +kernel
theorem pgq_7 : pg_ml pgP_7 = true := by decide +kernel
theorem pgp_8 : pgP_8.all (pg_row pg_cl pg_aT pg_TT pg_yn pg_wc "MarkovDesk$Reader" 8) = true := by decide +kernel
theorem pgq_8 : pg_ml pgP_8 = true := by decide +kernel
theorem pgp_9 : pgP_9.all (pg_row pg_cl pg_aT pg_TT pg_yn pg_wc "MarkovDesk$Space" 9) = true := by decide +kernel
theorem pgq_9 : pg_ml pgP_9 = true := by decide +kernel
theorem pgp_10 : pgP_10.all (pg_row pg_cl pg_aT pg_TT pg_yn pg_wc "MarkovDesk$Tokens" 10) = true := by decide +kernel
theorem pgq_10 : pg_ml pgP_10 = true := by decide +kernel
theorem pgp_11 : pgP_11.all (pg_row pg_cl pg_aT pg_TT pg_yn pg_wc "MarkovDesk$Walk" 11) = true := by decide +kernel
theorem pgq_11 : pg_ml pgP_11 = true := by decide +kernel
theorem pgp_12 : pgP_12.all (pg_row pg_cl pg_aT pg_TT pg_yn pg_wc "MarkovDeskLaw" 999) = true := by decide +kernel
theorem pgq_12 : pg_ml pgP_12 = true := by decide +kernel
theorem pgp_13 : pgP_13.all (pg_row pg_cl pg_aT pg_TT pg_yn pg_wc "MarkovDeskModel" 12) = true := by decide +kernel
theorem pgq_13 : pg_ml pgP_13 = true := by decide +kernel
theorem pgp_14 : pgP_14.all (pg_row pg_cl pg_aT pg_TT pg_yn pg_wc "MarkovDeskModel$Whole" 13) = true := by decide +kernel
theorem pgq_14 : pg_ml pgP_14 = true := by decide +kernel
theorem pgp_15 : pgP_15.all (pg_row pg_cl pg_aT pg_TT pg_yn pg_wc "java/lang/Integer" 999) = true := by decide +kernel
theorem pgq_15 : pg_ml pgP_15 = true := by decide +kernel
theorem pgp_16 : pgP_16.all (pg_row pg_cl pg_aT pg_TT pg_yn pg_wc "java/lang/Math" 999) = true := by decide +kernel
theorem pgq_16 : pg_ml pgP_16 = true := by decide +kernel
theorem pg_MOK : ∀ g en, mm_code pg_G g 0 = some en → mm_MOK pg_Ts pg_cl pg_aT pg_TT pg_G pg_yn pg_cc pg_hh pg_own g := by
  intro g en hen
  match g, hen with
  | 0, hen => cases hen
  | 1, _ => exact ⟨pg_code_ok pgc_1, pg_pl pgp_0, pg_mp (f := 1) (oc := 0) rfl pgp_0 pg_oi (pg_mle pgq_0), by decide +kernel, rfl, by decide +kernel⟩
  | 2, _ => exact ⟨pg_code_ok pgc_2, pg_pl pgp_3, pg_mp (f := 2) (oc := 3) rfl pgp_3 pg_oi (pg_mle pgq_3), by decide +kernel, rfl, by decide +kernel⟩
  | 3, _ => exact ⟨pg_code_ok pgc_3, pg_pl pgp_10, pg_mp (f := 3) (oc := 10) rfl pgp_10 pg_oi (pg_mle pgq_10), by decide +kernel, rfl, by decide +kernel⟩
  | 4, _ => exact ⟨pg_code_ok pgc_4, pg_pl pgp_4, pg_mp (f := 4) (oc := 4) rfl pgp_4 pg_oi (pg_mle pgq_4), by decide +kernel, rfl, by decide +kernel⟩
  | 5, _ => exact ⟨pg_code_ok pgc_5, pg_pl pgp_8, pg_mp (f := 5) (oc := 8) rfl pgp_8 pg_oi (pg_mle pgq_8), by decide +kernel, rfl, by decide +kernel⟩
  | 6, _ => exact ⟨pg_code_ok pgc_6, pg_pl pgp_9, pg_mp (f := 6) (oc := 9) rfl pgp_9 pg_oi (pg_mle pgq_9), by decide +kernel, rfl, by decide +kernel⟩
  | 7, _ => exact ⟨pg_code_ok pgc_7, pg_pl pgp_6, pg_mp (f := 7) (oc := 6) rfl pgp_6 pg_oi (pg_mle pgq_6), by decide +kernel, rfl, by decide +kernel⟩
  | 8, _ => exact ⟨pg_code_ok pgc_8, pg_pl pgp_2, pg_mp (f := 8) (oc := 2) rfl pgp_2 pg_oi (pg_mle pgq_2), by decide +kernel, rfl, by decide +kernel⟩
  | 9, _ => exact ⟨pg_code_ok pgc_9, pg_pl pgp_5, pg_mp (f := 9) (oc := 5) rfl pgp_5 pg_oi (pg_mle pgq_5), by decide +kernel, rfl, by decide +kernel⟩
  | 10, _ => exact ⟨pg_code_ok pgc_10, pg_pl pgp_16, pg_mp (f := 10) (oc := 999) rfl pgp_16 pg_oi (pg_mle pgq_16), by decide +kernel, rfl, by decide +kernel⟩
  | 11, _ => exact ⟨pg_code_ok pgc_11, pg_pl pgp_5, pg_mp (f := 11) (oc := 5) rfl pgp_5 pg_oi (pg_mle pgq_5), by decide +kernel, rfl, by decide +kernel⟩
  | 12, _ => exact ⟨pg_code_ok pgc_12, pg_pl pgp_1, pg_mp (f := 12) (oc := 1) rfl pgp_1 pg_oi (pg_mle pgq_1), by decide +kernel, rfl, by decide +kernel⟩
  | 13, _ => exact ⟨pg_code_ok pgc_13, pg_pl pgp_11, pg_mp (f := 13) (oc := 11) rfl pgp_11 pg_oi (pg_mle pgq_11), by decide +kernel, rfl, by decide +kernel⟩
  | 14, _ => exact ⟨pg_code_ok pgc_14, pg_pl pgp_7, pg_mp (f := 14) (oc := 7) rfl pgp_7 pg_oi (pg_mle pgq_7), by decide +kernel, rfl, by decide +kernel⟩
  | 15, _ => exact ⟨pg_code_ok pgc_15, pg_pl pgp_0, pg_mp (f := 15) (oc := 0) rfl pgp_0 pg_oi (pg_mle pgq_0), by decide +kernel, rfl, by decide +kernel⟩
  | 16, _ => exact ⟨pg_code_ok pgc_16, pg_pl pgp_0, pg_mp (f := 16) (oc := 0) rfl pgp_0 pg_oi (pg_mle pgq_0), by decide +kernel, rfl, by decide +kernel⟩
  | 17, _ => exact ⟨pg_code_ok pgc_17, pg_pl pgp_5, pg_mp (f := 17) (oc := 5) rfl pgp_5 pg_oi (pg_mle pgq_5), by decide +kernel, rfl, by decide +kernel⟩
  | 18, _ => exact ⟨pg_code_ok pgc_18, pg_pl pgp_5, pg_mp (f := 18) (oc := 5) rfl pgp_5 pg_oi (pg_mle pgq_5), by decide +kernel, rfl, by decide +kernel⟩
  | 19, _ => exact ⟨pg_code_ok pgc_19, pg_pl pgp_15, pg_mp (f := 19) (oc := 999) rfl pgp_15 pg_oi (pg_mle pgq_15), by decide +kernel, rfl, by decide +kernel⟩
  | 20, _ => exact ⟨pg_code_ok pgc_20, pg_pl pgp_12, pg_mp (f := 20) (oc := 999) rfl pgp_12 pg_oi (pg_mle pgq_12), by decide +kernel, rfl, by decide +kernel⟩
  | 21, _ => exact ⟨pg_code_ok pgc_21, pg_pl pgp_0, pg_mp (f := 21) (oc := 0) rfl pgp_0 pg_oi (pg_mle pgq_0), by decide +kernel, rfl, by decide +kernel⟩
  | 22, _ => exact ⟨pg_code_ok pgc_22, pg_pl pgp_10, pg_mp (f := 22) (oc := 10) rfl pgp_10 pg_oi (pg_mle pgq_10), by decide +kernel, rfl, by decide +kernel⟩
  | 23, _ => exact ⟨pg_code_ok pgc_23, pg_pl pgp_12, pg_mp (f := 23) (oc := 999) rfl pgp_12 pg_oi (pg_mle pgq_12), by decide +kernel, rfl, by decide +kernel⟩
  | 24, _ => exact ⟨pg_code_ok pgc_24, pg_pl pgp_0, pg_mp (f := 24) (oc := 0) rfl pgp_0 pg_oi (pg_mle pgq_0), by decide +kernel, rfl, by decide +kernel⟩
  | 25, _ => exact ⟨pg_code_ok pgc_25, pg_pl pgp_0, pg_mp (f := 25) (oc := 0) rfl pgp_0 pg_oi (pg_mle pgq_0), by decide +kernel, rfl, by decide +kernel⟩
  | 26, _ => exact ⟨pg_code_ok pgc_26, pg_pl pgp_1, pg_mp (f := 26) (oc := 1) rfl pgp_1 pg_oi (pg_mle pgq_1), by decide +kernel, rfl, by decide +kernel⟩
  | 27, _ => exact ⟨pg_code_ok pgc_27, pg_pl pgp_8, pg_mp (f := 27) (oc := 8) rfl pgp_8 pg_oi (pg_mle pgq_8), by decide +kernel, rfl, by decide +kernel⟩
  | 28, _ => exact ⟨pg_code_ok pgc_28, pg_pl pgp_4, pg_mp (f := 28) (oc := 4) rfl pgp_4 pg_oi (pg_mle pgq_4), by decide +kernel, rfl, by decide +kernel⟩
  | 29, _ => exact ⟨pg_code_ok pgc_29, pg_pl pgp_10, pg_mp (f := 29) (oc := 10) rfl pgp_10 pg_oi (pg_mle pgq_10), by decide +kernel, rfl, by decide +kernel⟩
  | 30, _ => exact ⟨pg_code_ok pgc_30, pg_pl pgp_8, pg_mp (f := 30) (oc := 8) rfl pgp_8 pg_oi (pg_mle pgq_8), by decide +kernel, rfl, by decide +kernel⟩
  | 31, _ => exact ⟨pg_code_ok pgc_31, pg_pl pgp_10, pg_mp (f := 31) (oc := 10) rfl pgp_10 pg_oi (pg_mle pgq_10), by decide +kernel, rfl, by decide +kernel⟩
  | 32, _ => exact ⟨pg_code_ok pgc_32, pg_pl pgp_16, pg_mp (f := 32) (oc := 999) rfl pgp_16 pg_oi (pg_mle pgq_16), by decide +kernel, rfl, by decide +kernel⟩
  | 33, _ => exact ⟨pg_code_ok pgc_33, pg_pl pgp_10, pg_mp (f := 33) (oc := 10) rfl pgp_10 pg_oi (pg_mle pgq_10), by decide +kernel, rfl, by decide +kernel⟩
  | 34, _ => exact ⟨pg_code_ok pgc_34, pg_pl pgp_10, pg_mp (f := 34) (oc := 10) rfl pgp_10 pg_oi (pg_mle pgq_10), by decide +kernel, rfl, by decide +kernel⟩
  | 35, _ => exact ⟨pg_code_ok pgc_35, pg_pl pgp_10, pg_mp (f := 35) (oc := 10) rfl pgp_10 pg_oi (pg_mle pgq_10), by decide +kernel, rfl, by decide +kernel⟩
  | 36, _ => exact ⟨pg_code_ok pgc_36, pg_pl pgp_8, pg_mp (f := 36) (oc := 8) rfl pgp_8 pg_oi (pg_mle pgq_8), by decide +kernel, rfl, by decide +kernel⟩
  | 37, _ => exact ⟨pg_code_ok pgc_37, pg_pl pgp_8, pg_mp (f := 37) (oc := 8) rfl pgp_8 pg_oi (pg_mle pgq_8), by decide +kernel, rfl, by decide +kernel⟩
  | 38, _ => exact ⟨pg_code_ok pgc_38, pg_pl pgp_8, pg_mp (f := 38) (oc := 8) rfl pgp_8 pg_oi (pg_mle pgq_8), by decide +kernel, rfl, by decide +kernel⟩
  | 39, _ => exact ⟨pg_code_ok pgc_39, pg_pl pgp_8, pg_mp (f := 39) (oc := 8) rfl pgp_8 pg_oi (pg_mle pgq_8), by decide +kernel, rfl, by decide +kernel⟩
  | 40, _ => exact ⟨pg_code_ok pgc_40, pg_pl pgp_12, pg_mp (f := 40) (oc := 999) rfl pgp_12 pg_oi (pg_mle pgq_12), by decide +kernel, rfl, by decide +kernel⟩
  | 41, _ => exact ⟨pg_code_ok pgc_41, pg_pl pgp_0, pg_mp (f := 41) (oc := 0) rfl pgp_0 pg_oi (pg_mle pgq_0), by decide +kernel, rfl, by decide +kernel⟩
  | 42, _ => exact ⟨pg_code_ok pgc_42, pg_pl pgp_12, pg_mp (f := 42) (oc := 999) rfl pgp_12 pg_oi (pg_mle pgq_12), by decide +kernel, rfl, by decide +kernel⟩
  | 43, _ => exact ⟨pg_code_ok pgc_43, pg_pl pgp_0, pg_mp (f := 43) (oc := 0) rfl pgp_0 pg_oi (pg_mle pgq_0), by decide +kernel, rfl, by decide +kernel⟩
  | 44, _ => exact ⟨pg_code_ok pgc_44, pg_pl pgp_12, pg_mp (f := 44) (oc := 999) rfl pgp_12 pg_oi (pg_mle pgq_12), by decide +kernel, rfl, by decide +kernel⟩
  | 45, _ => exact ⟨pg_code_ok pgc_45, pg_pl pgp_0, pg_mp (f := 45) (oc := 0) rfl pgp_0 pg_oi (pg_mle pgq_0), by decide +kernel, rfl, by decide +kernel⟩
  | 46, _ => exact ⟨pg_code_ok pgc_46, pg_pl pgp_0, pg_mp (f := 46) (oc := 0) rfl pgp_0 pg_oi (pg_mle pgq_0), by decide +kernel, rfl, by decide +kernel⟩
  | 47, _ => exact ⟨pg_code_ok pgc_47, pg_pl pgp_12, pg_mp (f := 47) (oc := 999) rfl pgp_12 pg_oi (pg_mle pgq_12), by decide +kernel, rfl, by decide +kernel⟩
  | 48, _ => exact ⟨pg_code_ok pgc_48, pg_pl pgp_0, pg_mp (f := 48) (oc := 0) rfl pgp_0 pg_oi (pg_mle pgq_0), by decide +kernel, rfl, by decide +kernel⟩
  | 49, _ => exact ⟨pg_code_ok pgc_49, pg_pl pgp_12, pg_mp (f := 49) (oc := 999) rfl pgp_12 pg_oi (pg_mle pgq_12), by decide +kernel, rfl, by decide +kernel⟩
  | 50, _ => exact ⟨pg_code_ok pgc_50, pg_pl pgp_0, pg_mp (f := 50) (oc := 0) rfl pgp_0 pg_oi (pg_mle pgq_0), by decide +kernel, rfl, by decide +kernel⟩
  | 51, _ => exact ⟨pg_code_ok pgc_51, pg_pl pgp_0, pg_mp (f := 51) (oc := 0) rfl pgp_0 pg_oi (pg_mle pgq_0), by decide +kernel, rfl, by decide +kernel⟩
  | 52, _ => exact ⟨pg_code_ok pgc_52, pg_pl pgp_12, pg_mp (f := 52) (oc := 999) rfl pgp_12 pg_oi (pg_mle pgq_12), by decide +kernel, rfl, by decide +kernel⟩
  | 53, _ => exact ⟨pg_code_ok pgc_53, pg_pl pgp_0, pg_mp (f := 53) (oc := 0) rfl pgp_0 pg_oi (pg_mle pgq_0), by decide +kernel, rfl, by decide +kernel⟩
  | 54, _ => exact ⟨pg_code_ok pgc_54, pg_pl pgp_12, pg_mp (f := 54) (oc := 999) rfl pgp_12 pg_oi (pg_mle pgq_12), by decide +kernel, rfl, by decide +kernel⟩
  | 55, _ => exact ⟨pg_code_ok pgc_55, pg_pl pgp_0, pg_mp (f := 55) (oc := 0) rfl pgp_0 pg_oi (pg_mle pgq_0), by decide +kernel, rfl, by decide +kernel⟩
  | 56, _ => exact ⟨pg_code_ok pgc_56, pg_pl pgp_12, pg_mp (f := 56) (oc := 999) rfl pgp_12 pg_oi (pg_mle pgq_12), by decide +kernel, rfl, by decide +kernel⟩
  | 57, _ => exact ⟨pg_code_ok pgc_57, pg_pl pgp_0, pg_mp (f := 57) (oc := 0) rfl pgp_0 pg_oi (pg_mle pgq_0), by decide +kernel, rfl, by decide +kernel⟩
  | 58, _ => exact ⟨pg_code_ok pgc_58, pg_pl pgp_12, pg_mp (f := 58) (oc := 999) rfl pgp_12 pg_oi (pg_mle pgq_12), by decide +kernel, rfl, by decide +kernel⟩
  | 59, _ => exact ⟨pg_code_ok pgc_59, pg_pl pgp_0, pg_mp (f := 59) (oc := 0) rfl pgp_0 pg_oi (pg_mle pgq_0), by decide +kernel, rfl, by decide +kernel⟩
  | 60, _ => exact ⟨pg_code_ok pgc_60, pg_pl pgp_12, pg_mp (f := 60) (oc := 999) rfl pgp_12 pg_oi (pg_mle pgq_12), by decide +kernel, rfl, by decide +kernel⟩
  | 61, _ => exact ⟨pg_code_ok pgc_61, pg_pl pgp_0, pg_mp (f := 61) (oc := 0) rfl pgp_0 pg_oi (pg_mle pgq_0), by decide +kernel, rfl, by decide +kernel⟩
  | 62, _ => exact ⟨pg_code_ok pgc_62, pg_pl pgp_12, pg_mp (f := 62) (oc := 999) rfl pgp_12 pg_oi (pg_mle pgq_12), by decide +kernel, rfl, by decide +kernel⟩
  | 63, _ => exact ⟨pg_code_ok pgc_63, pg_pl pgp_0, pg_mp (f := 63) (oc := 0) rfl pgp_0 pg_oi (pg_mle pgq_0), by decide +kernel, rfl, by decide +kernel⟩
  | 64, _ => exact ⟨pg_code_ok pgc_64, pg_pl pgp_13, pg_mp (f := 64) (oc := 12) rfl pgp_13 pg_oi (pg_mle pgq_13), by decide +kernel, rfl, by decide +kernel⟩
  | 65, _ => exact ⟨pg_code_ok pgc_65, pg_pl pgp_14, pg_mp (f := 65) (oc := 13) rfl pgp_14 pg_oi (pg_mle pgq_14), by decide +kernel, rfl, by decide +kernel⟩
  | 66, _ => exact ⟨pg_code_ok pgc_66, pg_pl pgp_13, pg_mp (f := 66) (oc := 12) rfl pgp_13 pg_oi (pg_mle pgq_13), by decide +kernel, rfl, by decide +kernel⟩
  | 67, _ => exact ⟨pg_code_ok pgc_67, pg_pl pgp_14, pg_mp (f := 67) (oc := 13) rfl pgp_14 pg_oi (pg_mle pgq_14), by decide +kernel, rfl, by decide +kernel⟩
  | 68, _ => exact ⟨pg_code_ok pgc_68, pg_pl pgp_14, pg_mp (f := 68) (oc := 13) rfl pgp_14 pg_oi (pg_mle pgq_14), by decide +kernel, rfl, by decide +kernel⟩
  | 69, _ => exact ⟨pg_code_ok pgc_69, pg_pl pgp_13, pg_mp (f := 69) (oc := 12) rfl pgp_13 pg_oi (pg_mle pgq_13), by decide +kernel, rfl, by decide +kernel⟩
  | 70, _ => exact ⟨pg_code_ok pgc_70, pg_pl pgp_13, pg_mp (f := 70) (oc := 12) rfl pgp_13 pg_oi (pg_mle pgq_13), by decide +kernel, rfl, by decide +kernel⟩
  | 71, _ => exact ⟨pg_code_ok pgc_71, pg_pl pgp_13, pg_mp (f := 71) (oc := 12) rfl pgp_13 pg_oi (pg_mle pgq_13), by decide +kernel, rfl, by decide +kernel⟩
  | 72, _ => exact ⟨pg_code_ok pgc_72, pg_pl pgp_13, pg_mp (f := 72) (oc := 12) rfl pgp_13 pg_oi (pg_mle pgq_13), by decide +kernel, rfl, by decide +kernel⟩
  | 73, _ => exact ⟨pg_code_ok pgc_73, pg_pl pgp_13, pg_mp (f := 73) (oc := 12) rfl pgp_13 pg_oi (pg_mle pgq_13), by decide +kernel, rfl, by decide +kernel⟩
  | 74, _ => exact ⟨pg_code_ok pgc_74, pg_pl pgp_13, pg_mp (f := 74) (oc := 12) rfl pgp_13 pg_oi (pg_mle pgq_13), by decide +kernel, rfl, by decide +kernel⟩
  | 75, _ => exact ⟨pg_code_ok pgc_75, pg_pl pgp_13, pg_mp (f := 75) (oc := 12) rfl pgp_13 pg_oi (pg_mle pgq_13), by decide +kernel, rfl, by decide +kernel⟩
  | 76, _ => exact ⟨pg_code_ok pgc_76, pg_pl pgp_13, pg_mp (f := 76) (oc := 12) rfl pgp_13 pg_oi (pg_mle pgq_13), by decide +kernel, rfl, by decide +kernel⟩
  | 77, _ => exact ⟨pg_code_ok pgc_77, pg_pl pgp_13, pg_mp (f := 77) (oc := 12) rfl pgp_13 pg_oi (pg_mle pgq_13), by decide +kernel, rfl, by decide +kernel⟩
  | 78, _ => exact ⟨pg_code_ok pgc_78, pg_pl pgp_13, pg_mp (f := 78) (oc := 12) rfl pgp_13 pg_oi (pg_mle pgq_13), by decide +kernel, rfl, by decide +kernel⟩
  | 79, _ => exact ⟨pg_code_ok pgc_79, pg_pl pgp_13, pg_mp (f := 79) (oc := 12) rfl pgp_13 pg_oi (pg_mle pgq_13), by decide +kernel, rfl, by decide +kernel⟩
  | 80, _ => exact ⟨pg_code_ok pgc_80, pg_pl pgp_13, pg_mp (f := 80) (oc := 12) rfl pgp_13 pg_oi (pg_mle pgq_13), by decide +kernel, rfl, by decide +kernel⟩
  | 81, _ => exact ⟨pg_code_ok pgc_81, pg_pl pgp_13, pg_mp (f := 81) (oc := 12) rfl pgp_13 pg_oi (pg_mle pgq_13), by decide +kernel, rfl, by decide +kernel⟩
  | 82, _ => exact ⟨pg_code_ok pgc_82, pg_pl pgp_13, pg_mp (f := 82) (oc := 12) rfl pgp_13 pg_oi (pg_mle pgq_13), by decide +kernel, rfl, by decide +kernel⟩
  | 83, _ => exact ⟨pg_code_ok pgc_83, pg_pl pgp_13, pg_mp (f := 83) (oc := 12) rfl pgp_13 pg_oi (pg_mle pgq_13), by decide +kernel, rfl, by decide +kernel⟩
  | 84, _ => exact ⟨pg_code_ok pgc_84, pg_pl pgp_13, pg_mp (f := 84) (oc := 12) rfl pgp_13 pg_oi (pg_mle pgq_13), by decide +kernel, rfl, by decide +kernel⟩
  | 85, _ => exact ⟨pg_code_ok pgc_85, pg_pl pgp_13, pg_mp (f := 85) (oc := 12) rfl pgp_13 pg_oi (pg_mle pgq_13), by decide +kernel, rfl, by decide +kernel⟩
  | 86, _ => exact ⟨pg_code_ok pgc_86, pg_pl pgp_13, pg_mp (f := 86) (oc := 12) rfl pgp_13 pg_oi (pg_mle pgq_13), by decide +kernel, rfl, by decide +kernel⟩
  | 87, _ => exact ⟨pg_code_ok pgc_87, pg_pl pgp_13, pg_mp (f := 87) (oc := 12) rfl pgp_13 pg_oi (pg_mle pgq_13), by decide +kernel, rfl, by decide +kernel⟩
  | 88, _ => exact ⟨pg_code_ok pgc_88, pg_pl pgp_13, pg_mp (f := 88) (oc := 12) rfl pgp_13 pg_oi (pg_mle pgq_13), by decide +kernel, rfl, by decide +kernel⟩
  | 89, _ => exact ⟨pg_code_ok pgc_89, pg_pl pgp_14, pg_mp (f := 89) (oc := 13) rfl pgp_14 pg_oi (pg_mle pgq_14), by decide +kernel, rfl, by decide +kernel⟩
  | 90, _ => exact ⟨pg_code_ok pgc_90, pg_pl pgp_13, pg_mp (f := 90) (oc := 12) rfl pgp_13 pg_oi (pg_mle pgq_13), by decide +kernel, rfl, by decide +kernel⟩
  | 91, _ => exact ⟨pg_code_ok pgc_91, pg_pl pgp_13, pg_mp (f := 91) (oc := 12) rfl pgp_13 pg_oi (pg_mle pgq_13), by decide +kernel, rfl, by decide +kernel⟩
  | 92, _ => exact ⟨pg_code_ok pgc_92, pg_pl pgp_13, pg_mp (f := 92) (oc := 12) rfl pgp_13 pg_oi (pg_mle pgq_13), by decide +kernel, rfl, by decide +kernel⟩
  | 93, _ => exact ⟨pg_code_ok pgc_93, pg_pl pgp_13, pg_mp (f := 93) (oc := 12) rfl pgp_13 pg_oi (pg_mle pgq_13), by decide +kernel, rfl, by decide +kernel⟩
  | 94, _ => exact ⟨pg_code_ok pgc_94, pg_pl pgp_13, pg_mp (f := 94) (oc := 12) rfl pgp_13 pg_oi (pg_mle pgq_13), by decide +kernel, rfl, by decide +kernel⟩
  | 95, _ => exact ⟨pg_code_ok pgc_95, pg_pl pgp_14, pg_mp (f := 95) (oc := 13) rfl pgp_14 pg_oi (pg_mle pgq_14), by decide +kernel, rfl, by decide +kernel⟩
  | 96, _ => exact ⟨pg_code_ok pgc_96, pg_pl pgp_13, pg_mp (f := 96) (oc := 12) rfl pgp_13 pg_oi (pg_mle pgq_13), by decide +kernel, rfl, by decide +kernel⟩
  | 97, _ => exact ⟨pg_code_ok pgc_97, pg_pl pgp_12, pg_mp (f := 97) (oc := 999) rfl pgp_12 pg_oi (pg_mle pgq_12), by decide +kernel, rfl, by decide +kernel⟩
  | g + 98, hen => exact absurd hen (by intro h; cases h)
