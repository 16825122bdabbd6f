/-! the program keeps what the small machine asks -/
theorem pg_mall : ∀ g, 1 ≤ g → g ≤ 280 → pg_mok pg_cl pg_G pg_yn pg_cc pg_hh pg_wm g = true := by
  intro g h1 h2
  match g, h1, h2 with
  | 1, _, _ => exact pgm_1
  | 2, _, _ => exact pgm_2
  | 3, _, _ => exact pgm_3
  | 4, _, _ => exact pgm_4
  | 5, _, _ => exact pgm_5
  | 6, _, _ => exact pgm_6
  | 7, _, _ => exact pgm_7
  | 8, _, _ => exact pgm_8
  | 9, _, _ => exact pgm_9
  | 10, _, _ => exact pgm_10
  | 11, _, _ => exact pgm_11
  | 12, _, _ => exact pgm_12
  | 13, _, _ => exact pgm_13
  | 14, _, _ => exact pgm_14
  | 15, _, _ => exact pgm_15
  | 16, _, _ => exact pgm_16
  | 17, _, _ => exact pgm_17
  | 18, _, _ => exact pgm_18
  | 19, _, _ => exact pgm_19
  | 20, _, _ => exact pgm_20
  | 21, _, _ => exact pgm_21
  | 22, _, _ => exact pgm_22
  | 23, _, _ => exact pgm_23
  | 24, _, _ => exact pgm_24
  | 25, _, _ => exact pgm_25
  | 26, _, _ => exact pgm_26
  | 27, _, _ => exact pgm_27
  | 28, _, _ => exact pgm_28
  | 29, _, _ => exact pgm_29
  | 30, _, _ => exact pgm_30
  | 31, _, _ => exact pgm_31
  | 32, _, _ => exact pgm_32
  | 33, _, _ => exact pgm_33
  | 34, _, _ => exact pgm_34
  | 35, _, _ => exact pgm_35
  | 36, _, _ => exact pgm_36
  | 37, _, _ => exact pgm_37
  | 38, _, _ => exact pgm_38
  | 39, _, _ => exact pgm_39
  | 40, _, _ => exact pgm_40
  | 41, _, _ => exact pgm_41
  | 42, _, _ => exact pgm_42
  | 43, _, _ => exact pgm_43
  | 44, _, _ => exact pgm_44
  | 45, _, _ => exact pgm_45
  | 46, _, _ => exact pgm_46
  | 47, _, _ => exact pgm_47
  | 48, _, _ => exact pgm_48
  | 49, _, _ => exact pgm_49
  | 50, _, _ => exact pgm_50
  | 51, _, _ => exact pgm_51
  | 52, _, _ => exact pgm_52
  | 53, _, _ => exact pgm_53
  | 54, _, _ => exact pgm_54
  | 55, _, _ => exact pgm_55
  | 56, _, _ => exact pgm_56
  | 57, _, _ => exact pgm_57
  | 58, _, _ => exact pgm_58
  | 59, _, _ => exact pgm_59
  | 60, _, _ => exact pgm_60
  | 61, _, _ => exact pgm_61
  | 62, _, _ => exact pgm_62
  | 63, _, _ => exact pgm_63
  | 64, _, _ => exact pgm_64
  | 65, _, _ => exact pgm_65
  | 66, _, _ => exact pgm_66
  | 67, _, _ => exact pgm_67
  | 68, _, _ => exact pgm_68
  | 69, _, _ => exact pgm_69
  | 70, _, _ => exact pgm_70
  | 71, _, _ => exact pgm_71
  | 72, _, _ => exact pgm_72
  | 73, _, _ => exact pgm_73
  | 74, _, _ => exact pgm_74
  | 75, _, _ => exact pgm_75
  | 76, _, _ => exact pgm_76
  | 77, _, _ => exact pgm_77
  | 78, _, _ => exact pgm_78
  | 79, _, _ => exact pgm_79
  | 80, _, _ => exact pgm_80
  | 81, _, _ => exact pgm_81
  | 82, _, _ => exact pgm_82
  | 83, _, _ => exact pgm_83
  | 84, _, _ => exact pgm_84
  | 85, _, _ => exact pgm_85
  | 86, _, _ => exact pgm_86
  | 87, _, _ => exact pgm_87
  | 88, _, _ => exact pgm_88
  | 89, _, _ => exact pgm_89
  | 90, _, _ => exact pgm_90
  | 91, _, _ => exact pgm_91
  | 92, _, _ => exact pgm_92
  | 93, _, _ => exact pgm_93
  | 94, _, _ => exact pgm_94
  | 95, _, _ => exact pgm_95
  | 96, _, _ => exact pgm_96
  | 97, _, _ => exact pgm_97
  | 98, _, _ => exact pgm_98
  | 99, _, _ => exact pgm_99
  | 100, _, _ => exact pgm_100
  | 101, _, _ => exact pgm_101
  | 102, _, _ => exact pgm_102
  | 103, _, _ => exact pgm_103
  | 104, _, _ => exact pgm_104
  | 105, _, _ => exact pgm_105
  | 106, _, _ => exact pgm_106
  | 107, _, _ => exact pgm_107
  | 108, _, _ => exact pgm_108
  | 109, _, _ => exact pgm_109
  | 110, _, _ => exact pgm_110
  | 111, _, _ => exact pgm_111
  | 112, _, _ => exact pgm_112
  | 113, _, _ => exact pgm_113
  | 114, _, _ => exact pgm_114
  | 115, _, _ => exact pgm_115
  | 116, _, _ => exact pgm_116
  | 117, _, _ => exact pgm_117
  | 118, _, _ => exact pgm_118
  | 119, _, _ => exact pgm_119
  | 120, _, _ => exact pgm_120
  | 121, _, _ => exact pgm_121
  | 122, _, _ => exact pgm_122
  | 123, _, _ => exact pgm_123
  | 124, _, _ => exact pgm_124
  | 125, _, _ => exact pgm_125
  | 126, _, _ => exact pgm_126
  | 127, _, _ => exact pgm_127
  | 128, _, _ => exact pgm_128
  | 129, _, _ => exact pgm_129
  | 130, _, _ => exact pgm_130
  | 131, _, _ => exact pgm_131
  | 132, _, _ => exact pgm_132
  | 133, _, _ => exact pgm_133
  | 134, _, _ => exact pgm_134
  | 135, _, _ => exact pgm_135
  | 136, _, _ => exact pgm_136
  | 137, _, _ => exact pgm_137
  | 138, _, _ => exact pgm_138
  | 139, _, _ => exact pgm_139
  | 140, _, _ => exact pgm_140
  | 141, _, _ => exact pgm_141
  | 142, _, _ => exact pgm_142
  | 143, _, _ => exact pgm_143
  | 144, _, _ => exact pgm_144
  | 145, _, _ => exact pgm_145
  | 146, _, _ => exact pgm_146
  | 147, _, _ => exact pgm_147
  | 148, _, _ => exact pgm_148
  | 149, _, _ => exact pgm_149
  | 150, _, _ => exact pgm_150
  | 151, _, _ => exact pgm_151
  | 152, _, _ => exact pgm_152
  | 153, _, _ => exact pgm_153
  | 154, _, _ => exact pgm_154
  | 155, _, _ => exact pgm_155
  | 156, _, _ => exact pgm_156
  | 157, _, _ => exact pgm_157
  | 158, _, _ => exact pgm_158
  | 159, _, _ => exact pgm_159
  | 160, _, _ => exact pgm_160
  | 161, _, _ => exact pgm_161
  | 162, _, _ => exact pgm_162
  | 163, _, _ => exact pgm_163
  | 164, _, _ => exact pgm_164
  | 165, _, _ => exact pgm_165
  | 166, _, _ => exact pgm_166
  | 167, _, _ => exact pgm_167
  | 168, _, _ => exact pgm_168
  | 169, _, _ => exact pgm_169
  | 170, _, _ => exact pgm_170
  | 171, _, _ => exact pgm_171
  | 172, _, _ => exact pgm_172
  | 173, _, _ => exact pgm_173
  | 174, _, _ => exact pgm_174
  | 175, _, _ => exact pgm_175
  | 176, _, _ => exact pgm_176
  | 177, _, _ => exact pgm_177
  | 178, _, _ => exact pgm_178
  | 179, _, _ => exact pgm_179
  | 180, _, _ => exact pgm_180
  | 181, _, _ => exact pgm_181
  | 182, _, _ => exact pgm_182
  | 183, _, _ => exact pgm_183
  | 184, _, _ => exact pgm_184
  | 185, _, _ => exact pgm_185
  | 186, _, _ => exact pgm_186
  | 187, _, _ => exact pgm_187
  | 188, _, _ => exact pgm_188
  | 189, _, _ => exact pgm_189
  | 190, _, _ => exact pgm_190
  | 191, _, _ => exact pgm_191
  | 192, _, _ => exact pgm_192
  | 193, _, _ => exact pgm_193
  | 194, _, _ => exact pgm_194
  | 195, _, _ => exact pgm_195
  | 196, _, _ => exact pgm_196
  | 197, _, _ => exact pgm_197
  | 198, _, _ => exact pgm_198
  | 199, _, _ => exact pgm_199
  | 200, _, _ => exact pgm_200
  | 201, _, _ => exact pgm_201
  | 202, _, _ => exact pgm_202
  | 203, _, _ => exact pgm_203
  | 204, _, _ => exact pgm_204
  | 205, _, _ => exact pgm_205
  | 206, _, _ => exact pgm_206
  | 207, _, _ => exact pgm_207
  | 208, _, _ => exact pgm_208
  | 209, _, _ => exact pgm_209
  | 210, _, _ => exact pgm_210
  | 211, _, _ => exact pgm_211
  | 212, _, _ => exact pgm_212
  | 213, _, _ => exact pgm_213
  | 214, _, _ => exact pgm_214
  | 215, _, _ => exact pgm_215
  | 216, _, _ => exact pgm_216
  | 217, _, _ => exact pgm_217
  | 218, _, _ => exact pgm_218
  | 219, _, _ => exact pgm_219
  | 220, _, _ => exact pgm_220
  | 221, _, _ => exact pgm_221
  | 222, _, _ => exact pgm_222
  | 223, _, _ => exact pgm_223
  | 224, _, _ => exact pgm_224
  | 225, _, _ => exact pgm_225
  | 226, _, _ => exact pgm_226
  | 227, _, _ => exact pgm_227
  | 228, _, _ => exact pgm_228
  | 229, _, _ => exact pgm_229
  | 230, _, _ => exact pgm_230
  | 231, _, _ => exact pgm_231
  | 232, _, _ => exact pgm_232
  | 233, _, _ => exact pgm_233
  | 234, _, _ => exact pgm_234
  | 235, _, _ => exact pgm_235
  | 236, _, _ => exact pgm_236
  | 237, _, _ => exact pgm_237
  | 238, _, _ => exact pgm_238
  | 239, _, _ => exact pgm_239
  | 240, _, _ => exact pgm_240
  | 241, _, _ => exact pgm_241
  | 242, _, _ => exact pgm_242
  | 243, _, _ => exact pgm_243
  | 244, _, _ => exact pgm_244
  | 245, _, _ => exact pgm_245
  | 246, _, _ => exact pgm_246
  | 247, _, _ => exact pgm_247
  | 248, _, _ => exact pgm_248
  | 249, _, _ => exact pgm_249
  | 250, _, _ => exact pgm_250
  | 251, _, _ => exact pgm_251
  | 252, _, _ => exact pgm_252
  | 253, _, _ => exact pgm_253
  | 254, _, _ => exact pgm_254
  | 255, _, _ => exact pgm_255
  | 256, _, _ => exact pgm_256
  | 257, _, _ => exact pgm_257
  | 258, _, _ => exact pgm_258
  | 259, _, _ => exact pgm_259
  | 260, _, _ => exact pgm_260
  | 261, _, _ => exact pgm_261
  | 262, _, _ => exact pgm_262
  | 263, _, _ => exact pgm_263
  | 264, _, _ => exact pgm_264
  | 265, _, _ => exact pgm_265
  | 266, _, _ => exact pgm_266
  | 267, _, _ => exact pgm_267
  | 268, _, _ => exact pgm_268
  | 269, _, _ => exact pgm_269
  | 270, _, _ => exact pgm_270
  | 271, _, _ => exact pgm_271
  | 272, _, _ => exact pgm_272
  | 273, _, _ => exact pgm_273
  | 274, _, _ => exact pgm_274
  | 275, _, _ => exact pgm_275
  | 276, _, _ => exact pgm_276
  | 277, _, _ => exact pgm_277
  | 278, _, _ => exact pgm_278
  | 279, _, _ => exact pgm_279
  | 280, _, _ => exact pgm_280
  | g + 281, _, h2 => exact absurd h2 (by omega)
def pg_ml (pl : List pg_Row) : Bool := pl.all (fun q => match q.2.1 with | .inr (.inl g) => decide (g ≤ 280) | _ => true)
theorem pg_mle {pl : List pg_Row} (h : pg_ml pl = true) : ∀ g w x, (x, (.inr (.inl (g + 1)) : mm_P), w) ∈ pl → pg_mok pg_cl pg_G pg_yn pg_cc pg_hh pg_wm (g + 1) = true := by
  intro g w x hm
  have h1 := List.all_eq_true.mp h _ hm
  dsimp only at h1
  rw [decide_eq_true_eq] at h1
  exact pg_mall _ (Nat.succ_le_succ (Nat.zero_le _)) h1
theorem pgp_0 : pgP_0.all (pg_row pg_cl pg_aT pg_TT pg_yn pg_wc "MarkovDesk" 0) = true := by decide +kernel
theorem pgq_0 : pg_ml pgP_0 = true := by decide +kernel
theorem pgp_1 : pgP_1.all (pg_row pg_cl pg_aT pg_TT pg_yn pg_wc "MarkovDesk$Answer" 1) = true := by decide +kernel
theorem pgq_1 : pg_ml pgP_1 = true := by decide +kernel
theorem pgp_2 : pgP_2.all (pg_row pg_cl pg_aT pg_TT pg_yn pg_wc "MarkovDesk$Equations" 2) = true := by decide +kernel
theorem pgq_2 : pg_ml pgP_2 = true := by decide +kernel
theorem pgp_3 : pgP_3.all (pg_row pg_cl pg_aT pg_TT pg_yn pg_wc "MarkovDesk$Machine" 3) = true := by decide +kernel
theorem pgq_3 : pg_ml pgP_3 = true := by decide +kernel
theorem pgp_4 : pgP_4.all (pg_row pg_cl pg_aT pg_TT pg_yn pg_wc "MarkovDesk$Model" 4) = true := by decide +kernel
theorem pgq_4 : pg_ml pgP_4 = true := by decide +kernel
theorem pgp_5 : pgP_5.all (pg_row pg_cl pg_aT pg_TT pg_yn pg_wc "MarkovDesk$Nat" 5) = true := by decide +kernel
theorem pgq_5 : pg_ml pgP_5 = true := by decide +kernel
theorem pgp_6 : pgP_6.all (pg_row pg_cl pg_aT pg_TT pg_yn pg_wc "MarkovDesk$Planner" 6) = true := by decide +kernel
theorem pgq_6 : pg_ml pgP_6 = true := by decide +kernel
theorem pgp_7 : pgP_7.all (pg_row pg_cl pg_aT pg_TT pg_yn pg_wc "MarkovDesk$Ratio" 7) = true := by decide +kernel
theorem pgq_7 : pg_ml pgP_7 = true := by decide +kernel
theorem pgp_8 : pgP_8.all (pg_row pg_cl pg_aT pg_TT pg_yn pg_wc "MarkovDesk$Reader" 8) = true := by decide +kernel
theorem pgq_8 : pg_ml pgP_8 = true := by decide +kernel
theorem pgp_9 : pgP_9.all (pg_row pg_cl pg_aT pg_TT pg_yn pg_wc "MarkovDesk$Space" 9) = true := by decide +kernel
theorem pgq_9 : pg_ml pgP_9 = true := by decide +kernel
theorem pgp_10 : pgP_10.all (pg_row pg_cl pg_aT pg_TT pg_yn pg_wc "MarkovDesk$Tokens" 10) = true := by decide +kernel
theorem pgq_10 : pg_ml pgP_10 = true := by decide +kernel
theorem pgp_11 : pgP_11.all (pg_row pg_cl pg_aT pg_TT pg_yn pg_wc "MarkovDesk$Walk" 11) = true := by decide +kernel
theorem pgq_11 : pg_ml pgP_11 = true := by decide +kernel
theorem pgp_12 : pgP_12.all (pg_row pg_cl pg_aT pg_TT pg_yn pg_wc "MarkovDeskLaw" 999) = true := by decide +kernel
theorem pgq_12 : pg_ml pgP_12 = true := by decide +kernel
theorem pgp_13 : pgP_13.all (pg_row pg_cl pg_aT pg_TT pg_yn pg_wc "MarkovDeskModel" 12) = true := by decide +kernel
theorem pgq_13 : pg_ml pgP_13 = true := by decide +kernel
theorem pgp_14 : pgP_14.all (pg_row pg_cl pg_aT pg_TT pg_yn pg_wc "MarkovDeskModel$Whole" 13) = true := by decide +kernel
theorem pgq_14 : pg_ml pgP_14 = true := by decide +kernel
theorem pgp_15 : pgP_15.all (pg_row pg_cl pg_aT pg_TT pg_yn pg_wc "java/lang/ArithmeticException" 14) = true := by decide +kernel
theorem pgq_15 : pg_ml pgP_15 = true := by decide +kernel
theorem pgp_16 : pgP_16.all (pg_row pg_cl pg_aT pg_TT pg_yn pg_wc "java/lang/IllegalArgumentException" 15) = true := by decide +kernel
theorem pgq_16 : pg_ml pgP_16 = true := by decide +kernel
theorem pgp_17 : pgP_17.all (pg_row pg_cl pg_aT pg_TT pg_yn pg_wc "java/lang/IllegalStateException" 16) = true := by decide +kernel
theorem pgq_17 : pg_ml pgP_17 = true := by decide +kernel
theorem pgp_18 : pgP_18.all (pg_row pg_cl pg_aT pg_TT pg_yn pg_wc "java/lang/IndexOutOfBoundsException" 17) = true := by decide +kernel
theorem pgq_18 : pg_ml pgP_18 = true := by decide +kernel
theorem pgp_19 : pgP_19.all (pg_row pg_cl pg_aT pg_TT pg_yn pg_wc "java/lang/Integer" 999) = true := by decide +kernel
theorem pgq_19 : pg_ml pgP_19 = true := by decide +kernel
theorem pgp_20 : pgP_20.all (pg_row pg_cl pg_aT pg_TT pg_yn pg_wc "java/lang/Math" 999) = true := by decide +kernel
theorem pgq_20 : pg_ml pgP_20 = true := by decide +kernel
theorem pgp_21 : pgP_21.all (pg_row pg_cl pg_aT pg_TT pg_yn pg_wc "java/lang/String" 998) = true := by decide +kernel
theorem pgq_21 : pg_ml pgP_21 = true := by decide +kernel
theorem pgp_22 : pgP_22.all (pg_row pg_cl pg_aT pg_TT pg_yn pg_wc "java/lang/StringLatin1" 999) = true := by decide +kernel
theorem pgq_22 : pg_ml pgP_22 = true := by decide +kernel
theorem pgp_23 : pgP_23.all (pg_row pg_cl pg_aT pg_TT pg_yn pg_wc "java/lang/UnsupportedOperationException" 18) = true := by decide +kernel
theorem pgq_23 : pg_ml pgP_23 = true := by decide +kernel
theorem pgp_24 : pgP_24.all (pg_row pg_cl pg_aT pg_TT pg_yn pg_wc "jdk/internal/util/Preconditions" 999) = true := by decide +kernel
theorem pgq_24 : pg_ml pgP_24 = true := by decide +kernel
theorem pg_MOK : ∀ g en, mm_code pg_G g 0 = some en → mm_MOK pg_Ts pg_cl pg_aT pg_TT pg_G pg_yn pg_cc pg_hh pg_own g := by
  intro g en hen
  match g, hen with
  | 0, hen => cases hen
  | 1, _ => exact ⟨pg_codeB_ok pgc_1, pg_pl pgp_0, pg_mp (f := 1) (oc := 0) rfl pgp_0 pg_oi (pg_mle pgq_0), pg_p2 pgp_0 pg_ac, by decide +kernel, rfl, by decide +kernel⟩
  | 2, _ => exact ⟨pg_codeB_ok pgc_2, pg_pl pgp_3, pg_mp (f := 2) (oc := 3) rfl pgp_3 pg_oi (pg_mle pgq_3), pg_p2 pgp_3 pg_ac, by decide +kernel, rfl, by decide +kernel⟩
  | 3, _ => exact ⟨pg_codeB_ok pgc_3, pg_pl pgp_10, pg_mp (f := 3) (oc := 10) rfl pgp_10 pg_oi (pg_mle pgq_10), pg_p2 pgp_10 pg_ac, by decide +kernel, rfl, by decide +kernel⟩
  | 4, _ => exact ⟨pg_codeB_ok pgc_4, pg_pl pgp_4, pg_mp (f := 4) (oc := 4) rfl pgp_4 pg_oi (pg_mle pgq_4), pg_p2 pgp_4 pg_ac, by decide +kernel, rfl, by decide +kernel⟩
  | 5, _ => exact ⟨pg_codeB_ok pgc_5, pg_pl pgp_8, pg_mp (f := 5) (oc := 8) rfl pgp_8 pg_oi (pg_mle pgq_8), pg_p2 pgp_8 pg_ac, by decide +kernel, rfl, by decide +kernel⟩
  | 6, _ => exact ⟨pg_codeB_ok pgc_6, pg_pl pgp_9, pg_mp (f := 6) (oc := 9) rfl pgp_9 pg_oi (pg_mle pgq_9), pg_p2 pgp_9 pg_ac, by decide +kernel, rfl, by decide +kernel⟩
  | 7, _ => exact ⟨pg_codeB_ok pgc_7, pg_pl pgp_6, pg_mp (f := 7) (oc := 6) rfl pgp_6 pg_oi (pg_mle pgq_6), pg_p2 pgp_6 pg_ac, by decide +kernel, rfl, by decide +kernel⟩
  | 8, _ => exact ⟨pg_codeB_ok pgc_8, pg_pl pgp_2, pg_mp (f := 8) (oc := 2) rfl pgp_2 pg_oi (pg_mle pgq_2), pg_p2 pgp_2 pg_ac, by decide +kernel, rfl, by decide +kernel⟩
  | 9, _ => exact ⟨pg_codeB_ok pgc_9, pg_pl pgp_5, pg_mp (f := 9) (oc := 5) rfl pgp_5 pg_oi (pg_mle pgq_5), pg_p2 pgp_5 pg_ac, by decide +kernel, rfl, by decide +kernel⟩
  | 10, _ => exact ⟨pg_codeB_ok pgc_10, pg_pl pgp_20, pg_mp (f := 10) (oc := 999) rfl pgp_20 pg_oi (pg_mle pgq_20), pg_p2 pgp_20 pg_ac, by decide +kernel, rfl, by decide +kernel⟩
  | 11, _ => exact ⟨pg_codeB_ok pgc_11, pg_pl pgp_5, pg_mp (f := 11) (oc := 5) rfl pgp_5 pg_oi (pg_mle pgq_5), pg_p2 pgp_5 pg_ac, by decide +kernel, rfl, by decide +kernel⟩
  | 12, _ => exact ⟨pg_codeB_ok pgc_12, pg_pl pgp_1, pg_mp (f := 12) (oc := 1) rfl pgp_1 pg_oi (pg_mle pgq_1), pg_p2 pgp_1 pg_ac, by decide +kernel, rfl, by decide +kernel⟩
  | 13, _ => exact ⟨pg_codeB_ok pgc_13, pg_pl pgp_11, pg_mp (f := 13) (oc := 11) rfl pgp_11 pg_oi (pg_mle pgq_11), pg_p2 pgp_11 pg_ac, by decide +kernel, rfl, by decide +kernel⟩
  | 14, _ => exact ⟨pg_codeB_ok pgc_14, pg_pl pgp_7, pg_mp (f := 14) (oc := 7) rfl pgp_7 pg_oi (pg_mle pgq_7), pg_p2 pgp_7 pg_ac, by decide +kernel, rfl, by decide +kernel⟩
  | 15, _ => exact ⟨pg_codeB_ok pgc_15, pg_pl pgp_0, pg_mp (f := 15) (oc := 0) rfl pgp_0 pg_oi (pg_mle pgq_0), pg_p2 pgp_0 pg_ac, by decide +kernel, rfl, by decide +kernel⟩
  | 16, _ => exact ⟨pg_codeB_ok pgc_16, pg_pl pgp_0, pg_mp (f := 16) (oc := 0) rfl pgp_0 pg_oi (pg_mle pgq_0), pg_p2 pgp_0 pg_ac, by decide +kernel, rfl, by decide +kernel⟩
  | 17, _ => exact ⟨pg_codeB_ok pgc_17, pg_pl pgp_5, pg_mp (f := 17) (oc := 5) rfl pgp_5 pg_oi (pg_mle pgq_5), pg_p2 pgp_5 pg_ac, by decide +kernel, rfl, by decide +kernel⟩
  | 18, _ => exact ⟨pg_codeB_ok pgc_18, pg_pl pgp_5, pg_mp (f := 18) (oc := 5) rfl pgp_5 pg_oi (pg_mle pgq_5), pg_p2 pgp_5 pg_ac, by decide +kernel, rfl, by decide +kernel⟩
  | 19, _ => exact ⟨pg_codeB_ok pgc_19, pg_pl pgp_19, pg_mp (f := 19) (oc := 999) rfl pgp_19 pg_oi (pg_mle pgq_19), pg_p2 pgp_19 pg_ac, by decide +kernel, rfl, by decide +kernel⟩
  | 20, _ => exact ⟨pg_codeB_ok pgc_20, pg_pl pgp_12, pg_mp (f := 20) (oc := 999) rfl pgp_12 pg_oi (pg_mle pgq_12), pg_p2 pgp_12 pg_ac, by decide +kernel, rfl, by decide +kernel⟩
  | 21, _ => exact ⟨pg_codeB_ok pgc_21, pg_pl pgp_0, pg_mp (f := 21) (oc := 0) rfl pgp_0 pg_oi (pg_mle pgq_0), pg_p2 pgp_0 pg_ac, by decide +kernel, rfl, by decide +kernel⟩
  | 22, _ => exact ⟨pg_codeB_ok pgc_22, pg_pl pgp_18, pg_mp (f := 22) (oc := 17) rfl pgp_18 pg_oi (pg_mle pgq_18), pg_p2 pgp_18 pg_ac, by decide +kernel, rfl, by decide +kernel⟩
  | 23, _ => exact ⟨pg_codeB_ok pgc_23, pg_pl pgp_10, pg_mp (f := 23) (oc := 10) rfl pgp_10 pg_oi (pg_mle pgq_10), pg_p2 pgp_10 pg_ac, by decide +kernel, rfl, by decide +kernel⟩
  | 24, _ => exact ⟨pg_codeB_ok pgc_24, pg_pl pgp_12, pg_mp (f := 24) (oc := 999) rfl pgp_12 pg_oi (pg_mle pgq_12), pg_p2 pgp_12 pg_ac, by decide +kernel, rfl, by decide +kernel⟩
  | 25, _ => exact ⟨pg_codeB_ok pgc_25, pg_pl pgp_0, pg_mp (f := 25) (oc := 0) rfl pgp_0 pg_oi (pg_mle pgq_0), pg_p2 pgp_0 pg_ac, by decide +kernel, rfl, by decide +kernel⟩
  | 26, _ => exact ⟨pg_codeB_ok pgc_26, pg_pl pgp_0, pg_mp (f := 26) (oc := 0) rfl pgp_0 pg_oi (pg_mle pgq_0), pg_p2 pgp_0 pg_ac, by decide +kernel, rfl, by decide +kernel⟩
  | 27, _ => exact ⟨pg_codeB_ok pgc_27, pg_pl pgp_1, pg_mp (f := 27) (oc := 1) rfl pgp_1 pg_oi (pg_mle pgq_1), pg_p2 pgp_1 pg_ac, by decide +kernel, rfl, by decide +kernel⟩
  | 28, _ => exact ⟨pg_codeB_ok pgc_28, pg_pl pgp_8, pg_mp (f := 28) (oc := 8) rfl pgp_8 pg_oi (pg_mle pgq_8), pg_p2 pgp_8 pg_ac, by decide +kernel, rfl, by decide +kernel⟩
  | 29, _ => exact ⟨pg_codeB_ok pgc_29, pg_pl pgp_4, pg_mp (f := 29) (oc := 4) rfl pgp_4 pg_oi (pg_mle pgq_4), pg_p2 pgp_4 pg_ac, by decide +kernel, rfl, by decide +kernel⟩
  | 30, _ => exact ⟨pg_codeB_ok pgc_30, pg_pl pgp_10, pg_mp (f := 30) (oc := 10) rfl pgp_10 pg_oi (pg_mle pgq_10), pg_p2 pgp_10 pg_ac, by decide +kernel, rfl, by decide +kernel⟩
  | 31, _ => exact ⟨pg_codeB_ok pgc_31, pg_pl pgp_8, pg_mp (f := 31) (oc := 8) rfl pgp_8 pg_oi (pg_mle pgq_8), pg_p2 pgp_8 pg_ac, by decide +kernel, rfl, by decide +kernel⟩
  | 32, _ => exact ⟨pg_codeB_ok pgc_32, pg_pl pgp_16, pg_mp (f := 32) (oc := 15) rfl pgp_16 pg_oi (pg_mle pgq_16), pg_p2 pgp_16 pg_ac, by decide +kernel, rfl, by decide +kernel⟩
  | 33, _ => exact ⟨pg_codeB_ok pgc_33, pg_pl pgp_10, pg_mp (f := 33) (oc := 10) rfl pgp_10 pg_oi (pg_mle pgq_10), pg_p2 pgp_10 pg_ac, by decide +kernel, rfl, by decide +kernel⟩
  | 34, _ => exact ⟨pg_codeB_ok pgc_34, pg_pl pgp_20, pg_mp (f := 34) (oc := 999) rfl pgp_20 pg_oi (pg_mle pgq_20), pg_p2 pgp_20 pg_ac, by decide +kernel, rfl, by decide +kernel⟩
  | 35, _ => exact ⟨pg_codeB_ok pgc_35, pg_pl pgp_10, pg_mp (f := 35) (oc := 10) rfl pgp_10 pg_oi (pg_mle pgq_10), pg_p2 pgp_10 pg_ac, by decide +kernel, rfl, by decide +kernel⟩
  | 36, _ => exact ⟨pg_codeB_ok pgc_36, pg_pl pgp_10, pg_mp (f := 36) (oc := 10) rfl pgp_10 pg_oi (pg_mle pgq_10), pg_p2 pgp_10 pg_ac, by decide +kernel, rfl, by decide +kernel⟩
  | 37, _ => exact ⟨pg_codeB_ok pgc_37, pg_pl pgp_10, pg_mp (f := 37) (oc := 10) rfl pgp_10 pg_oi (pg_mle pgq_10), pg_p2 pgp_10 pg_ac, by decide +kernel, rfl, by decide +kernel⟩
  | 38, _ => exact ⟨pg_codeB_ok pgc_38, pg_pl pgp_10, pg_mp (f := 38) (oc := 10) rfl pgp_10 pg_oi (pg_mle pgq_10), pg_p2 pgp_10 pg_ac, by decide +kernel, rfl, by decide +kernel⟩
  | 39, _ => exact ⟨pg_codeB_ok pgc_39, pg_pl pgp_10, pg_mp (f := 39) (oc := 10) rfl pgp_10 pg_oi (pg_mle pgq_10), pg_p2 pgp_10 pg_ac, by decide +kernel, rfl, by decide +kernel⟩
  | 40, _ => exact ⟨pg_codeB_ok pgc_40, pg_pl pgp_10, pg_mp (f := 40) (oc := 10) rfl pgp_10 pg_oi (pg_mle pgq_10), pg_p2 pgp_10 pg_ac, by decide +kernel, rfl, by decide +kernel⟩
  | 41, _ => exact ⟨pg_codeB_ok pgc_41, pg_pl pgp_10, pg_mp (f := 41) (oc := 10) rfl pgp_10 pg_oi (pg_mle pgq_10), pg_p2 pgp_10 pg_ac, by decide +kernel, rfl, by decide +kernel⟩
  | 42, _ => exact ⟨pg_codeB_ok pgc_42, pg_pl pgp_21, pg_mp (f := 42) (oc := 998) rfl pgp_21 pg_oi (pg_mle pgq_21), pg_p2 pgp_21 pg_ac, by decide +kernel, rfl, by decide +kernel⟩
  | 43, _ => exact ⟨pg_codeB_ok pgc_43, pg_pl pgp_21, pg_mp (f := 43) (oc := 998) rfl pgp_21 pg_oi (pg_mle pgq_21), pg_p2 pgp_21 pg_ac, by decide +kernel, rfl, by decide +kernel⟩
  | 44, _ => exact ⟨pg_codeB_ok pgc_44, pg_pl pgp_21, pg_mp (f := 44) (oc := 998) rfl pgp_21 pg_oi (pg_mle pgq_21), pg_p2 pgp_21 pg_ac, by decide +kernel, rfl, by decide +kernel⟩
  | 45, _ => exact ⟨pg_codeB_ok pgc_45, pg_pl pgp_21, pg_mp (f := 45) (oc := 998) rfl pgp_21 pg_oi (pg_mle pgq_21), pg_p2 pgp_21 pg_ac, by decide +kernel, rfl, by decide +kernel⟩
  | 46, _ => exact ⟨pg_codeB_ok pgc_46, pg_pl pgp_22, pg_mp (f := 46) (oc := 999) rfl pgp_22 pg_oi (pg_mle pgq_22), pg_p2 pgp_22 pg_ac, by decide +kernel, rfl, by decide +kernel⟩
  | 47, _ => exact ⟨pg_codeB_ok pgc_47, pg_pl pgp_21, pg_mp (f := 47) (oc := 998) rfl pgp_21 pg_oi (pg_mle pgq_21), pg_p2 pgp_21 pg_ac, by decide +kernel, rfl, by decide +kernel⟩
  | 48, _ => exact ⟨pg_codeB_ok pgc_48, pg_pl pgp_24, pg_mp (f := 48) (oc := 999) rfl pgp_24 pg_oi (pg_mle pgq_24), pg_p2 pgp_24 pg_ac, by decide +kernel, rfl, by decide +kernel⟩
  | 49, _ => exact ⟨pg_codeB_ok pgc_49, pg_pl pgp_10, pg_mp (f := 49) (oc := 10) rfl pgp_10 pg_oi (pg_mle pgq_10), pg_p2 pgp_10 pg_ac, by decide +kernel, rfl, by decide +kernel⟩
  | 50, _ => exact ⟨pg_codeB_ok pgc_50, pg_pl pgp_10, pg_mp (f := 50) (oc := 10) rfl pgp_10 pg_oi (pg_mle pgq_10), pg_p2 pgp_10 pg_ac, by decide +kernel, rfl, by decide +kernel⟩
  | 51, _ => exact ⟨pg_codeB_ok pgc_51, pg_pl pgp_10, pg_mp (f := 51) (oc := 10) rfl pgp_10 pg_oi (pg_mle pgq_10), pg_p2 pgp_10 pg_ac, by decide +kernel, rfl, by decide +kernel⟩
  | 52, _ => exact ⟨pg_codeB_ok pgc_52, pg_pl pgp_10, pg_mp (f := 52) (oc := 10) rfl pgp_10 pg_oi (pg_mle pgq_10), pg_p2 pgp_10 pg_ac, by decide +kernel, rfl, by decide +kernel⟩
  | 53, _ => exact ⟨pg_codeB_ok pgc_53, pg_pl pgp_10, pg_mp (f := 53) (oc := 10) rfl pgp_10 pg_oi (pg_mle pgq_10), pg_p2 pgp_10 pg_ac, by decide +kernel, rfl, by decide +kernel⟩
  | 54, _ => exact ⟨pg_codeB_ok pgc_54, pg_pl pgp_21, pg_mp (f := 54) (oc := 998) rfl pgp_21 pg_oi (pg_mle pgq_21), pg_p2 pgp_21 pg_ac, by decide +kernel, rfl, by decide +kernel⟩
  | 55, _ => exact ⟨pg_codeB_ok pgc_55, pg_pl pgp_21, pg_mp (f := 55) (oc := 998) rfl pgp_21 pg_oi (pg_mle pgq_21), pg_p2 pgp_21 pg_ac, by decide +kernel, rfl, by decide +kernel⟩
  | 56, _ => exact ⟨pg_codeB_ok pgc_56, pg_pl pgp_22, pg_mp (f := 56) (oc := 999) rfl pgp_22 pg_oi (pg_mle pgq_22), pg_p2 pgp_22 pg_ac, by decide +kernel, rfl, by decide +kernel⟩
  | 57, _ => exact ⟨pg_codeB_ok pgc_57, pg_pl pgp_22, pg_mp (f := 57) (oc := 999) rfl pgp_22 pg_oi (pg_mle pgq_22), pg_p2 pgp_22 pg_ac, by decide +kernel, rfl, by decide +kernel⟩
  | 58, _ => exact ⟨pg_codeB_ok pgc_58, pg_pl pgp_22, pg_mp (f := 58) (oc := 999) rfl pgp_22 pg_oi (pg_mle pgq_22), pg_p2 pgp_22 pg_ac, by decide +kernel, rfl, by decide +kernel⟩
  | 59, _ => exact ⟨pg_codeB_ok pgc_59, pg_pl pgp_8, pg_mp (f := 59) (oc := 8) rfl pgp_8 pg_oi (pg_mle pgq_8), pg_p2 pgp_8 pg_ac, by decide +kernel, rfl, by decide +kernel⟩
  | 60, _ => exact ⟨pg_codeB_ok pgc_60, pg_pl pgp_8, pg_mp (f := 60) (oc := 8) rfl pgp_8 pg_oi (pg_mle pgq_8), pg_p2 pgp_8 pg_ac, by decide +kernel, rfl, by decide +kernel⟩
  | 61, _ => exact ⟨pg_codeB_ok pgc_61, pg_pl pgp_8, pg_mp (f := 61) (oc := 8) rfl pgp_8 pg_oi (pg_mle pgq_8), pg_p2 pgp_8 pg_ac, by decide +kernel, rfl, by decide +kernel⟩
  | 62, _ => exact ⟨pg_codeB_ok pgc_62, pg_pl pgp_8, pg_mp (f := 62) (oc := 8) rfl pgp_8 pg_oi (pg_mle pgq_8), pg_p2 pgp_8 pg_ac, by decide +kernel, rfl, by decide +kernel⟩
  | 63, _ => exact ⟨pg_codeB_ok pgc_63, pg_pl pgp_8, pg_mp (f := 63) (oc := 8) rfl pgp_8 pg_oi (pg_mle pgq_8), pg_p2 pgp_8 pg_ac, by decide +kernel, rfl, by decide +kernel⟩
  | 64, _ => exact ⟨pg_codeB_ok pgc_64, pg_pl pgp_8, pg_mp (f := 64) (oc := 8) rfl pgp_8 pg_oi (pg_mle pgq_8), pg_p2 pgp_8 pg_ac, by decide +kernel, rfl, by decide +kernel⟩
  | 65, _ => exact ⟨pg_codeB_ok pgc_65, pg_pl pgp_8, pg_mp (f := 65) (oc := 8) rfl pgp_8 pg_oi (pg_mle pgq_8), pg_p2 pgp_8 pg_ac, by decide +kernel, rfl, by decide +kernel⟩
  | 66, _ => exact ⟨pg_codeB_ok pgc_66, pg_pl pgp_10, pg_mp (f := 66) (oc := 10) rfl pgp_10 pg_oi (pg_mle pgq_10), pg_p2 pgp_10 pg_ac, by decide +kernel, rfl, by decide +kernel⟩
  | 67, _ => exact ⟨pg_codeB_ok pgc_67, pg_pl pgp_8, pg_mp (f := 67) (oc := 8) rfl pgp_8 pg_oi (pg_mle pgq_8), pg_p2 pgp_8 pg_ac, by decide +kernel, rfl, by decide +kernel⟩
  | 68, _ => exact ⟨pg_codeB_ok pgc_68, pg_pl pgp_8, pg_mp (f := 68) (oc := 8) rfl pgp_8 pg_oi (pg_mle pgq_8), pg_p2 pgp_8 pg_ac, by decide +kernel, rfl, by decide +kernel⟩
  | 69, _ => exact ⟨pg_codeB_ok pgc_69, pg_pl pgp_8, pg_mp (f := 69) (oc := 8) rfl pgp_8 pg_oi (pg_mle pgq_8), pg_p2 pgp_8 pg_ac, by decide +kernel, rfl, by decide +kernel⟩
  | 70, _ => exact ⟨pg_codeB_ok pgc_70, pg_pl pgp_8, pg_mp (f := 70) (oc := 8) rfl pgp_8 pg_oi (pg_mle pgq_8), pg_p2 pgp_8 pg_ac, by decide +kernel, rfl, by decide +kernel⟩
  | 71, _ => exact ⟨pg_codeB_ok pgc_71, pg_pl pgp_3, pg_mp (f := 71) (oc := 3) rfl pgp_3 pg_oi (pg_mle pgq_3), pg_p2 pgp_3 pg_ac, by decide +kernel, rfl, by decide +kernel⟩
  | 72, _ => exact ⟨pg_codeB_ok pgc_72, pg_pl pgp_8, pg_mp (f := 72) (oc := 8) rfl pgp_8 pg_oi (pg_mle pgq_8), pg_p2 pgp_8 pg_ac, by decide +kernel, rfl, by decide +kernel⟩
  | 73, _ => exact ⟨pg_codeB_ok pgc_73, pg_pl pgp_8, pg_mp (f := 73) (oc := 8) rfl pgp_8 pg_oi (pg_mle pgq_8), pg_p2 pgp_8 pg_ac, by decide +kernel, rfl, by decide +kernel⟩
  | 74, _ => exact ⟨pg_codeB_ok pgc_74, pg_pl pgp_8, pg_mp (f := 74) (oc := 8) rfl pgp_8 pg_oi (pg_mle pgq_8), pg_p2 pgp_8 pg_ac, by decide +kernel, rfl, by decide +kernel⟩
  | 75, _ => exact ⟨pg_codeB_ok pgc_75, pg_pl pgp_8, pg_mp (f := 75) (oc := 8) rfl pgp_8 pg_oi (pg_mle pgq_8), pg_p2 pgp_8 pg_ac, by decide +kernel, rfl, by decide +kernel⟩
  | 76, _ => exact ⟨pg_codeB_ok pgc_76, pg_pl pgp_8, pg_mp (f := 76) (oc := 8) rfl pgp_8 pg_oi (pg_mle pgq_8), pg_p2 pgp_8 pg_ac, by decide +kernel, rfl, by decide +kernel⟩
  | 77, _ => exact ⟨pg_codeB_ok pgc_77, pg_pl pgp_8, pg_mp (f := 77) (oc := 8) rfl pgp_8 pg_oi (pg_mle pgq_8), pg_p2 pgp_8 pg_ac, by decide +kernel, rfl, by decide +kernel⟩
  | 78, _ => exact ⟨pg_codeB_ok pgc_78, pg_pl pgp_3, pg_mp (f := 78) (oc := 3) rfl pgp_3 pg_oi (pg_mle pgq_3), pg_p2 pgp_3 pg_ac, by decide +kernel, rfl, by decide +kernel⟩
  | 79, _ => exact ⟨pg_codeB_ok pgc_79, pg_pl pgp_8, pg_mp (f := 79) (oc := 8) rfl pgp_8 pg_oi (pg_mle pgq_8), pg_p2 pgp_8 pg_ac, by decide +kernel, rfl, by decide +kernel⟩
  | 80, _ => exact ⟨pg_codeB_ok pgc_80, pg_pl pgp_8, pg_mp (f := 80) (oc := 8) rfl pgp_8 pg_oi (pg_mle pgq_8), pg_p2 pgp_8 pg_ac, by decide +kernel, rfl, by decide +kernel⟩
  | 81, _ => exact ⟨pg_codeB_ok pgc_81, pg_pl pgp_3, pg_mp (f := 81) (oc := 3) rfl pgp_3 pg_oi (pg_mle pgq_3), pg_p2 pgp_3 pg_ac, by decide +kernel, rfl, by decide +kernel⟩
  | 82, _ => exact ⟨pg_codeB_ok pgc_82, pg_pl pgp_3, pg_mp (f := 82) (oc := 3) rfl pgp_3 pg_oi (pg_mle pgq_3), pg_p2 pgp_3 pg_ac, by decide +kernel, rfl, by decide +kernel⟩
  | 83, _ => exact ⟨pg_codeB_ok pgc_83, pg_pl pgp_20, pg_mp (f := 83) (oc := 999) rfl pgp_20 pg_oi (pg_mle pgq_20), pg_p2 pgp_20 pg_ac, by decide +kernel, rfl, by decide +kernel⟩
  | 84, _ => exact ⟨pg_codeB_ok pgc_84, pg_pl pgp_8, pg_mp (f := 84) (oc := 8) rfl pgp_8 pg_oi (pg_mle pgq_8), pg_p2 pgp_8 pg_ac, by decide +kernel, rfl, by decide +kernel⟩
  | 85, _ => exact ⟨pg_codeB_ok pgc_85, pg_pl pgp_8, pg_mp (f := 85) (oc := 8) rfl pgp_8 pg_oi (pg_mle pgq_8), pg_p2 pgp_8 pg_ac, by decide +kernel, rfl, by decide +kernel⟩
  | 86, _ => exact ⟨pg_codeB_ok pgc_86, pg_pl pgp_8, pg_mp (f := 86) (oc := 8) rfl pgp_8 pg_oi (pg_mle pgq_8), pg_p2 pgp_8 pg_ac, by decide +kernel, rfl, by decide +kernel⟩
  | 87, _ => exact ⟨pg_codeB_ok pgc_87, pg_pl pgp_8, pg_mp (f := 87) (oc := 8) rfl pgp_8 pg_oi (pg_mle pgq_8), pg_p2 pgp_8 pg_ac, by decide +kernel, rfl, by decide +kernel⟩
  | 88, _ => exact ⟨pg_codeB_ok pgc_88, pg_pl pgp_8, pg_mp (f := 88) (oc := 8) rfl pgp_8 pg_oi (pg_mle pgq_8), pg_p2 pgp_8 pg_ac, by decide +kernel, rfl, by decide +kernel⟩
  | 89, _ => exact ⟨pg_codeB_ok pgc_89, pg_pl pgp_8, pg_mp (f := 89) (oc := 8) rfl pgp_8 pg_oi (pg_mle pgq_8), pg_p2 pgp_8 pg_ac, by decide +kernel, rfl, by decide +kernel⟩
  | 90, _ => exact ⟨pg_codeB_ok pgc_90, pg_pl pgp_8, pg_mp (f := 90) (oc := 8) rfl pgp_8 pg_oi (pg_mle pgq_8), pg_p2 pgp_8 pg_ac, by decide +kernel, rfl, by decide +kernel⟩
  | 91, _ => exact ⟨pg_codeB_ok pgc_91, pg_pl pgp_8, pg_mp (f := 91) (oc := 8) rfl pgp_8 pg_oi (pg_mle pgq_8), pg_p2 pgp_8 pg_ac, by decide +kernel, rfl, by decide +kernel⟩
  | 92, _ => exact ⟨pg_codeB_ok pgc_92, pg_pl pgp_8, pg_mp (f := 92) (oc := 8) rfl pgp_8 pg_oi (pg_mle pgq_8), pg_p2 pgp_8 pg_ac, by decide +kernel, rfl, by decide +kernel⟩
  | 93, _ => exact ⟨pg_codeB_ok pgc_93, pg_pl pgp_8, pg_mp (f := 93) (oc := 8) rfl pgp_8 pg_oi (pg_mle pgq_8), pg_p2 pgp_8 pg_ac, by decide +kernel, rfl, by decide +kernel⟩
  | 94, _ => exact ⟨pg_codeB_ok pgc_94, pg_pl pgp_0, pg_mp (f := 94) (oc := 0) rfl pgp_0 pg_oi (pg_mle pgq_0), pg_p2 pgp_0 pg_ac, by decide +kernel, rfl, by decide +kernel⟩
  | 95, _ => exact ⟨pg_codeB_ok pgc_95, pg_pl pgp_8, pg_mp (f := 95) (oc := 8) rfl pgp_8 pg_oi (pg_mle pgq_8), pg_p2 pgp_8 pg_ac, by decide +kernel, rfl, by decide +kernel⟩
  | 96, _ => exact ⟨pg_codeB_ok pgc_96, pg_pl pgp_8, pg_mp (f := 96) (oc := 8) rfl pgp_8 pg_oi (pg_mle pgq_8), pg_p2 pgp_8 pg_ac, by decide +kernel, rfl, by decide +kernel⟩
  | 97, _ => exact ⟨pg_codeB_ok pgc_97, pg_pl pgp_12, pg_mp (f := 97) (oc := 999) rfl pgp_12 pg_oi (pg_mle pgq_12), pg_p2 pgp_12 pg_ac, by decide +kernel, rfl, by decide +kernel⟩
  | 98, _ => exact ⟨pg_codeB_ok pgc_98, pg_pl pgp_0, pg_mp (f := 98) (oc := 0) rfl pgp_0 pg_oi (pg_mle pgq_0), pg_p2 pgp_0 pg_ac, by decide +kernel, rfl, by decide +kernel⟩
  | 99, _ => exact ⟨pg_codeB_ok pgc_99, pg_pl pgp_17, pg_mp (f := 99) (oc := 16) rfl pgp_17 pg_oi (pg_mle pgq_17), pg_p2 pgp_17 pg_ac, by decide +kernel, rfl, by decide +kernel⟩
  | 100, _ => exact ⟨pg_codeB_ok pgc_100, pg_pl pgp_9, pg_mp (f := 100) (oc := 9) rfl pgp_9 pg_oi (pg_mle pgq_9), pg_p2 pgp_9 pg_ac, by decide +kernel, rfl, by decide +kernel⟩
  | 101, _ => exact ⟨pg_codeB_ok pgc_101, pg_pl pgp_9, pg_mp (f := 101) (oc := 9) rfl pgp_9 pg_oi (pg_mle pgq_9), pg_p2 pgp_9 pg_ac, by decide +kernel, rfl, by decide +kernel⟩
  | 102, _ => exact ⟨pg_codeB_ok pgc_102, pg_pl pgp_9, pg_mp (f := 102) (oc := 9) rfl pgp_9 pg_oi (pg_mle pgq_9), pg_p2 pgp_9 pg_ac, by decide +kernel, rfl, by decide +kernel⟩
  | 103, _ => exact ⟨pg_codeB_ok pgc_103, pg_pl pgp_15, pg_mp (f := 103) (oc := 14) rfl pgp_15 pg_oi (pg_mle pgq_15), pg_p2 pgp_15 pg_ac, by decide +kernel, rfl, by decide +kernel⟩
  | 104, _ => exact ⟨pg_codeB_ok pgc_104, pg_pl pgp_9, pg_mp (f := 104) (oc := 9) rfl pgp_9 pg_oi (pg_mle pgq_9), pg_p2 pgp_9 pg_ac, by decide +kernel, rfl, by decide +kernel⟩
  | 105, _ => exact ⟨pg_codeB_ok pgc_105, pg_pl pgp_9, pg_mp (f := 105) (oc := 9) rfl pgp_9 pg_oi (pg_mle pgq_9), pg_p2 pgp_9 pg_ac, by decide +kernel, rfl, by decide +kernel⟩
  | 106, _ => exact ⟨pg_codeB_ok pgc_106, pg_pl pgp_4, pg_mp (f := 106) (oc := 4) rfl pgp_4 pg_oi (pg_mle pgq_4), pg_p2 pgp_4 pg_ac, by decide +kernel, rfl, by decide +kernel⟩
  | 107, _ => exact ⟨pg_codeB_ok pgc_107, pg_pl pgp_23, pg_mp (f := 107) (oc := 18) rfl pgp_23 pg_oi (pg_mle pgq_23), pg_p2 pgp_23 pg_ac, by decide +kernel, rfl, by decide +kernel⟩
  | 108, _ => exact ⟨pg_codeB_ok pgc_108, pg_pl pgp_9, pg_mp (f := 108) (oc := 9) rfl pgp_9 pg_oi (pg_mle pgq_9), pg_p2 pgp_9 pg_ac, by decide +kernel, rfl, by decide +kernel⟩
  | 109, _ => exact ⟨pg_codeB_ok pgc_109, pg_pl pgp_9, pg_mp (f := 109) (oc := 9) rfl pgp_9 pg_oi (pg_mle pgq_9), pg_p2 pgp_9 pg_ac, by decide +kernel, rfl, by decide +kernel⟩
  | 110, _ => exact ⟨pg_codeB_ok pgc_110, pg_pl pgp_9, pg_mp (f := 110) (oc := 9) rfl pgp_9 pg_oi (pg_mle pgq_9), pg_p2 pgp_9 pg_ac, by decide +kernel, rfl, by decide +kernel⟩
  | 111, _ => exact ⟨pg_codeB_ok pgc_111, pg_pl pgp_9, pg_mp (f := 111) (oc := 9) rfl pgp_9 pg_oi (pg_mle pgq_9), pg_p2 pgp_9 pg_ac, by decide +kernel, rfl, by decide +kernel⟩
  | 112, _ => exact ⟨pg_codeB_ok pgc_112, pg_pl pgp_9, pg_mp (f := 112) (oc := 9) rfl pgp_9 pg_oi (pg_mle pgq_9), pg_p2 pgp_9 pg_ac, by decide +kernel, rfl, by decide +kernel⟩
  | 113, _ => exact ⟨pg_codeB_ok pgc_113, pg_pl pgp_12, pg_mp (f := 113) (oc := 999) rfl pgp_12 pg_oi (pg_mle pgq_12), pg_p2 pgp_12 pg_ac, by decide +kernel, rfl, by decide +kernel⟩
  | 114, _ => exact ⟨pg_codeB_ok pgc_114, pg_pl pgp_0, pg_mp (f := 114) (oc := 0) rfl pgp_0 pg_oi (pg_mle pgq_0), pg_p2 pgp_0 pg_ac, by decide +kernel, rfl, by decide +kernel⟩
  | 115, _ => exact ⟨pg_codeB_ok pgc_115, pg_pl pgp_9, pg_mp (f := 115) (oc := 9) rfl pgp_9 pg_oi (pg_mle pgq_9), pg_p2 pgp_9 pg_ac, by decide +kernel, rfl, by decide +kernel⟩
  | 116, _ => exact ⟨pg_codeB_ok pgc_116, pg_pl pgp_9, pg_mp (f := 116) (oc := 9) rfl pgp_9 pg_oi (pg_mle pgq_9), pg_p2 pgp_9 pg_ac, by decide +kernel, rfl, by decide +kernel⟩
  | 117, _ => exact ⟨pg_codeB_ok pgc_117, pg_pl pgp_9, pg_mp (f := 117) (oc := 9) rfl pgp_9 pg_oi (pg_mle pgq_9), pg_p2 pgp_9 pg_ac, by decide +kernel, rfl, by decide +kernel⟩
  | 118, _ => exact ⟨pg_codeB_ok pgc_118, pg_pl pgp_9, pg_mp (f := 118) (oc := 9) rfl pgp_9 pg_oi (pg_mle pgq_9), pg_p2 pgp_9 pg_ac, by decide +kernel, rfl, by decide +kernel⟩
  | 119, _ => exact ⟨pg_codeB_ok pgc_119, pg_pl pgp_12, pg_mp (f := 119) (oc := 999) rfl pgp_12 pg_oi (pg_mle pgq_12), pg_p2 pgp_12 pg_ac, by decide +kernel, rfl, by decide +kernel⟩
  | 120, _ => exact ⟨pg_codeB_ok pgc_120, pg_pl pgp_0, pg_mp (f := 120) (oc := 0) rfl pgp_0 pg_oi (pg_mle pgq_0), pg_p2 pgp_0 pg_ac, by decide +kernel, rfl, by decide +kernel⟩
  | 121, _ => exact ⟨pg_codeB_ok pgc_121, pg_pl pgp_0, pg_mp (f := 121) (oc := 0) rfl pgp_0 pg_oi (pg_mle pgq_0), pg_p2 pgp_0 pg_ac, by decide +kernel, rfl, by decide +kernel⟩
  | 122, _ => exact ⟨pg_codeB_ok pgc_122, pg_pl pgp_7, pg_mp (f := 122) (oc := 7) rfl pgp_7 pg_oi (pg_mle pgq_7), pg_p2 pgp_7 pg_ac, by decide +kernel, rfl, by decide +kernel⟩
  | 123, _ => exact ⟨pg_codeB_ok pgc_123, pg_pl pgp_5, pg_mp (f := 123) (oc := 5) rfl pgp_5 pg_oi (pg_mle pgq_5), pg_p2 pgp_5 pg_ac, by decide +kernel, rfl, by decide +kernel⟩
  | 124, _ => exact ⟨pg_codeB_ok pgc_124, pg_pl pgp_7, pg_mp (f := 124) (oc := 7) rfl pgp_7 pg_oi (pg_mle pgq_7), pg_p2 pgp_7 pg_ac, by decide +kernel, rfl, by decide +kernel⟩
  | 125, _ => exact ⟨pg_codeB_ok pgc_125, pg_pl pgp_5, pg_mp (f := 125) (oc := 5) rfl pgp_5 pg_oi (pg_mle pgq_5), pg_p2 pgp_5 pg_ac, by decide +kernel, rfl, by decide +kernel⟩
  | 126, _ => exact ⟨pg_codeB_ok pgc_126, pg_pl pgp_5, pg_mp (f := 126) (oc := 5) rfl pgp_5 pg_oi (pg_mle pgq_5), pg_p2 pgp_5 pg_ac, by decide +kernel, rfl, by decide +kernel⟩
  | 127, _ => exact ⟨pg_codeB_ok pgc_127, pg_pl pgp_7, pg_mp (f := 127) (oc := 7) rfl pgp_7 pg_oi (pg_mle pgq_7), pg_p2 pgp_7 pg_ac, by decide +kernel, rfl, by decide +kernel⟩
  | 128, _ => exact ⟨pg_codeB_ok pgc_128, pg_pl pgp_5, pg_mp (f := 128) (oc := 5) rfl pgp_5 pg_oi (pg_mle pgq_5), pg_p2 pgp_5 pg_ac, by decide +kernel, rfl, by decide +kernel⟩
  | 129, _ => exact ⟨pg_codeB_ok pgc_129, pg_pl pgp_20, pg_mp (f := 129) (oc := 999) rfl pgp_20 pg_oi (pg_mle pgq_20), pg_p2 pgp_20 pg_ac, by decide +kernel, rfl, by decide +kernel⟩
  | 130, _ => exact ⟨pg_codeB_ok pgc_130, pg_pl pgp_7, pg_mp (f := 130) (oc := 7) rfl pgp_7 pg_oi (pg_mle pgq_7), pg_p2 pgp_7 pg_ac, by decide +kernel, rfl, by decide +kernel⟩
  | 131, _ => exact ⟨pg_codeB_ok pgc_131, pg_pl pgp_5, pg_mp (f := 131) (oc := 5) rfl pgp_5 pg_oi (pg_mle pgq_5), pg_p2 pgp_5 pg_ac, by decide +kernel, rfl, by decide +kernel⟩
  | 132, _ => exact ⟨pg_codeB_ok pgc_132, pg_pl pgp_5, pg_mp (f := 132) (oc := 5) rfl pgp_5 pg_oi (pg_mle pgq_5), pg_p2 pgp_5 pg_ac, by decide +kernel, rfl, by decide +kernel⟩
  | 133, _ => exact ⟨pg_codeB_ok pgc_133, pg_pl pgp_5, pg_mp (f := 133) (oc := 5) rfl pgp_5 pg_oi (pg_mle pgq_5), pg_p2 pgp_5 pg_ac, by decide +kernel, rfl, by decide +kernel⟩
  | 134, _ => exact ⟨pg_codeB_ok pgc_134, pg_pl pgp_5, pg_mp (f := 134) (oc := 5) rfl pgp_5 pg_oi (pg_mle pgq_5), pg_p2 pgp_5 pg_ac, by decide +kernel, rfl, by decide +kernel⟩
  | 135, _ => exact ⟨pg_codeB_ok pgc_135, pg_pl pgp_5, pg_mp (f := 135) (oc := 5) rfl pgp_5 pg_oi (pg_mle pgq_5), pg_p2 pgp_5 pg_ac, by decide +kernel, rfl, by decide +kernel⟩
  | 136, _ => exact ⟨pg_codeB_ok pgc_136, pg_pl pgp_5, pg_mp (f := 136) (oc := 5) rfl pgp_5 pg_oi (pg_mle pgq_5), pg_p2 pgp_5 pg_ac, by decide +kernel, rfl, by decide +kernel⟩
  | 137, _ => exact ⟨pg_codeB_ok pgc_137, pg_pl pgp_5, pg_mp (f := 137) (oc := 5) rfl pgp_5 pg_oi (pg_mle pgq_5), pg_p2 pgp_5 pg_ac, by decide +kernel, rfl, by decide +kernel⟩
  | 138, _ => exact ⟨pg_codeB_ok pgc_138, pg_pl pgp_12, pg_mp (f := 138) (oc := 999) rfl pgp_12 pg_oi (pg_mle pgq_12), pg_p2 pgp_12 pg_ac, by decide +kernel, rfl, by decide +kernel⟩
  | 139, _ => exact ⟨pg_codeB_ok pgc_139, pg_pl pgp_0, pg_mp (f := 139) (oc := 0) rfl pgp_0 pg_oi (pg_mle pgq_0), pg_p2 pgp_0 pg_ac, by decide +kernel, rfl, by decide +kernel⟩
  | 140, _ => exact ⟨pg_codeB_ok pgc_140, pg_pl pgp_6, pg_mp (f := 140) (oc := 6) rfl pgp_6 pg_oi (pg_mle pgq_6), pg_p2 pgp_6 pg_ac, by decide +kernel, rfl, by decide +kernel⟩
  | 141, _ => exact ⟨pg_codeB_ok pgc_141, pg_pl pgp_6, pg_mp (f := 141) (oc := 6) rfl pgp_6 pg_oi (pg_mle pgq_6), pg_p2 pgp_6 pg_ac, by decide +kernel, rfl, by decide +kernel⟩
  | 142, _ => exact ⟨pg_codeB_ok pgc_142, pg_pl pgp_6, pg_mp (f := 142) (oc := 6) rfl pgp_6 pg_oi (pg_mle pgq_6), pg_p2 pgp_6 pg_ac, by decide +kernel, rfl, by decide +kernel⟩
  | 143, _ => exact ⟨pg_codeB_ok pgc_143, pg_pl pgp_6, pg_mp (f := 143) (oc := 6) rfl pgp_6 pg_oi (pg_mle pgq_6), pg_p2 pgp_6 pg_ac, by decide +kernel, rfl, by decide +kernel⟩
  | 144, _ => exact ⟨pg_codeB_ok pgc_144, pg_pl pgp_6, pg_mp (f := 144) (oc := 6) rfl pgp_6 pg_oi (pg_mle pgq_6), pg_p2 pgp_6 pg_ac, by decide +kernel, rfl, by decide +kernel⟩
  | 145, _ => exact ⟨pg_codeB_ok pgc_145, pg_pl pgp_6, pg_mp (f := 145) (oc := 6) rfl pgp_6 pg_oi (pg_mle pgq_6), pg_p2 pgp_6 pg_ac, by decide +kernel, rfl, by decide +kernel⟩
  | 146, _ => exact ⟨pg_codeB_ok pgc_146, pg_pl pgp_2, pg_mp (f := 146) (oc := 2) rfl pgp_2 pg_oi (pg_mle pgq_2), pg_p2 pgp_2 pg_ac, by decide +kernel, rfl, by decide +kernel⟩
  | 147, _ => exact ⟨pg_codeB_ok pgc_147, pg_pl pgp_2, pg_mp (f := 147) (oc := 2) rfl pgp_2 pg_oi (pg_mle pgq_2), pg_p2 pgp_2 pg_ac, by decide +kernel, rfl, by decide +kernel⟩
  | 148, _ => exact ⟨pg_codeB_ok pgc_148, pg_pl pgp_6, pg_mp (f := 148) (oc := 6) rfl pgp_6 pg_oi (pg_mle pgq_6), pg_p2 pgp_6 pg_ac, by decide +kernel, rfl, by decide +kernel⟩
  | 149, _ => exact ⟨pg_codeB_ok pgc_149, pg_pl pgp_2, pg_mp (f := 149) (oc := 2) rfl pgp_2 pg_oi (pg_mle pgq_2), pg_p2 pgp_2 pg_ac, by decide +kernel, rfl, by decide +kernel⟩
  | 150, _ => exact ⟨pg_codeB_ok pgc_150, pg_pl pgp_2, pg_mp (f := 150) (oc := 2) rfl pgp_2 pg_oi (pg_mle pgq_2), pg_p2 pgp_2 pg_ac, by decide +kernel, rfl, by decide +kernel⟩
  | 151, _ => exact ⟨pg_codeB_ok pgc_151, pg_pl pgp_2, pg_mp (f := 151) (oc := 2) rfl pgp_2 pg_oi (pg_mle pgq_2), pg_p2 pgp_2 pg_ac, by decide +kernel, rfl, by decide +kernel⟩
  | 152, _ => exact ⟨pg_codeB_ok pgc_152, pg_pl pgp_5, pg_mp (f := 152) (oc := 5) rfl pgp_5 pg_oi (pg_mle pgq_5), pg_p2 pgp_5 pg_ac, by decide +kernel, rfl, by decide +kernel⟩
  | 153, _ => exact ⟨pg_codeB_ok pgc_153, pg_pl pgp_5, pg_mp (f := 153) (oc := 5) rfl pgp_5 pg_oi (pg_mle pgq_5), pg_p2 pgp_5 pg_ac, by decide +kernel, rfl, by decide +kernel⟩
  | 154, _ => exact ⟨pg_codeB_ok pgc_154, pg_pl pgp_2, pg_mp (f := 154) (oc := 2) rfl pgp_2 pg_oi (pg_mle pgq_2), pg_p2 pgp_2 pg_ac, by decide +kernel, rfl, by decide +kernel⟩
  | 155, _ => exact ⟨pg_codeB_ok pgc_155, pg_pl pgp_5, pg_mp (f := 155) (oc := 5) rfl pgp_5 pg_oi (pg_mle pgq_5), pg_p2 pgp_5 pg_ac, by decide +kernel, rfl, by decide +kernel⟩
  | 156, _ => exact ⟨pg_codeB_ok pgc_156, pg_pl pgp_2, pg_mp (f := 156) (oc := 2) rfl pgp_2 pg_oi (pg_mle pgq_2), pg_p2 pgp_2 pg_ac, by decide +kernel, rfl, by decide +kernel⟩
  | 157, _ => exact ⟨pg_codeB_ok pgc_157, pg_pl pgp_6, pg_mp (f := 157) (oc := 6) rfl pgp_6 pg_oi (pg_mle pgq_6), pg_p2 pgp_6 pg_ac, by decide +kernel, rfl, by decide +kernel⟩
  | 158, _ => exact ⟨pg_codeB_ok pgc_158, pg_pl pgp_6, pg_mp (f := 158) (oc := 6) rfl pgp_6 pg_oi (pg_mle pgq_6), pg_p2 pgp_6 pg_ac, by decide +kernel, rfl, by decide +kernel⟩
  | 159, _ => exact ⟨pg_codeB_ok pgc_159, pg_pl pgp_6, pg_mp (f := 159) (oc := 6) rfl pgp_6 pg_oi (pg_mle pgq_6), pg_p2 pgp_6 pg_ac, by decide +kernel, rfl, by decide +kernel⟩
  | 160, _ => exact ⟨pg_codeB_ok pgc_160, pg_pl pgp_6, pg_mp (f := 160) (oc := 6) rfl pgp_6 pg_oi (pg_mle pgq_6), pg_p2 pgp_6 pg_ac, by decide +kernel, rfl, by decide +kernel⟩
  | 161, _ => exact ⟨pg_codeB_ok pgc_161, pg_pl pgp_12, pg_mp (f := 161) (oc := 999) rfl pgp_12 pg_oi (pg_mle pgq_12), pg_p2 pgp_12 pg_ac, by decide +kernel, rfl, by decide +kernel⟩
  | 162, _ => exact ⟨pg_codeB_ok pgc_162, pg_pl pgp_0, pg_mp (f := 162) (oc := 0) rfl pgp_0 pg_oi (pg_mle pgq_0), pg_p2 pgp_0 pg_ac, by decide +kernel, rfl, by decide +kernel⟩
  | 163, _ => exact ⟨pg_codeB_ok pgc_163, pg_pl pgp_0, pg_mp (f := 163) (oc := 0) rfl pgp_0 pg_oi (pg_mle pgq_0), pg_p2 pgp_0 pg_ac, by decide +kernel, rfl, by decide +kernel⟩
  | 164, _ => exact ⟨pg_codeB_ok pgc_164, pg_pl pgp_0, pg_mp (f := 164) (oc := 0) rfl pgp_0 pg_oi (pg_mle pgq_0), pg_p2 pgp_0 pg_ac, by decide +kernel, rfl, by decide +kernel⟩
  | 165, _ => exact ⟨pg_codeB_ok pgc_165, pg_pl pgp_12, pg_mp (f := 165) (oc := 999) rfl pgp_12 pg_oi (pg_mle pgq_12), pg_p2 pgp_12 pg_ac, by decide +kernel, rfl, by decide +kernel⟩
  | 166, _ => exact ⟨pg_codeB_ok pgc_166, pg_pl pgp_0, pg_mp (f := 166) (oc := 0) rfl pgp_0 pg_oi (pg_mle pgq_0), pg_p2 pgp_0 pg_ac, by decide +kernel, rfl, by decide +kernel⟩
  | 167, _ => exact ⟨pg_codeB_ok pgc_167, pg_pl pgp_11, pg_mp (f := 167) (oc := 11) rfl pgp_11 pg_oi (pg_mle pgq_11), pg_p2 pgp_11 pg_ac, by decide +kernel, rfl, by decide +kernel⟩
  | 168, _ => exact ⟨pg_codeB_ok pgc_168, pg_pl pgp_11, pg_mp (f := 168) (oc := 11) rfl pgp_11 pg_oi (pg_mle pgq_11), pg_p2 pgp_11 pg_ac, by decide +kernel, rfl, by decide +kernel⟩
  | 169, _ => exact ⟨pg_codeB_ok pgc_169, pg_pl pgp_11, pg_mp (f := 169) (oc := 11) rfl pgp_11 pg_oi (pg_mle pgq_11), pg_p2 pgp_11 pg_ac, by decide +kernel, rfl, by decide +kernel⟩
  | 170, _ => exact ⟨pg_codeB_ok pgc_170, pg_pl pgp_11, pg_mp (f := 170) (oc := 11) rfl pgp_11 pg_oi (pg_mle pgq_11), pg_p2 pgp_11 pg_ac, by decide +kernel, rfl, by decide +kernel⟩
  | 171, _ => exact ⟨pg_codeB_ok pgc_171, pg_pl pgp_12, pg_mp (f := 171) (oc := 999) rfl pgp_12 pg_oi (pg_mle pgq_12), pg_p2 pgp_12 pg_ac, by decide +kernel, rfl, by decide +kernel⟩
  | 172, _ => exact ⟨pg_codeB_ok pgc_172, pg_pl pgp_0, pg_mp (f := 172) (oc := 0) rfl pgp_0 pg_oi (pg_mle pgq_0), pg_p2 pgp_0 pg_ac, by decide +kernel, rfl, by decide +kernel⟩
  | 173, _ => exact ⟨pg_codeB_ok pgc_173, pg_pl pgp_12, pg_mp (f := 173) (oc := 999) rfl pgp_12 pg_oi (pg_mle pgq_12), pg_p2 pgp_12 pg_ac, by decide +kernel, rfl, by decide +kernel⟩
  | 174, _ => exact ⟨pg_codeB_ok pgc_174, pg_pl pgp_0, pg_mp (f := 174) (oc := 0) rfl pgp_0 pg_oi (pg_mle pgq_0), pg_p2 pgp_0 pg_ac, by decide +kernel, rfl, by decide +kernel⟩
  | 175, _ => exact ⟨pg_codeB_ok pgc_175, pg_pl pgp_12, pg_mp (f := 175) (oc := 999) rfl pgp_12 pg_oi (pg_mle pgq_12), pg_p2 pgp_12 pg_ac, by decide +kernel, rfl, by decide +kernel⟩
  | 176, _ => exact ⟨pg_codeB_ok pgc_176, pg_pl pgp_0, pg_mp (f := 176) (oc := 0) rfl pgp_0 pg_oi (pg_mle pgq_0), pg_p2 pgp_0 pg_ac, by decide +kernel, rfl, by decide +kernel⟩
  | 177, _ => exact ⟨pg_codeB_ok pgc_177, pg_pl pgp_12, pg_mp (f := 177) (oc := 999) rfl pgp_12 pg_oi (pg_mle pgq_12), pg_p2 pgp_12 pg_ac, by decide +kernel, rfl, by decide +kernel⟩
  | 178, _ => exact ⟨pg_codeB_ok pgc_178, pg_pl pgp_0, pg_mp (f := 178) (oc := 0) rfl pgp_0 pg_oi (pg_mle pgq_0), pg_p2 pgp_0 pg_ac, by decide +kernel, rfl, by decide +kernel⟩
  | 179, _ => exact ⟨pg_codeB_ok pgc_179, pg_pl pgp_12, pg_mp (f := 179) (oc := 999) rfl pgp_12 pg_oi (pg_mle pgq_12), pg_p2 pgp_12 pg_ac, by decide +kernel, rfl, by decide +kernel⟩
  | 180, _ => exact ⟨pg_codeB_ok pgc_180, pg_pl pgp_0, pg_mp (f := 180) (oc := 0) rfl pgp_0 pg_oi (pg_mle pgq_0), pg_p2 pgp_0 pg_ac, by decide +kernel, rfl, by decide +kernel⟩
  | 181, _ => exact ⟨pg_codeB_ok pgc_181, pg_pl pgp_9, pg_mp (f := 181) (oc := 9) rfl pgp_9 pg_oi (pg_mle pgq_9), pg_p2 pgp_9 pg_ac, by decide +kernel, rfl, by decide +kernel⟩
  | 182, _ => exact ⟨pg_codeB_ok pgc_182, pg_pl pgp_13, pg_mp (f := 182) (oc := 12) rfl pgp_13 pg_oi (pg_mle pgq_13), pg_p2 pgp_13 pg_ac, by decide +kernel, rfl, by decide +kernel⟩
  | 183, _ => exact ⟨pg_codeB_ok pgc_183, pg_pl pgp_14, pg_mp (f := 183) (oc := 13) rfl pgp_14 pg_oi (pg_mle pgq_14), pg_p2 pgp_14 pg_ac, by decide +kernel, rfl, by decide +kernel⟩
  | 184, _ => exact ⟨pg_codeB_ok pgc_184, pg_pl pgp_13, pg_mp (f := 184) (oc := 12) rfl pgp_13 pg_oi (pg_mle pgq_13), pg_p2 pgp_13 pg_ac, by decide +kernel, rfl, by decide +kernel⟩
  | 185, _ => exact ⟨pg_codeB_ok pgc_185, pg_pl pgp_14, pg_mp (f := 185) (oc := 13) rfl pgp_14 pg_oi (pg_mle pgq_14), pg_p2 pgp_14 pg_ac, by decide +kernel, rfl, by decide +kernel⟩
  | 186, _ => exact ⟨pg_codeB_ok pgc_186, pg_pl pgp_14, pg_mp (f := 186) (oc := 13) rfl pgp_14 pg_oi (pg_mle pgq_14), pg_p2 pgp_14 pg_ac, by decide +kernel, rfl, by decide +kernel⟩
  | 187, _ => exact ⟨pg_codeB_ok pgc_187, pg_pl pgp_13, pg_mp (f := 187) (oc := 12) rfl pgp_13 pg_oi (pg_mle pgq_13), pg_p2 pgp_13 pg_ac, by decide +kernel, rfl, by decide +kernel⟩
  | 188, _ => exact ⟨pg_codeB_ok pgc_188, pg_pl pgp_13, pg_mp (f := 188) (oc := 12) rfl pgp_13 pg_oi (pg_mle pgq_13), pg_p2 pgp_13 pg_ac, by decide +kernel, rfl, by decide +kernel⟩
  | 189, _ => exact ⟨pg_codeB_ok pgc_189, pg_pl pgp_13, pg_mp (f := 189) (oc := 12) rfl pgp_13 pg_oi (pg_mle pgq_13), pg_p2 pgp_13 pg_ac, by decide +kernel, rfl, by decide +kernel⟩
  | 190, _ => exact ⟨pg_codeB_ok pgc_190, pg_pl pgp_13, pg_mp (f := 190) (oc := 12) rfl pgp_13 pg_oi (pg_mle pgq_13), pg_p2 pgp_13 pg_ac, by decide +kernel, rfl, by decide +kernel⟩
  | 191, _ => exact ⟨pg_codeB_ok pgc_191, pg_pl pgp_13, pg_mp (f := 191) (oc := 12) rfl pgp_13 pg_oi (pg_mle pgq_13), pg_p2 pgp_13 pg_ac, by decide +kernel, rfl, by decide +kernel⟩
  | 192, _ => exact ⟨pg_codeB_ok pgc_192, pg_pl pgp_13, pg_mp (f := 192) (oc := 12) rfl pgp_13 pg_oi (pg_mle pgq_13), pg_p2 pgp_13 pg_ac, by decide +kernel, rfl, by decide +kernel⟩
  | 193, _ => exact ⟨pg_codeB_ok pgc_193, pg_pl pgp_13, pg_mp (f := 193) (oc := 12) rfl pgp_13 pg_oi (pg_mle pgq_13), pg_p2 pgp_13 pg_ac, by decide +kernel, rfl, by decide +kernel⟩
  | 194, _ => exact ⟨pg_codeB_ok pgc_194, pg_pl pgp_13, pg_mp (f := 194) (oc := 12) rfl pgp_13 pg_oi (pg_mle pgq_13), pg_p2 pgp_13 pg_ac, by decide +kernel, rfl, by decide +kernel⟩
  | 195, _ => exact ⟨pg_codeB_ok pgc_195, pg_pl pgp_13, pg_mp (f := 195) (oc := 12) rfl pgp_13 pg_oi (pg_mle pgq_13), pg_p2 pgp_13 pg_ac, by decide +kernel, rfl, by decide +kernel⟩
  | 196, _ => exact ⟨pg_codeB_ok pgc_196, pg_pl pgp_13, pg_mp (f := 196) (oc := 12) rfl pgp_13 pg_oi (pg_mle pgq_13), pg_p2 pgp_13 pg_ac, by decide +kernel, rfl, by decide +kernel⟩
  | 197, _ => exact ⟨pg_codeB_ok pgc_197, pg_pl pgp_13, pg_mp (f := 197) (oc := 12) rfl pgp_13 pg_oi (pg_mle pgq_13), pg_p2 pgp_13 pg_ac, by decide +kernel, rfl, by decide +kernel⟩
  | 198, _ => exact ⟨pg_codeB_ok pgc_198, pg_pl pgp_13, pg_mp (f := 198) (oc := 12) rfl pgp_13 pg_oi (pg_mle pgq_13), pg_p2 pgp_13 pg_ac, by decide +kernel, rfl, by decide +kernel⟩
  | 199, _ => exact ⟨pg_codeB_ok pgc_199, pg_pl pgp_13, pg_mp (f := 199) (oc := 12) rfl pgp_13 pg_oi (pg_mle pgq_13), pg_p2 pgp_13 pg_ac, by decide +kernel, rfl, by decide +kernel⟩
  | 200, _ => exact ⟨pg_codeB_ok pgc_200, pg_pl pgp_13, pg_mp (f := 200) (oc := 12) rfl pgp_13 pg_oi (pg_mle pgq_13), pg_p2 pgp_13 pg_ac, by decide +kernel, rfl, by decide +kernel⟩
  | 201, _ => exact ⟨pg_codeB_ok pgc_201, pg_pl pgp_13, pg_mp (f := 201) (oc := 12) rfl pgp_13 pg_oi (pg_mle pgq_13), pg_p2 pgp_13 pg_ac, by decide +kernel, rfl, by decide +kernel⟩
  | 202, _ => exact ⟨pg_codeB_ok pgc_202, pg_pl pgp_13, pg_mp (f := 202) (oc := 12) rfl pgp_13 pg_oi (pg_mle pgq_13), pg_p2 pgp_13 pg_ac, by decide +kernel, rfl, by decide +kernel⟩
  | 203, _ => exact ⟨pg_codeB_ok pgc_203, pg_pl pgp_13, pg_mp (f := 203) (oc := 12) rfl pgp_13 pg_oi (pg_mle pgq_13), pg_p2 pgp_13 pg_ac, by decide +kernel, rfl, by decide +kernel⟩
  | 204, _ => exact ⟨pg_codeB_ok pgc_204, pg_pl pgp_21, pg_mp (f := 204) (oc := 998) rfl pgp_21 pg_oi (pg_mle pgq_21), pg_p2 pgp_21 pg_ac, by decide +kernel, rfl, by decide +kernel⟩
  | 205, _ => exact ⟨pg_codeB_ok pgc_205, pg_pl pgp_22, pg_mp (f := 205) (oc := 999) rfl pgp_22 pg_oi (pg_mle pgq_22), pg_p2 pgp_22 pg_ac, by decide +kernel, rfl, by decide +kernel⟩
  | 206, _ => exact ⟨pg_codeB_ok pgc_206, pg_pl pgp_13, pg_mp (f := 206) (oc := 12) rfl pgp_13 pg_oi (pg_mle pgq_13), pg_p2 pgp_13 pg_ac, by decide +kernel, rfl, by decide +kernel⟩
  | 207, _ => exact ⟨pg_codeB_ok pgc_207, pg_pl pgp_13, pg_mp (f := 207) (oc := 12) rfl pgp_13 pg_oi (pg_mle pgq_13), pg_p2 pgp_13 pg_ac, by decide +kernel, rfl, by decide +kernel⟩
  | 208, _ => exact ⟨pg_codeB_ok pgc_208, pg_pl pgp_13, pg_mp (f := 208) (oc := 12) rfl pgp_13 pg_oi (pg_mle pgq_13), pg_p2 pgp_13 pg_ac, by decide +kernel, rfl, by decide +kernel⟩
  | 209, _ => exact ⟨pg_codeB_ok pgc_209, pg_pl pgp_13, pg_mp (f := 209) (oc := 12) rfl pgp_13 pg_oi (pg_mle pgq_13), pg_p2 pgp_13 pg_ac, by decide +kernel, rfl, by decide +kernel⟩
  | 210, _ => exact ⟨pg_codeB_ok pgc_210, pg_pl pgp_13, pg_mp (f := 210) (oc := 12) rfl pgp_13 pg_oi (pg_mle pgq_13), pg_p2 pgp_13 pg_ac, by decide +kernel, rfl, by decide +kernel⟩
  | 211, _ => exact ⟨pg_codeB_ok pgc_211, pg_pl pgp_13, pg_mp (f := 211) (oc := 12) rfl pgp_13 pg_oi (pg_mle pgq_13), pg_p2 pgp_13 pg_ac, by decide +kernel, rfl, by decide +kernel⟩
  | 212, _ => exact ⟨pg_codeB_ok pgc_212, pg_pl pgp_13, pg_mp (f := 212) (oc := 12) rfl pgp_13 pg_oi (pg_mle pgq_13), pg_p2 pgp_13 pg_ac, by decide +kernel, rfl, by decide +kernel⟩
  | 213, _ => exact ⟨pg_codeB_ok pgc_213, pg_pl pgp_13, pg_mp (f := 213) (oc := 12) rfl pgp_13 pg_oi (pg_mle pgq_13), pg_p2 pgp_13 pg_ac, by decide +kernel, rfl, by decide +kernel⟩
  | 214, _ => exact ⟨pg_codeB_ok pgc_214, pg_pl pgp_13, pg_mp (f := 214) (oc := 12) rfl pgp_13 pg_oi (pg_mle pgq_13), pg_p2 pgp_13 pg_ac, by decide +kernel, rfl, by decide +kernel⟩
  | 215, _ => exact ⟨pg_codeB_ok pgc_215, pg_pl pgp_13, pg_mp (f := 215) (oc := 12) rfl pgp_13 pg_oi (pg_mle pgq_13), pg_p2 pgp_13 pg_ac, by decide +kernel, rfl, by decide +kernel⟩
  | 216, _ => exact ⟨pg_codeB_ok pgc_216, pg_pl pgp_13, pg_mp (f := 216) (oc := 12) rfl pgp_13 pg_oi (pg_mle pgq_13), pg_p2 pgp_13 pg_ac, by decide +kernel, rfl, by decide +kernel⟩
  | 217, _ => exact ⟨pg_codeB_ok pgc_217, pg_pl pgp_13, pg_mp (f := 217) (oc := 12) rfl pgp_13 pg_oi (pg_mle pgq_13), pg_p2 pgp_13 pg_ac, by decide +kernel, rfl, by decide +kernel⟩
  | 218, _ => exact ⟨pg_codeB_ok pgc_218, pg_pl pgp_13, pg_mp (f := 218) (oc := 12) rfl pgp_13 pg_oi (pg_mle pgq_13), pg_p2 pgp_13 pg_ac, by decide +kernel, rfl, by decide +kernel⟩
  | 219, _ => exact ⟨pg_codeB_ok pgc_219, pg_pl pgp_13, pg_mp (f := 219) (oc := 12) rfl pgp_13 pg_oi (pg_mle pgq_13), pg_p2 pgp_13 pg_ac, by decide +kernel, rfl, by decide +kernel⟩
  | 220, _ => exact ⟨pg_codeB_ok pgc_220, pg_pl pgp_13, pg_mp (f := 220) (oc := 12) rfl pgp_13 pg_oi (pg_mle pgq_13), pg_p2 pgp_13 pg_ac, by decide +kernel, rfl, by decide +kernel⟩
  | 221, _ => exact ⟨pg_codeB_ok pgc_221, pg_pl pgp_13, pg_mp (f := 221) (oc := 12) rfl pgp_13 pg_oi (pg_mle pgq_13), pg_p2 pgp_13 pg_ac, by decide +kernel, rfl, by decide +kernel⟩
  | 222, _ => exact ⟨pg_codeB_ok pgc_222, pg_pl pgp_13, pg_mp (f := 222) (oc := 12) rfl pgp_13 pg_oi (pg_mle pgq_13), pg_p2 pgp_13 pg_ac, by decide +kernel, rfl, by decide +kernel⟩
  | 223, _ => exact ⟨pg_codeB_ok pgc_223, pg_pl pgp_13, pg_mp (f := 223) (oc := 12) rfl pgp_13 pg_oi (pg_mle pgq_13), pg_p2 pgp_13 pg_ac, by decide +kernel, rfl, by decide +kernel⟩
  | 224, _ => exact ⟨pg_codeB_ok pgc_224, pg_pl pgp_13, pg_mp (f := 224) (oc := 12) rfl pgp_13 pg_oi (pg_mle pgq_13), pg_p2 pgp_13 pg_ac, by decide +kernel, rfl, by decide +kernel⟩
  | 225, _ => exact ⟨pg_codeB_ok pgc_225, pg_pl pgp_13, pg_mp (f := 225) (oc := 12) rfl pgp_13 pg_oi (pg_mle pgq_13), pg_p2 pgp_13 pg_ac, by decide +kernel, rfl, by decide +kernel⟩
  | 226, _ => exact ⟨pg_codeB_ok pgc_226, pg_pl pgp_13, pg_mp (f := 226) (oc := 12) rfl pgp_13 pg_oi (pg_mle pgq_13), pg_p2 pgp_13 pg_ac, by decide +kernel, rfl, by decide +kernel⟩
  | 227, _ => exact ⟨pg_codeB_ok pgc_227, pg_pl pgp_13, pg_mp (f := 227) (oc := 12) rfl pgp_13 pg_oi (pg_mle pgq_13), pg_p2 pgp_13 pg_ac, by decide +kernel, rfl, by decide +kernel⟩
  | 228, _ => exact ⟨pg_codeB_ok pgc_228, pg_pl pgp_13, pg_mp (f := 228) (oc := 12) rfl pgp_13 pg_oi (pg_mle pgq_13), pg_p2 pgp_13 pg_ac, by decide +kernel, rfl, by decide +kernel⟩
  | 229, _ => exact ⟨pg_codeB_ok pgc_229, pg_pl pgp_13, pg_mp (f := 229) (oc := 12) rfl pgp_13 pg_oi (pg_mle pgq_13), pg_p2 pgp_13 pg_ac, by decide +kernel, rfl, by decide +kernel⟩
  | 230, _ => exact ⟨pg_codeB_ok pgc_230, pg_pl pgp_13, pg_mp (f := 230) (oc := 12) rfl pgp_13 pg_oi (pg_mle pgq_13), pg_p2 pgp_13 pg_ac, by decide +kernel, rfl, by decide +kernel⟩
  | 231, _ => exact ⟨pg_codeB_ok pgc_231, pg_pl pgp_13, pg_mp (f := 231) (oc := 12) rfl pgp_13 pg_oi (pg_mle pgq_13), pg_p2 pgp_13 pg_ac, by decide +kernel, rfl, by decide +kernel⟩
  | 232, _ => exact ⟨pg_codeB_ok pgc_232, pg_pl pgp_13, pg_mp (f := 232) (oc := 12) rfl pgp_13 pg_oi (pg_mle pgq_13), pg_p2 pgp_13 pg_ac, by decide +kernel, rfl, by decide +kernel⟩
  | 233, _ => exact ⟨pg_codeB_ok pgc_233, pg_pl pgp_13, pg_mp (f := 233) (oc := 12) rfl pgp_13 pg_oi (pg_mle pgq_13), pg_p2 pgp_13 pg_ac, by decide +kernel, rfl, by decide +kernel⟩
  | 234, _ => exact ⟨pg_codeB_ok pgc_234, pg_pl pgp_13, pg_mp (f := 234) (oc := 12) rfl pgp_13 pg_oi (pg_mle pgq_13), pg_p2 pgp_13 pg_ac, by decide +kernel, rfl, by decide +kernel⟩
  | 235, _ => exact ⟨pg_codeB_ok pgc_235, pg_pl pgp_13, pg_mp (f := 235) (oc := 12) rfl pgp_13 pg_oi (pg_mle pgq_13), pg_p2 pgp_13 pg_ac, by decide +kernel, rfl, by decide +kernel⟩
  | 236, _ => exact ⟨pg_codeB_ok pgc_236, pg_pl pgp_13, pg_mp (f := 236) (oc := 12) rfl pgp_13 pg_oi (pg_mle pgq_13), pg_p2 pgp_13 pg_ac, by decide +kernel, rfl, by decide +kernel⟩
  | 237, _ => exact ⟨pg_codeB_ok pgc_237, pg_pl pgp_13, pg_mp (f := 237) (oc := 12) rfl pgp_13 pg_oi (pg_mle pgq_13), pg_p2 pgp_13 pg_ac, by decide +kernel, rfl, by decide +kernel⟩
  | 238, _ => exact ⟨pg_codeB_ok pgc_238, pg_pl pgp_13, pg_mp (f := 238) (oc := 12) rfl pgp_13 pg_oi (pg_mle pgq_13), pg_p2 pgp_13 pg_ac, by decide +kernel, rfl, by decide +kernel⟩
  | 239, _ => exact ⟨pg_codeB_ok pgc_239, pg_pl pgp_13, pg_mp (f := 239) (oc := 12) rfl pgp_13 pg_oi (pg_mle pgq_13), pg_p2 pgp_13 pg_ac, by decide +kernel, rfl, by decide +kernel⟩
  | 240, _ => exact ⟨pg_codeB_ok pgc_240, pg_pl pgp_13, pg_mp (f := 240) (oc := 12) rfl pgp_13 pg_oi (pg_mle pgq_13), pg_p2 pgp_13 pg_ac, by decide +kernel, rfl, by decide +kernel⟩
  | 241, _ => exact ⟨pg_codeB_ok pgc_241, pg_pl pgp_13, pg_mp (f := 241) (oc := 12) rfl pgp_13 pg_oi (pg_mle pgq_13), pg_p2 pgp_13 pg_ac, by decide +kernel, rfl, by decide +kernel⟩
  | 242, _ => exact ⟨pg_codeB_ok pgc_242, pg_pl pgp_13, pg_mp (f := 242) (oc := 12) rfl pgp_13 pg_oi (pg_mle pgq_13), pg_p2 pgp_13 pg_ac, by decide +kernel, rfl, by decide +kernel⟩
  | 243, _ => exact ⟨pg_codeB_ok pgc_243, pg_pl pgp_13, pg_mp (f := 243) (oc := 12) rfl pgp_13 pg_oi (pg_mle pgq_13), pg_p2 pgp_13 pg_ac, by decide +kernel, rfl, by decide +kernel⟩
  | 244, _ => exact ⟨pg_codeB_ok pgc_244, pg_pl pgp_14, pg_mp (f := 244) (oc := 13) rfl pgp_14 pg_oi (pg_mle pgq_14), pg_p2 pgp_14 pg_ac, by decide +kernel, rfl, by decide +kernel⟩
  | 245, _ => exact ⟨pg_codeB_ok pgc_245, pg_pl pgp_14, pg_mp (f := 245) (oc := 13) rfl pgp_14 pg_oi (pg_mle pgq_14), pg_p2 pgp_14 pg_ac, by decide +kernel, rfl, by decide +kernel⟩
  | 246, _ => exact ⟨pg_codeB_ok pgc_246, pg_pl pgp_14, pg_mp (f := 246) (oc := 13) rfl pgp_14 pg_oi (pg_mle pgq_14), pg_p2 pgp_14 pg_ac, by decide +kernel, rfl, by decide +kernel⟩
  | 247, _ => exact ⟨pg_codeB_ok pgc_247, pg_pl pgp_14, pg_mp (f := 247) (oc := 13) rfl pgp_14 pg_oi (pg_mle pgq_14), pg_p2 pgp_14 pg_ac, by decide +kernel, rfl, by decide +kernel⟩
  | 248, _ => exact ⟨pg_codeB_ok pgc_248, pg_pl pgp_14, pg_mp (f := 248) (oc := 13) rfl pgp_14 pg_oi (pg_mle pgq_14), pg_p2 pgp_14 pg_ac, by decide +kernel, rfl, by decide +kernel⟩
  | 249, _ => exact ⟨pg_codeB_ok pgc_249, pg_pl pgp_14, pg_mp (f := 249) (oc := 13) rfl pgp_14 pg_oi (pg_mle pgq_14), pg_p2 pgp_14 pg_ac, by decide +kernel, rfl, by decide +kernel⟩
  | 250, _ => exact ⟨pg_codeB_ok pgc_250, pg_pl pgp_13, pg_mp (f := 250) (oc := 12) rfl pgp_13 pg_oi (pg_mle pgq_13), pg_p2 pgp_13 pg_ac, by decide +kernel, rfl, by decide +kernel⟩
  | 251, _ => exact ⟨pg_codeB_ok pgc_251, pg_pl pgp_13, pg_mp (f := 251) (oc := 12) rfl pgp_13 pg_oi (pg_mle pgq_13), pg_p2 pgp_13 pg_ac, by decide +kernel, rfl, by decide +kernel⟩
  | 252, _ => exact ⟨pg_codeB_ok pgc_252, pg_pl pgp_14, pg_mp (f := 252) (oc := 13) rfl pgp_14 pg_oi (pg_mle pgq_14), pg_p2 pgp_14 pg_ac, by decide +kernel, rfl, by decide +kernel⟩
  | 253, _ => exact ⟨pg_codeB_ok pgc_253, pg_pl pgp_14, pg_mp (f := 253) (oc := 13) rfl pgp_14 pg_oi (pg_mle pgq_14), pg_p2 pgp_14 pg_ac, by decide +kernel, rfl, by decide +kernel⟩
  | 254, _ => exact ⟨pg_codeB_ok pgc_254, pg_pl pgp_14, pg_mp (f := 254) (oc := 13) rfl pgp_14 pg_oi (pg_mle pgq_14), pg_p2 pgp_14 pg_ac, by decide +kernel, rfl, by decide +kernel⟩
  | 255, _ => exact ⟨pg_codeB_ok pgc_255, pg_pl pgp_14, pg_mp (f := 255) (oc := 13) rfl pgp_14 pg_oi (pg_mle pgq_14), pg_p2 pgp_14 pg_ac, by decide +kernel, rfl, by decide +kernel⟩
  | 256, _ => exact ⟨pg_codeB_ok pgc_256, pg_pl pgp_13, pg_mp (f := 256) (oc := 12) rfl pgp_13 pg_oi (pg_mle pgq_13), pg_p2 pgp_13 pg_ac, by decide +kernel, rfl, by decide +kernel⟩
  | 257, _ => exact ⟨pg_codeB_ok pgc_257, pg_pl pgp_13, pg_mp (f := 257) (oc := 12) rfl pgp_13 pg_oi (pg_mle pgq_13), pg_p2 pgp_13 pg_ac, by decide +kernel, rfl, by decide +kernel⟩
  | 258, _ => exact ⟨pg_codeB_ok pgc_258, pg_pl pgp_13, pg_mp (f := 258) (oc := 12) rfl pgp_13 pg_oi (pg_mle pgq_13), pg_p2 pgp_13 pg_ac, by decide +kernel, rfl, by decide +kernel⟩
  | 259, _ => exact ⟨pg_codeB_ok pgc_259, pg_pl pgp_13, pg_mp (f := 259) (oc := 12) rfl pgp_13 pg_oi (pg_mle pgq_13), pg_p2 pgp_13 pg_ac, by decide +kernel, rfl, by decide +kernel⟩
  | 260, _ => exact ⟨pg_codeB_ok pgc_260, pg_pl pgp_13, pg_mp (f := 260) (oc := 12) rfl pgp_13 pg_oi (pg_mle pgq_13), pg_p2 pgp_13 pg_ac, by decide +kernel, rfl, by decide +kernel⟩
  | 261, _ => exact ⟨pg_codeB_ok pgc_261, pg_pl pgp_13, pg_mp (f := 261) (oc := 12) rfl pgp_13 pg_oi (pg_mle pgq_13), pg_p2 pgp_13 pg_ac, by decide +kernel, rfl, by decide +kernel⟩
  | 262, _ => exact ⟨pg_codeB_ok pgc_262, pg_pl pgp_13, pg_mp (f := 262) (oc := 12) rfl pgp_13 pg_oi (pg_mle pgq_13), pg_p2 pgp_13 pg_ac, by decide +kernel, rfl, by decide +kernel⟩
  | 263, _ => exact ⟨pg_codeB_ok pgc_263, pg_pl pgp_13, pg_mp (f := 263) (oc := 12) rfl pgp_13 pg_oi (pg_mle pgq_13), pg_p2 pgp_13 pg_ac, by decide +kernel, rfl, by decide +kernel⟩
  | 264, _ => exact ⟨pg_codeB_ok pgc_264, pg_pl pgp_13, pg_mp (f := 264) (oc := 12) rfl pgp_13 pg_oi (pg_mle pgq_13), pg_p2 pgp_13 pg_ac, by decide +kernel, rfl, by decide +kernel⟩
  | 265, _ => exact ⟨pg_codeB_ok pgc_265, pg_pl pgp_13, pg_mp (f := 265) (oc := 12) rfl pgp_13 pg_oi (pg_mle pgq_13), pg_p2 pgp_13 pg_ac, by decide +kernel, rfl, by decide +kernel⟩
  | 266, _ => exact ⟨pg_codeB_ok pgc_266, pg_pl pgp_14, pg_mp (f := 266) (oc := 13) rfl pgp_14 pg_oi (pg_mle pgq_14), pg_p2 pgp_14 pg_ac, by decide +kernel, rfl, by decide +kernel⟩
  | 267, _ => exact ⟨pg_codeB_ok pgc_267, pg_pl pgp_13, pg_mp (f := 267) (oc := 12) rfl pgp_13 pg_oi (pg_mle pgq_13), pg_p2 pgp_13 pg_ac, by decide +kernel, rfl, by decide +kernel⟩
  | 268, _ => exact ⟨pg_codeB_ok pgc_268, pg_pl pgp_13, pg_mp (f := 268) (oc := 12) rfl pgp_13 pg_oi (pg_mle pgq_13), pg_p2 pgp_13 pg_ac, by decide +kernel, rfl, by decide +kernel⟩
  | 269, _ => exact ⟨pg_codeB_ok pgc_269, pg_pl pgp_13, pg_mp (f := 269) (oc := 12) rfl pgp_13 pg_oi (pg_mle pgq_13), pg_p2 pgp_13 pg_ac, by decide +kernel, rfl, by decide +kernel⟩
  | 270, _ => exact ⟨pg_codeB_ok pgc_270, pg_pl pgp_13, pg_mp (f := 270) (oc := 12) rfl pgp_13 pg_oi (pg_mle pgq_13), pg_p2 pgp_13 pg_ac, by decide +kernel, rfl, by decide +kernel⟩
  | 271, _ => exact ⟨pg_codeB_ok pgc_271, pg_pl pgp_13, pg_mp (f := 271) (oc := 12) rfl pgp_13 pg_oi (pg_mle pgq_13), pg_p2 pgp_13 pg_ac, by decide +kernel, rfl, by decide +kernel⟩
  | 272, _ => exact ⟨pg_codeB_ok pgc_272, pg_pl pgp_13, pg_mp (f := 272) (oc := 12) rfl pgp_13 pg_oi (pg_mle pgq_13), pg_p2 pgp_13 pg_ac, by decide +kernel, rfl, by decide +kernel⟩
  | 273, _ => exact ⟨pg_codeB_ok pgc_273, pg_pl pgp_14, pg_mp (f := 273) (oc := 13) rfl pgp_14 pg_oi (pg_mle pgq_14), pg_p2 pgp_14 pg_ac, by decide +kernel, rfl, by decide +kernel⟩
  | 274, _ => exact ⟨pg_codeB_ok pgc_274, pg_pl pgp_13, pg_mp (f := 274) (oc := 12) rfl pgp_13 pg_oi (pg_mle pgq_13), pg_p2 pgp_13 pg_ac, by decide +kernel, rfl, by decide +kernel⟩
  | 275, _ => exact ⟨pg_codeB_ok pgc_275, pg_pl pgp_13, pg_mp (f := 275) (oc := 12) rfl pgp_13 pg_oi (pg_mle pgq_13), pg_p2 pgp_13 pg_ac, by decide +kernel, rfl, by decide +kernel⟩
  | 276, _ => exact ⟨pg_codeB_ok pgc_276, pg_pl pgp_13, pg_mp (f := 276) (oc := 12) rfl pgp_13 pg_oi (pg_mle pgq_13), pg_p2 pgp_13 pg_ac, by decide +kernel, rfl, by decide +kernel⟩
  | 277, _ => exact ⟨pg_codeB_ok pgc_277, pg_pl pgp_13, pg_mp (f := 277) (oc := 12) rfl pgp_13 pg_oi (pg_mle pgq_13), pg_p2 pgp_13 pg_ac, by decide +kernel, rfl, by decide +kernel⟩
  | 278, _ => exact ⟨pg_codeB_ok pgc_278, pg_pl pgp_13, pg_mp (f := 278) (oc := 12) rfl pgp_13 pg_oi (pg_mle pgq_13), pg_p2 pgp_13 pg_ac, by decide +kernel, rfl, by decide +kernel⟩
  | 279, _ => exact ⟨pg_codeB_ok pgc_279, pg_pl pgp_14, pg_mp (f := 279) (oc := 13) rfl pgp_14 pg_oi (pg_mle pgq_14), pg_p2 pgp_14 pg_ac, by decide +kernel, rfl, by decide +kernel⟩
  | 280, _ => exact ⟨pg_codeB_ok pgc_280, pg_pl pgp_13, pg_mp (f := 280) (oc := 12) rfl pgp_13 pg_oi (pg_mle pgq_13), pg_p2 pgp_13 pg_ac, by decide +kernel, rfl, by decide +kernel⟩
  | 281, _ => exact ⟨pg_codeB_ok pgc_281, pg_pl pgp_12, pg_mp (f := 281) (oc := 999) rfl pgp_12 pg_oi (pg_mle pgq_12), pg_p2 pgp_12 pg_ac, by decide +kernel, rfl, by decide +kernel⟩
  | g + 282, hen => exact absurd hen (by intro h; cases h)
