/-- MarkovDeskModel.constant()Z -/
def pgb_206_0_b0 : List pg_R := [(0, .aload_n 0, 1, 0), (1, .invokevirtual 377, 4, 0), (4, .ifCond .eq 19, 7, 23), (7, .aload_n 0, 8, 0), (8, .ldc 13, 10, 0), (10, .invokevirtual 448, 13, 0), (13, .ifCond .eq 10, 16, 23), (16, .aload_n 0, 17, 0)]
def pgb_206_0_b1 : List pg_R := [(17, .invokevirtual 519, 20, 0), (20, .ifCond .ne 5, 23, 25), (23, .iconst 0, 24, 0), (24, .ireturn, 25, 0), (25, .aload_n 0, 26, 0), (26, .getfield 383, 29, 0), (29, .istore_n 1, 30, 0), (30, .aload_n 0, 31, 0)]
def pgb_206_0_b2 : List pg_R := [(31, .getfield 374, 34, 0), (34, .istore_n 2, 35, 0), (35, .aload_n 0, 36, 0), (36, .invokevirtual 377, 39, 0), (39, .ifCond .eq 12, 42, 51), (42, .aload_n 0, 43, 0), (43, .ldc 53, 45, 0), (45, .invokevirtual 448, 48, 0)]
def pgb_206_0_b3 : List pg_R := [(48, .ifCond .ne 5, 51, 53), (51, .iconst 0, 52, 0), (52, .ireturn, 53, 0), (53, .aload_n 0, 54, 0), (54, .iconst 0, 55, 0), (55, .invokevirtual 513, 58, 0), (58, .istore_n 3, 59, 0), (59, .iload_n 3, 60, 0)]
def pgb_206_0_b4 : List pg_R := [(60, .ifCond .lt 12, 63, 72), (63, .aload_n 0, 64, 0), (64, .ldc 77, 66, 0), (66, .invokevirtual 417, 69, 0), (69, .ifCond .ne 12, 72, 81), (72, .aload_n 0, 73, 0), (73, .aload_n 0, 74, 0), (74, .getfield 383, 77, 0)]
def pgb_206_0_b5 : List pg_R := [(77, .invokevirtual 363, 80, 0), (80, .ireturn, 81, 0), (81, .aload_n 0, 82, 0), (82, .iload_n 3, 83, 0), (83, .invokevirtual 522, 86, 0), (86, .istore 4, 88, 0), (88, .aload_n 0, 89, 0), (89, .getfield 482, 92, 0)]
def pgb_206_0_b6 : List pg_R := [(92, .ifCond .eq 12, 95, 104), (95, .aload_n 0, 96, 0), (96, .aload_n 0, 97, 0), (97, .getfield 383, 100, 0), (100, .invokevirtual 363, 103, 0), (103, .ireturn, 104, 0), (104, .aload_n 0, 105, 0), (105, .getfield 105, 108, 0)]
def pgb_206_0_b7 : List pg_R := [(108, .aload_n 0, 109, 0), (109, .getfield 420, 112, 0), (112, .iload_n 1, 113, 0), (113, .iastore, 114, 0)]
def pgB_206_0 : pg_Bk := [(17, pgb_206_0_b0), (31, pgb_206_0_b1), (48, pgb_206_0_b2), (60, pgb_206_0_b3), (77, pgb_206_0_b4), (92, pgb_206_0_b5), (108, pgb_206_0_b6), (114, pgb_206_0_b7)]
set_option maxRecDepth 20000 in
theorem pgc_206_0 : pgB_206_0.all (fun q => q.2.all (pg_ok (pg_cc 206))) = true := by decide +kernel
/-- MarkovDeskModel.constant()Z -/
def pgb_206_1_b0 : List pg_R := [(114, .aload_n 0, 115, 0), (115, .getfield 108, 118, 0), (118, .aload_n 0, 119, 0), (119, .getfield 420, 122, 0), (122, .iload_n 2, 123, 0), (123, .iload_n 1, 124, 0), (124, .isub, 125, 0), (125, .iastore, 126, 0)]
def pgb_206_1_b1 : List pg_R := [(126, .aload_n 0, 127, 0), (127, .getfield 111, 130, 0), (130, .aload_n 0, 131, 0), (131, .getfield 420, 134, 0), (134, .iconst 0, 135, 0), (135, .iastore, 136, 0), (136, .aload_n 0, 137, 0), (137, .getfield 114, 140, 0)]
def pgb_206_1_b2 : List pg_R := [(140, .aload_n 0, 141, 0), (141, .dup, 142, 0), (142, .getfield 420, 145, 0), (145, .dup_x1, 146, 0), (146, .iconst 1, 147, 0), (147, .iadd, 148, 0), (148, .putfield 420, 151, 0), (151, .iload 4, 153, 0)]
def pgb_206_1_b3 : List pg_R := [(153, .iastore, 154, 0), (154, .aload_n 0, 155, 0), (155, .invokevirtual 377, 158, 0), (158, .ireturn, 159, 0)]
def pgB_206_1 : pg_Bk := [(126, pgb_206_1_b0), (140, pgb_206_1_b1), (153, pgb_206_1_b2), (159, pgb_206_1_b3)]
set_option maxRecDepth 20000 in
theorem pgc_206_1 : pgB_206_1.all (fun q => q.2.all (pg_ok (pg_cc 206))) = true := by decide +kernel
def pgB_206 : pg_Bk := pgB_206_0 ++ (pgB_206_1)
theorem pgc_206 : pgB_206.all (fun q => q.2.all (pg_ok (pg_cc 206))) = true := pg_all2 pgc_206_0 (pgc_206_1)
/-- MarkovDeskModel.fresh()Z -/
def pgb_207_b0 : List pg_R := [(0, .aload_n 0, 1, 0), (1, .getfield 386, 4, 0), (4, .ifCond .ne 10, 7, 14), (7, .aload_n 0, 8, 0), (8, .invokevirtual 476, 11, 0), (11, .ifCond .lt 14, 14, 25), (14, .aload_n 0, 15, 0), (15, .aload_n 0, 16, 0)]
def pgb_207_b1 : List pg_R := [(16, .getfield 383, 19, 0), (19, .invokevirtual 363, 22, 0), (22, .ifCond .eq 7, 25, 29), (25, .iconst 1, 26, 0), (26, .goto 4, 29, 30), (29, .iconst 0, 30, 0), (30, .ireturn, 31, 0)]
def pgB_207 : pg_Bk := [(16, pgb_207_b0), (31, pgb_207_b1)]
set_option maxRecDepth 20000 in
theorem pgc_207 : pgB_207.all (fun q => q.2.all (pg_ok (pg_cc 207))) = true := by decide +kernel
/-- MarkovDeskModel.named()I -/
def pgb_208_b0 : List pg_R := [(0, .iconst 0, 1, 0), (1, .istore_n 1, 2, 0), (2, .iload_n 1, 3, 0), (3, .aload_n 0, 4, 0), (4, .getfield 420, 7, 0), (7, .if_icmp .ge 43, 10, 50), (10, .aload_n 0, 11, 0), (11, .aload_n 0, 12, 0)]
def pgb_208_b1 : List pg_R := [(12, .getfield 105, 15, 0), (15, .iload_n 1, 16, 0), (16, .iaload, 17, 0), (17, .aload_n 0, 18, 0), (18, .getfield 108, 21, 0), (21, .iload_n 1, 22, 0), (22, .iaload, 23, 0), (23, .aload_n 0, 24, 0)]
def pgb_208_b2 : List pg_R := [(24, .getfield 383, 27, 0), (27, .aload_n 0, 28, 0), (28, .getfield 374, 31, 0), (31, .aload_n 0, 32, 0), (32, .getfield 383, 35, 0), (35, .isub, 36, 0), (36, .invokevirtual 423, 39, 0), (39, .ifCond .eq 5, 42, 44)]
def pgb_208_b3 : List pg_R := [(42, .iload_n 1, 43, 0), (43, .ireturn, 44, 0), (44, .iinc 1 1, 47, 0), (47, .goto (-45), 50, 2), (50, .iconst (-1), 51, 0), (51, .ireturn, 52, 0)]
def pgB_208 : pg_Bk := [(12, pgb_208_b0), (24, pgb_208_b1), (42, pgb_208_b2), (52, pgb_208_b3)]
set_option maxRecDepth 20000 in
theorem pgc_208 : pgB_208.all (fun q => q.2.all (pg_ok (pg_cc 208))) = true := by decide +kernel
/-- MarkovDeskModel.sameLetters(IIII)Z -/
def pgb_209_b0 : List pg_R := [(0, .iload_n 2, 1, 0), (1, .iload 4, 3, 0), (3, .if_icmp .eq 5, 6, 8), (6, .iconst 0, 7, 0), (7, .ireturn, 8, 0), (8, .iconst 0, 9, 0), (9, .istore 5, 11, 0), (11, .iload 5, 13, 0)]
def pgb_209_b1 : List pg_R := [(13, .iload 4, 15, 0), (15, .if_icmp .ge 32, 18, 47), (18, .aload_n 0, 19, 0), (19, .getfield 102, 22, 0), (22, .iload_n 1, 23, 0), (23, .iload 5, 25, 0), (25, .iadd, 26, 0), (26, .iaload, 27, 0)]
def pgb_209_b2 : List pg_R := [(27, .aload_n 0, 28, 0), (28, .getfield 102, 31, 0), (31, .iload_n 3, 32, 0), (32, .iload 5, 34, 0), (34, .iadd, 35, 0), (35, .iaload, 36, 0), (36, .if_icmp .eq 5, 39, 41), (39, .iconst 0, 40, 0)]
def pgb_209_b3 : List pg_R := [(40, .ireturn, 41, 0), (41, .iinc 5 1, 44, 0), (44, .goto (-33), 47, 11), (47, .iconst 1, 48, 0), (48, .ireturn, 49, 0)]
def pgB_209 : pg_Bk := [(13, pgb_209_b0), (27, pgb_209_b1), (40, pgb_209_b2), (49, pgb_209_b3)]
set_option maxRecDepth 20000 in
theorem pgc_209 : pgB_209.all (fun q => q.2.all (pg_ok (pg_cc 209))) = true := by decide +kernel
/-- MarkovDeskModel.whole(Z)I -/
def pgb_210_b0 : List pg_R := [(0, .aload_n 0, 1, 0), (1, .getfield 427, 4, 0), (4, .istore_n 2, 5, 0), (5, .aload_n 0, 6, 0), (6, .iconst 0, 7, 0), (7, .putfield 430, 10, 0), (10, .aload_n 0, 11, 0), (11, .invokevirtual 433, 14, 0)]
def pgb_210_b1 : List pg_R := [(14, .ifCond .ne 5, 17, 19), (17, .iconst (-1), 18, 0), (18, .ireturn, 19, 0), (19, .aload_n 0, 20, 0), (20, .getfield 436, 23, 0), (23, .iload_n 1, 24, 0), (24, .if_icmp .eq 14, 27, 38), (27, .aload_n 0, 28, 0)]
def pgb_210_b2 : List pg_R := [(28, .aload_n 0, 29, 0), (29, .getfield 383, 32, 0), (32, .invokevirtual 363, 35, 0), (35, .pop, 36, 0), (36, .iconst (-1), 37, 0), (37, .ireturn, 38, 0), (38, .aload_n 0, 39, 0), (39, .bipush 21, 41, 0)]
def pgb_210_b3 : List pg_R := [(41, .iconst 0, 42, 0), (42, .invokevirtual 438, 45, 0), (45, .pop, 46, 0), (46, .iload_n 2, 47, 0), (47, .ireturn, 48, 0)]
def pgB_210 : pg_Bk := [(14, pgb_210_b0), (28, pgb_210_b1), (41, pgb_210_b2), (48, pgb_210_b3)]
set_option maxRecDepth 20000 in
theorem pgc_210 : pgB_210.all (fun q => q.2.all (pg_ok (pg_cc 210))) = true := by decide +kernel
/-- MarkovDeskModel.expression()Z -/
def pgb_211_0_b0 : List pg_R := [(0, .aload_n 0, 1, 0), (1, .invokevirtual 442, 4, 0), (4, .ifCond .ne 5, 7, 9), (7, .iconst 0, 8, 0), (8, .ireturn, 9, 0), (9, .aload_n 0, 10, 0), (10, .ldc 73, 12, 0), (12, .invokevirtual 417, 15, 0)]
def pgb_211_0_b1 : List pg_R := [(15, .ifCond .ne 5, 18, 20), (18, .iconst 1, 19, 0), (19, .ireturn, 20, 0), (20, .aload_n 0, 21, 0), (21, .getfield 383, 24, 0), (24, .istore_n 1, 25, 0), (25, .aload_n 0, 26, 0), (26, .getfield 436, 29, 0)]
def pgb_211_0_b2 : List pg_R := [(29, .istore_n 2, 30, 0), (30, .aload_n 0, 31, 0), (31, .aload_n 0, 32, 0), (32, .getfield 383, 35, 0), (35, .invokevirtual 445, 38, 0), (38, .ifCond .eq 10, 41, 48), (41, .aload_n 0, 42, 0), (42, .invokevirtual 377, 45, 0)]
def pgb_211_0_b3 : List pg_R := [(45, .ifCond .ne 5, 48, 50), (48, .iconst 0, 49, 0), (49, .ireturn, 50, 0), (50, .aload_n 0, 51, 0), (51, .bipush 16, 53, 0), (53, .iconst 0, 54, 0), (54, .invokevirtual 438, 57, 0), (57, .istore_n 3, 58, 0)]
def pgb_211_0_b4 : List pg_R := [(58, .aload_n 0, 59, 0), (59, .invokevirtual 433, 62, 0), (62, .ifCond .ne 5, 65, 67), (65, .iconst 0, 66, 0), (66, .ireturn, 67, 0), (67, .aload_n 0, 68, 0), (68, .getfield 436, 71, 0), (71, .istore 4, 73, 0)]
def pgb_211_0_b5 : List pg_R := [(73, .aload_n 0, 74, 0), (74, .ldc 75, 76, 0), (76, .invokevirtual 448, 79, 0), (79, .ifCond .ne 5, 82, 84), (82, .iconst 0, 83, 0), (83, .ireturn, 84, 0), (84, .aload_n 0, 85, 0), (85, .bipush 20, 87, 0)]
def pgb_211_0_b6 : List pg_R := [(87, .iconst 0, 88, 0), (88, .invokevirtual 438, 91, 0), (91, .istore 5, 93, 0), (93, .aload_n 0, 94, 0), (94, .getfield 160, 97, 0), (97, .iload_n 3, 98, 0), (98, .aload_n 0, 99, 0), (99, .getfield 427, 102, 0)]
def pgb_211_0_b7 : List pg_R := [(102, .iastore, 103, 0), (103, .aload_n 0, 104, 0), (104, .invokevirtual 433, 107, 0), (107, .ifCond .ne 5, 110, 112)]
def pgB_211_0 : pg_Bk := [(15, pgb_211_0_b0), (29, pgb_211_0_b1), (45, pgb_211_0_b2), (58, pgb_211_0_b3), (73, pgb_211_0_b4), (87, pgb_211_0_b5), (102, pgb_211_0_b6), (108, pgb_211_0_b7)]
set_option maxRecDepth 20000 in
theorem pgc_211_0 : pgB_211_0.all (fun q => q.2.all (pg_ok (pg_cc 211))) = true := by decide +kernel
/-- MarkovDeskModel.expression()Z -/
def pgb_211_1_b0 : List pg_R := [(110, .iconst 0, 111, 0), (111, .ireturn, 112, 0), (112, .aload_n 0, 113, 0), (113, .getfield 160, 116, 0), (116, .iload 5, 118, 0), (118, .aload_n 0, 119, 0), (119, .getfield 427, 122, 0), (122, .iastore, 123, 0)]
def pgb_211_1_b1 : List pg_R := [(123, .aload_n 0, 124, 0), (124, .dup, 125, 0), (125, .getfield 430, 128, 0), (128, .iconst 1, 129, 0), (129, .isub, 130, 0), (130, .putfield 430, 133, 0), (133, .iload_n 2, 134, 0), (134, .ifCond .eq 12, 137, 146)]
def pgb_211_1_b2 : List pg_R := [(137, .aload_n 0, 138, 0), (138, .getfield 436, 141, 0), (141, .iload 4, 143, 0), (143, .if_icmp .eq 11, 146, 154), (146, .aload_n 0, 147, 0), (147, .iload_n 1, 148, 0), (148, .invokevirtual 363, 151, 0), (151, .ifCond .eq 7, 154, 158)]
def pgb_211_1_b3 : List pg_R := [(154, .iconst 1, 155, 0), (155, .goto 4, 158, 159), (158, .iconst 0, 159, 0), (159, .ireturn, 160, 0)]
def pgB_211_1 : pg_Bk := [(123, pgb_211_1_b0), (137, pgb_211_1_b1), (154, pgb_211_1_b2), (160, pgb_211_1_b3)]
set_option maxRecDepth 20000 in
theorem pgc_211_1 : pgB_211_1.all (fun q => q.2.all (pg_ok (pg_cc 211))) = true := by decide +kernel
def pgB_211 : pg_Bk := pgB_211_0 ++ (pgB_211_1)
theorem pgc_211 : pgB_211.all (fun q => q.2.all (pg_ok (pg_cc 211))) = true := pg_all2 pgc_211_0 (pgc_211_1)
/-- MarkovDeskModel.implied()Z -/
def pgb_212_0_b0 : List pg_R := [(0, .aload_n 0, 1, 0), (1, .invokevirtual 451, 4, 0), (4, .ifCond .ne 5, 7, 9), (7, .iconst 0, 8, 0), (8, .ireturn, 9, 0), (9, .aload_n 0, 10, 0), (10, .ldc 45, 12, 0), (12, .invokevirtual 417, 15, 0)]
def pgb_212_0_b1 : List pg_R := [(15, .ifCond .ne 5, 18, 20), (18, .iconst 1, 19, 0), (19, .ireturn, 20, 0), (20, .aload_n 0, 21, 0), (21, .getfield 383, 24, 0), (24, .istore_n 1, 25, 0), (25, .aload_n 0, 26, 0), (26, .getfield 436, 29, 0)]
def pgb_212_0_b2 : List pg_R := [(29, .istore_n 2, 30, 0), (30, .aload_n 0, 31, 0), (31, .aload_n 0, 32, 0), (32, .getfield 383, 35, 0), (35, .invokevirtual 445, 38, 0), (38, .ifCond .eq 10, 41, 48), (41, .aload_n 0, 42, 0), (42, .invokevirtual 377, 45, 0)]
def pgb_212_0_b3 : List pg_R := [(45, .ifCond .ne 5, 48, 50), (48, .iconst 0, 49, 0), (49, .ireturn, 50, 0), (50, .aload_n 0, 51, 0), (51, .bipush 19, 53, 0), (53, .iconst 0, 54, 0), (54, .invokevirtual 438, 57, 0), (57, .istore_n 3, 58, 0)]
def pgb_212_0_b4 : List pg_R := [(58, .aload_n 0, 59, 0), (59, .invokevirtual 442, 62, 0), (62, .ifCond .ne 5, 65, 67), (65, .iconst 0, 66, 0), (66, .ireturn, 67, 0), (67, .aload_n 0, 68, 0), (68, .getfield 160, 71, 0), (71, .iload_n 3, 72, 0)]
def pgb_212_0_b5 : List pg_R := [(72, .aload_n 0, 73, 0), (73, .getfield 427, 76, 0), (76, .iastore, 77, 0), (77, .aload_n 0, 78, 0), (78, .dup, 79, 0), (79, .getfield 430, 82, 0), (82, .iconst 1, 83, 0), (83, .isub, 84, 0)]
def pgb_212_0_b6 : List pg_R := [(84, .putfield 430, 87, 0), (87, .iload_n 2, 88, 0), (88, .ifCond .eq 10, 91, 98), (91, .aload_n 0, 92, 0), (92, .getfield 436, 95, 0), (95, .ifCond .ne 11, 98, 106), (98, .aload_n 0, 99, 0), (99, .iload_n 1, 100, 0)]
def pgb_212_0_b7 : List pg_R := [(100, .invokevirtual 363, 103, 0), (103, .ifCond .eq 7, 106, 110), (106, .iconst 1, 107, 0), (107, .goto 4, 110, 111)]
def pgB_212_0 : pg_Bk := [(15, pgb_212_0_b0), (29, pgb_212_0_b1), (45, pgb_212_0_b2), (58, pgb_212_0_b3), (72, pgb_212_0_b4), (84, pgb_212_0_b5), (100, pgb_212_0_b6), (108, pgb_212_0_b7)]
set_option maxRecDepth 20000 in
theorem pgc_212_0 : pgB_212_0.all (fun q => q.2.all (pg_ok (pg_cc 212))) = true := by decide +kernel
/-- MarkovDeskModel.implied()Z -/
def pgb_212_1_b0 : List pg_R := [(110, .iconst 0, 111, 0), (111, .ireturn, 112, 0)]
def pgB_212_1 : pg_Bk := [(112, pgb_212_1_b0)]
set_option maxRecDepth 20000 in
theorem pgc_212_1 : pgB_212_1.all (fun q => q.2.all (pg_ok (pg_cc 212))) = true := by decide +kernel
def pgB_212 : pg_Bk := pgB_212_0 ++ (pgB_212_1)
theorem pgc_212 : pgB_212.all (fun q => q.2.all (pg_ok (pg_cc 212))) = true := pg_all2 pgc_212_0 (pgc_212_1)
/-- MarkovDeskModel.either()Z -/
def pgb_213_b0 : List pg_R := [(0, .aload_n 0, 1, 0), (1, .invokevirtual 454, 4, 0), (4, .ifCond .ne 5, 7, 9), (7, .iconst 0, 8, 0), (8, .ireturn, 9, 0), (9, .aload_n 0, 10, 0), (10, .ldc 71, 12, 0), (12, .invokevirtual 417, 15, 0)]
def pgb_213_b1 : List pg_R := [(15, .ifCond .eq 69, 18, 84), (18, .aload_n 0, 19, 0), (19, .getfield 383, 22, 0), (22, .istore_n 1, 23, 0), (23, .aload_n 0, 24, 0), (24, .getfield 436, 27, 0), (27, .istore_n 2, 28, 0), (28, .aload_n 0, 29, 0)]
def pgb_213_b2 : List pg_R := [(29, .invokevirtual 377, 32, 0), (32, .ifCond .ne 5, 35, 37), (35, .iconst 0, 36, 0), (36, .ireturn, 37, 0), (37, .aload_n 0, 38, 0), (38, .bipush 18, 40, 0), (40, .iconst 0, 41, 0), (41, .invokevirtual 438, 44, 0)]
def pgb_213_b3 : List pg_R := [(44, .istore_n 3, 45, 0), (45, .aload_n 0, 46, 0), (46, .invokevirtual 454, 49, 0), (49, .ifCond .ne 5, 52, 54), (52, .iconst 0, 53, 0), (53, .ireturn, 54, 0), (54, .aload_n 0, 55, 0), (55, .getfield 160, 58, 0)]
def pgb_213_b4 : List pg_R := [(58, .iload_n 3, 59, 0), (59, .aload_n 0, 60, 0), (60, .getfield 427, 63, 0), (63, .iastore, 64, 0), (64, .iload_n 2, 65, 0), (65, .ifCond .eq 10, 68, 75), (68, .aload_n 0, 69, 0), (69, .getfield 436, 72, 0)]
def pgb_213_b5 : List pg_R := [(72, .ifCond .ne 9, 75, 81), (75, .aload_n 0, 76, 0), (76, .iload_n 1, 77, 0), (77, .invokevirtual 363, 80, 0), (80, .ireturn, 81, 0), (81, .goto (-72), 84, 9), (84, .iconst 1, 85, 0), (85, .ireturn, 86, 0)]
def pgB_213 : pg_Bk := [(15, pgb_213_b0), (29, pgb_213_b1), (44, pgb_213_b2), (58, pgb_213_b3), (72, pgb_213_b4), (86, pgb_213_b5)]
set_option maxRecDepth 20000 in
theorem pgc_213 : pgB_213.all (fun q => q.2.all (pg_ok (pg_cc 213))) = true := by decide +kernel
/-- MarkovDeskModel.both()Z -/
def pgb_214_b0 : List pg_R := [(0, .aload_n 0, 1, 0), (1, .invokevirtual 457, 4, 0), (4, .ifCond .ne 5, 7, 9), (7, .iconst 0, 8, 0), (8, .ireturn, 9, 0), (9, .aload_n 0, 10, 0), (10, .ldc 69, 12, 0), (12, .invokevirtual 417, 15, 0)]
def pgb_214_b1 : List pg_R := [(15, .ifCond .eq 69, 18, 84), (18, .aload_n 0, 19, 0), (19, .getfield 383, 22, 0), (22, .istore_n 1, 23, 0), (23, .aload_n 0, 24, 0), (24, .getfield 436, 27, 0), (27, .istore_n 2, 28, 0), (28, .aload_n 0, 29, 0)]
def pgb_214_b2 : List pg_R := [(29, .invokevirtual 377, 32, 0), (32, .ifCond .ne 5, 35, 37), (35, .iconst 0, 36, 0), (36, .ireturn, 37, 0), (37, .aload_n 0, 38, 0), (38, .bipush 17, 40, 0), (40, .iconst 0, 41, 0), (41, .invokevirtual 438, 44, 0)]
def pgb_214_b3 : List pg_R := [(44, .istore_n 3, 45, 0), (45, .aload_n 0, 46, 0), (46, .invokevirtual 457, 49, 0), (49, .ifCond .ne 5, 52, 54), (52, .iconst 0, 53, 0), (53, .ireturn, 54, 0), (54, .aload_n 0, 55, 0), (55, .getfield 160, 58, 0)]
def pgb_214_b4 : List pg_R := [(58, .iload_n 3, 59, 0), (59, .aload_n 0, 60, 0), (60, .getfield 427, 63, 0), (63, .iastore, 64, 0), (64, .iload_n 2, 65, 0), (65, .ifCond .eq 10, 68, 75), (68, .aload_n 0, 69, 0), (69, .getfield 436, 72, 0)]
def pgb_214_b5 : List pg_R := [(72, .ifCond .ne 9, 75, 81), (75, .aload_n 0, 76, 0), (76, .iload_n 1, 77, 0), (77, .invokevirtual 363, 80, 0), (80, .ireturn, 81, 0), (81, .goto (-72), 84, 9), (84, .iconst 1, 85, 0), (85, .ireturn, 86, 0)]
def pgB_214 : pg_Bk := [(15, pgb_214_b0), (29, pgb_214_b1), (44, pgb_214_b2), (58, pgb_214_b3), (72, pgb_214_b4), (86, pgb_214_b5)]
set_option maxRecDepth 20000 in
theorem pgc_214 : pgB_214.all (fun q => q.2.all (pg_ok (pg_cc 214))) = true := by decide +kernel
/-- MarkovDeskModel.not()Z -/
def pgb_215_b0 : List pg_R := [(0, .aload_n 0, 1, 0), (1, .ldc 67, 3, 0), (3, .invokevirtual 417, 6, 0), (6, .ifCond .ne 8, 9, 14), (9, .aload_n 0, 10, 0), (10, .invokevirtual 460, 13, 0), (13, .ireturn, 14, 0), (14, .aload_n 0, 15, 0)]
def pgb_215_b1 : List pg_R := [(15, .getfield 383, 18, 0), (18, .istore_n 1, 19, 0), (19, .aload_n 0, 20, 0), (20, .aload_n 0, 21, 0), (21, .getfield 383, 24, 0), (24, .invokevirtual 445, 27, 0), (27, .ifCond .eq 17, 30, 44), (30, .aload_n 0, 31, 0)]
def pgb_215_b2 : List pg_R := [(31, .invokevirtual 377, 34, 0), (34, .ifCond .eq 10, 37, 44), (37, .aload_n 0, 38, 0), (38, .invokevirtual 457, 41, 0), (41, .ifCond .ne 5, 44, 46), (44, .iconst 0, 45, 0), (45, .ireturn, 46, 0), (46, .aload_n 0, 47, 0)]
def pgb_215_b3 : List pg_R := [(47, .dup, 48, 0), (48, .getfield 430, 51, 0), (51, .iconst 1, 52, 0), (52, .isub, 53, 0), (53, .putfield 430, 56, 0), (56, .aload_n 0, 57, 0), (57, .getfield 436, 60, 0), (60, .ifCond .ne 9, 63, 69)]
def pgb_215_b4 : List pg_R := [(63, .aload_n 0, 64, 0), (64, .iload_n 1, 65, 0), (65, .invokevirtual 363, 68, 0), (68, .ireturn, 69, 0), (69, .aload_n 0, 70, 0), (70, .bipush 14, 72, 0), (72, .iconst 0, 73, 0), (73, .invokevirtual 438, 76, 0)]
def pgb_215_b5 : List pg_R := [(76, .pop, 77, 0), (77, .iconst 1, 78, 0), (78, .ireturn, 79, 0)]
def pgB_215 : pg_Bk := [(15, pgb_215_b0), (31, pgb_215_b1), (47, pgb_215_b2), (63, pgb_215_b3), (76, pgb_215_b4), (79, pgb_215_b5)]
set_option maxRecDepth 20000 in
theorem pgc_215 : pgB_215.all (fun q => q.2.all (pg_ok (pg_cc 215))) = true := by decide +kernel
/-- MarkovDeskModel.compared()Z -/
def pgb_216_b0 : List pg_R := [(0, .aload_n 0, 1, 0), (1, .invokevirtual 463, 4, 0), (4, .ifCond .ne 5, 7, 9), (7, .iconst 0, 8, 0), (8, .ireturn, 9, 0), (9, .aload_n 0, 10, 0), (10, .invokevirtual 466, 13, 0), (13, .istore_n 1, 14, 0)]
def pgb_216_b1 : List pg_R := [(14, .iload_n 1, 15, 0), (15, .ifCond .ge 5, 18, 20), (18, .iconst 1, 19, 0), (19, .ireturn, 20, 0), (20, .aload_n 0, 21, 0), (21, .getfield 383, 24, 0), (24, .istore_n 2, 25, 0), (25, .aload_n 0, 26, 0)]
def pgb_216_b2 : List pg_R := [(26, .getfield 436, 29, 0), (29, .istore_n 3, 30, 0), (30, .aload_n 0, 31, 0), (31, .invokevirtual 377, 34, 0), (34, .ifCond .eq 10, 37, 44), (37, .aload_n 0, 38, 0), (38, .invokevirtual 463, 41, 0), (41, .ifCond .ne 5, 44, 46)]
def pgb_216_b3 : List pg_R := [(44, .iconst 0, 45, 0), (45, .ireturn, 46, 0), (46, .iload_n 3, 47, 0), (47, .aload_n 0, 48, 0), (48, .getfield 436, 51, 0), (51, .if_icmp .ne 13, 54, 64), (54, .iload_n 1, 55, 0), (55, .bipush 9, 57, 0)]
def pgb_216_b4 : List pg_R := [(57, .if_icmp .le 13, 60, 70), (60, .iload_n 3, 61, 0), (61, .ifCond .eq 9, 64, 70), (64, .aload_n 0, 65, 0), (65, .iload_n 2, 66, 0), (66, .invokevirtual 363, 69, 0), (69, .ireturn, 70, 0), (70, .aload_n 0, 71, 0)]
def pgb_216_b5 : List pg_R := [(71, .iload_n 1, 72, 0), (72, .iconst 0, 73, 0), (73, .invokevirtual 438, 76, 0), (76, .pop, 77, 0), (77, .aload_n 0, 78, 0), (78, .iconst 1, 79, 0), (79, .putfield 436, 82, 0), (82, .iconst 1, 83, 0)]
def pgb_216_b6 : List pg_R := [(83, .ireturn, 84, 0)]
def pgB_216 : pg_Bk := [(14, pgb_216_b0), (26, pgb_216_b1), (44, pgb_216_b2), (57, pgb_216_b3), (71, pgb_216_b4), (83, pgb_216_b5), (84, pgb_216_b6)]
set_option maxRecDepth 20000 in
theorem pgc_216 : pgB_216.all (fun q => q.2.all (pg_ok (pg_cc 216))) = true := by decide +kernel
/-- MarkovDeskModel.sum()Z -/
def pgb_217_b0 : List pg_R := [(0, .aload_n 0, 1, 0), (1, .invokevirtual 469, 4, 0), (4, .ifCond .ne 5, 7, 9), (7, .iconst 0, 8, 0), (8, .ireturn, 9, 0), (9, .aload_n 0, 10, 0), (10, .ldc 59, 12, 0), (12, .invokevirtual 417, 15, 0)]
def pgb_217_b1 : List pg_R := [(15, .ifCond .ne 12, 18, 27), (18, .aload_n 0, 19, 0), (19, .ldc 61, 21, 0), (21, .invokevirtual 417, 24, 0), (24, .ifCond .eq 71, 27, 95), (27, .aload_n 0, 28, 0), (28, .getfield 383, 31, 0), (31, .istore_n 1, 32, 0)]
def pgb_217_b2 : List pg_R := [(32, .aload_n 0, 33, 0), (33, .ldc 59, 35, 0), (35, .invokevirtual 417, 38, 0), (38, .ifCond .eq 7, 41, 45), (41, .iconst 2, 42, 0), (42, .goto 4, 45, 46), (45, .iconst 3, 46, 0), (46, .istore_n 2, 47, 0)]
def pgb_217_b3 : List pg_R := [(47, .aload_n 0, 48, 0), (48, .getfield 436, 51, 0), (51, .istore_n 3, 52, 0), (52, .aload_n 0, 53, 0), (53, .invokevirtual 377, 56, 0), (56, .ifCond .eq 10, 59, 66), (59, .aload_n 0, 60, 0), (60, .invokevirtual 469, 63, 0)]
def pgb_217_b4 : List pg_R := [(63, .ifCond .ne 5, 66, 68), (66, .iconst 0, 67, 0), (67, .ireturn, 68, 0), (68, .iload_n 3, 69, 0), (69, .ifCond .ne 10, 72, 79), (72, .aload_n 0, 73, 0), (73, .getfield 436, 76, 0), (76, .ifCond .eq 9, 79, 85)]
def pgb_217_b5 : List pg_R := [(79, .aload_n 0, 80, 0), (80, .iload_n 1, 81, 0), (81, .invokevirtual 363, 84, 0), (84, .ireturn, 85, 0), (85, .aload_n 0, 86, 0), (86, .iload_n 2, 87, 0), (87, .iconst 0, 88, 0), (88, .invokevirtual 438, 91, 0)]
def pgb_217_b6 : List pg_R := [(91, .pop, 92, 0), (92, .goto (-83), 95, 9), (95, .iconst 1, 96, 0), (96, .ireturn, 97, 0)]
def pgB_217 : pg_Bk := [(15, pgb_217_b0), (32, pgb_217_b1), (47, pgb_217_b2), (63, pgb_217_b3), (79, pgb_217_b4), (91, pgb_217_b5), (97, pgb_217_b6)]
set_option maxRecDepth 20000 in
theorem pgc_217 : pgB_217.all (fun q => q.2.all (pg_ok (pg_cc 217))) = true := by decide +kernel
/-- MarkovDeskModel.product()Z -/
def pgb_218_b0 : List pg_R := [(0, .aload_n 0, 1, 0), (1, .invokevirtual 471, 4, 0), (4, .ifCond .ne 5, 7, 9), (7, .iconst 0, 8, 0), (8, .ireturn, 9, 0), (9, .aload_n 0, 10, 0), (10, .ldc 63, 12, 0), (12, .invokevirtual 417, 15, 0)]
def pgb_218_b1 : List pg_R := [(15, .ifCond .eq 56, 18, 71), (18, .aload_n 0, 19, 0), (19, .getfield 383, 22, 0), (22, .istore_n 1, 23, 0), (23, .aload_n 0, 24, 0), (24, .getfield 436, 27, 0), (27, .istore_n 2, 28, 0), (28, .aload_n 0, 29, 0)]
def pgb_218_b2 : List pg_R := [(29, .invokevirtual 377, 32, 0), (32, .ifCond .eq 10, 35, 42), (35, .aload_n 0, 36, 0), (36, .invokevirtual 471, 39, 0), (39, .ifCond .ne 5, 42, 44), (42, .iconst 0, 43, 0), (43, .ireturn, 44, 0), (44, .iload_n 2, 45, 0)]
def pgb_218_b3 : List pg_R := [(45, .ifCond .ne 10, 48, 55), (48, .aload_n 0, 49, 0), (49, .getfield 436, 52, 0), (52, .ifCond .eq 9, 55, 61), (55, .aload_n 0, 56, 0), (56, .iload_n 1, 57, 0), (57, .invokevirtual 363, 60, 0), (60, .ireturn, 61, 0)]
def pgb_218_b4 : List pg_R := [(61, .aload_n 0, 62, 0), (62, .iconst 4, 63, 0), (63, .iconst 0, 64, 0), (64, .invokevirtual 438, 67, 0), (67, .pop, 68, 0), (68, .goto (-59), 71, 9), (71, .iconst 1, 72, 0), (72, .ireturn, 73, 0)]
def pgB_218 : pg_Bk := [(15, pgb_218_b0), (29, pgb_218_b1), (45, pgb_218_b2), (61, pgb_218_b3), (73, pgb_218_b4)]
set_option maxRecDepth 20000 in
theorem pgc_218 : pgB_218.all (fun q => q.2.all (pg_ok (pg_cc 218))) = true := by decide +kernel
/-- MarkovDeskModel.factor()Z -/
def pgb_219_0_b0 : List pg_R := [(0, .aload_n 0, 1, 0), (1, .getfield 383, 4, 0), (4, .istore_n 1, 5, 0), (5, .aload_n 0, 6, 0), (6, .ldc 61, 8, 0), (8, .invokevirtual 417, 11, 0), (11, .ifCond .eq 63, 14, 74), (14, .aload_n 0, 15, 0)]
def pgb_219_0_b1 : List pg_R := [(15, .aload_n 0, 16, 0), (16, .getfield 383, 19, 0), (19, .invokevirtual 445, 22, 0), (22, .ifCond .eq 17, 25, 39), (25, .aload_n 0, 26, 0), (26, .invokevirtual 377, 29, 0), (29, .ifCond .eq 10, 32, 39), (32, .aload_n 0, 33, 0)]
def pgb_219_0_b2 : List pg_R := [(33, .invokevirtual 471, 36, 0), (36, .ifCond .ne 5, 39, 41), (39, .iconst 0, 40, 0), (40, .ireturn, 41, 0), (41, .aload_n 0, 42, 0), (42, .dup, 43, 0), (43, .getfield 430, 46, 0), (46, .iconst 1, 47, 0)]
def pgb_219_0_b3 : List pg_R := [(47, .isub, 48, 0), (48, .putfield 430, 51, 0), (51, .aload_n 0, 52, 0), (52, .getfield 436, 55, 0), (55, .ifCond .eq 9, 58, 64), (58, .aload_n 0, 59, 0), (59, .iload_n 1, 60, 0), (60, .invokevirtual 363, 63, 0)]
def pgb_219_0_b4 : List pg_R := [(63, .ireturn, 64, 0), (64, .aload_n 0, 65, 0), (65, .bipush 15, 67, 0), (67, .iconst 0, 68, 0), (68, .invokevirtual 438, 71, 0), (71, .pop, 72, 0), (72, .iconst 1, 73, 0), (73, .ireturn, 74, 0)]
def pgb_219_0_b5 : List pg_R := [(74, .aload_n 0, 75, 0), (75, .getfield 386, 78, 0), (78, .iconst 1, 79, 0), (79, .if_icmp .ne 31, 82, 110), (82, .aload_n 0, 83, 0), (83, .iconst 0, 84, 0), (84, .aload_n 0, 85, 0), (85, .aload_n 0, 86, 0)]
def pgb_219_0_b6 : List pg_R := [(86, .getfield 383, 89, 0), (89, .aload_n 0, 90, 0), (90, .getfield 374, 93, 0), (93, .invokevirtual 473, 96, 0), (96, .invokevirtual 438, 99, 0), (99, .pop, 100, 0), (100, .aload_n 0, 101, 0), (101, .iconst 0, 102, 0)]
def pgb_219_0_b7 : List pg_R := [(102, .putfield 436, 105, 0), (105, .aload_n 0, 106, 0), (106, .invokevirtual 377, 109, 0), (109, .ireturn, 110, 0)]
def pgB_219_0 : pg_Bk := [(15, pgb_219_0_b0), (33, pgb_219_0_b1), (47, pgb_219_0_b2), (63, pgb_219_0_b3), (74, pgb_219_0_b4), (86, pgb_219_0_b5), (102, pgb_219_0_b6), (110, pgb_219_0_b7)]
set_option maxRecDepth 20000 in
theorem pgc_219_0 : pgB_219_0.all (fun q => q.2.all (pg_ok (pg_cc 219))) = true := by decide +kernel
/-- MarkovDeskModel.factor()Z -/
def pgb_219_1_b0 : List pg_R := [(110, .aload_n 0, 111, 0), (111, .ldc 25, 113, 0), (113, .invokevirtual 417, 116, 0), (116, .ifCond .ne 12, 119, 128), (119, .aload_n 0, 120, 0), (120, .ldc 27, 122, 0), (122, .invokevirtual 417, 125, 0), (125, .ifCond .eq 33, 128, 158)]
def pgb_219_1_b1 : List pg_R := [(128, .aload_n 0, 129, 0), (129, .iconst 0, 130, 0), (130, .aload_n 0, 131, 0), (131, .ldc 25, 133, 0), (133, .invokevirtual 417, 136, 0), (136, .ifCond .eq 7, 139, 143), (139, .iconst 1, 140, 0), (140, .goto 4, 143, 144)]
def pgb_219_1_b2 : List pg_R := [(143, .iconst 0, 144, 0), (144, .invokevirtual 438, 147, 0), (147, .pop, 148, 0), (148, .aload_n 0, 149, 0), (149, .iconst 1, 150, 0), (150, .putfield 436, 153, 0), (153, .aload_n 0, 154, 0), (154, .invokevirtual 377, 157, 0)]
def pgb_219_1_b3 : List pg_R := [(157, .ireturn, 158, 0), (158, .aload_n 0, 159, 0), (159, .getfield 386, 162, 0), (162, .ifCond .ne 112, 165, 274), (165, .aload_n 0, 166, 0), (166, .invokevirtual 476, 169, 0), (169, .istore_n 2, 170, 0), (170, .iload_n 2, 171, 0)]
def pgb_219_1_b4 : List pg_R := [(171, .ifCond .lt 30, 174, 201), (174, .aload_n 0, 175, 0), (175, .getfield 111, 178, 0), (178, .iload_n 2, 179, 0), (179, .iaload, 180, 0), (180, .iconst 2, 181, 0), (181, .if_icmp .eq 20, 184, 201), (184, .aload_n 0, 185, 0)]
def pgb_219_1_b5 : List pg_R := [(185, .getfield 111, 188, 0), (188, .iload_n 2, 189, 0), (189, .iaload, 190, 0), (190, .iconst 1, 191, 0), (191, .if_icmp .ne 19, 194, 210), (194, .aload_n 0, 195, 0), (195, .getfield 479, 198, 0), (198, .ifCond .ne 12, 201, 210)]
def pgb_219_1_b6 : List pg_R := [(201, .aload_n 0, 202, 0), (202, .aload_n 0, 203, 0), (203, .getfield 383, 206, 0), (206, .invokevirtual 363, 209, 0), (209, .ireturn, 210, 0), (210, .aload_n 0, 211, 0), (211, .aload_n 0, 212, 0), (212, .getfield 111, 215, 0)]
def pgb_219_1_b7 : List pg_R := [(215, .iload_n 2, 216, 0), (216, .iaload, 217, 0), (217, .iconst 1, 218, 0), (218, .if_icmp .ne 21, 221, 239)]
def pgB_219_1 : pg_Bk := [(128, pgb_219_1_b0), (143, pgb_219_1_b1), (157, pgb_219_1_b2), (171, pgb_219_1_b3), (185, pgb_219_1_b4), (201, pgb_219_1_b5), (215, pgb_219_1_b6), (219, pgb_219_1_b7)]
set_option maxRecDepth 20000 in
theorem pgc_219_1 : pgB_219_1.all (fun q => q.2.all (pg_ok (pg_cc 219))) = true := by decide +kernel
/-- MarkovDeskModel.factor()Z -/
def pgb_219_2_b0 : List pg_R := [(221, .aload_n 0, 222, 0), (222, .getfield 156, 225, 0), (225, .aload_n 0, 226, 0), (226, .getfield 114, 229, 0), (229, .iload_n 2, 230, 0), (230, .iaload, 231, 0), (231, .baload, 232, 0), (232, .ifCond .eq 7, 235, 239)]
def pgb_219_2_b1 : List pg_R := [(235, .iconst 1, 236, 0), (236, .goto 4, 239, 240), (239, .iconst 0, 240, 0), (240, .putfield 436, 243, 0), (243, .aload_n 0, 244, 0), (244, .aload_n 0, 245, 0), (245, .getfield 111, 248, 0), (248, .iload_n 2, 249, 0)]
def pgb_219_2_b2 : List pg_R := [(249, .iaload, 250, 0), (250, .iconst 1, 251, 0), (251, .if_icmp .ne 7, 254, 258), (254, .iconst 1, 255, 0), (255, .goto 4, 258, 259), (258, .iconst 0, 259, 0), (259, .aload_n 0, 260, 0), (260, .getfield 114, 263, 0)]
def pgb_219_2_b3 : List pg_R := [(263, .iload_n 2, 264, 0), (264, .iaload, 265, 0), (265, .invokevirtual 438, 268, 0), (268, .pop, 269, 0), (269, .aload_n 0, 270, 0), (270, .invokevirtual 377, 273, 0), (273, .ireturn, 274, 0), (274, .aload_n 0, 275, 0)]
def pgb_219_2_b4 : List pg_R := [(275, .ldc 29, 277, 0), (277, .invokevirtual 417, 280, 0), (280, .ifCond .ne 21, 283, 301), (283, .aload_n 0, 284, 0), (284, .ldc 31, 286, 0), (286, .invokevirtual 417, 289, 0), (289, .ifCond .ne 12, 292, 301), (292, .aload_n 0, 293, 0)]
def pgb_219_2_b5 : List pg_R := [(293, .ldc 33, 295, 0), (295, .invokevirtual 417, 298, 0), (298, .ifCond .eq 142, 301, 440), (301, .aload_n 0, 302, 0), (302, .ldc 29, 304, 0), (304, .invokevirtual 417, 307, 0), (307, .ifCond .eq 7, 310, 314), (310, .iconst 5, 311, 0)]
def pgb_219_2_b6 : List pg_R := [(311, .goto 19, 314, 330), (314, .aload_n 0, 315, 0), (315, .ldc 31, 317, 0), (317, .invokevirtual 417, 320, 0), (320, .ifCond .eq 8, 323, 328), (323, .bipush 6, 325, 0), (325, .goto 5, 328, 330), (328, .bipush 7, 330, 0)]
def pgb_219_2_b7 : List pg_R := [(330, .istore_n 2, 331, 0), (331, .aload_n 0, 332, 0), (332, .aload_n 0, 333, 0), (333, .getfield 383, 336, 0)]
def pgB_219_2 : pg_Bk := [(235, pgb_219_2_b0), (249, pgb_219_2_b1), (263, pgb_219_2_b2), (275, pgb_219_2_b3), (293, pgb_219_2_b4), (311, pgb_219_2_b5), (330, pgb_219_2_b6), (334, pgb_219_2_b7)]
set_option maxRecDepth 20000 in
theorem pgc_219_2 : pgB_219_2.all (fun q => q.2.all (pg_ok (pg_cc 219))) = true := by decide +kernel
/-- MarkovDeskModel.factor()Z -/
def pgb_219_3_b0 : List pg_R := [(336, .invokevirtual 445, 339, 0), (339, .ifCond .eq 26, 342, 365), (342, .aload_n 0, 343, 0), (343, .invokevirtual 377, 346, 0), (346, .ifCond .eq 19, 349, 365), (349, .aload_n 0, 350, 0), (350, .ldc 83, 352, 0), (352, .invokevirtual 448, 355, 0)]
def pgb_219_3_b1 : List pg_R := [(355, .ifCond .eq 10, 358, 365), (358, .aload_n 0, 359, 0), (359, .invokevirtual 433, 362, 0), (362, .ifCond .ne 5, 365, 367), (365, .iconst 0, 366, 0), (366, .ireturn, 367, 0), (367, .aload_n 0, 368, 0), (368, .getfield 436, 371, 0)]
def pgb_219_3_b2 : List pg_R := [(371, .istore_n 3, 372, 0), (372, .aload_n 0, 373, 0), (373, .ldc 79, 375, 0), (375, .invokevirtual 448, 378, 0), (378, .ifCond .eq 19, 381, 397), (381, .aload_n 0, 382, 0), (382, .invokevirtual 433, 385, 0), (385, .ifCond .eq 12, 388, 397)]
def pgb_219_3_b3 : List pg_R := [(388, .aload_n 0, 389, 0), (389, .ldc 85, 391, 0), (391, .invokevirtual 448, 394, 0), (394, .ifCond .ne 5, 397, 399), (397, .iconst 0, 398, 0), (398, .ireturn, 399, 0), (399, .aload_n 0, 400, 0), (400, .dup, 401, 0)]
def pgb_219_3_b4 : List pg_R := [(401, .getfield 430, 404, 0), (404, .iconst 1, 405, 0), (405, .isub, 406, 0), (406, .putfield 430, 409, 0), (409, .iload_n 3, 410, 0), (410, .ifCond .ne 10, 413, 420), (413, .aload_n 0, 414, 0), (414, .getfield 436, 417, 0)]
def pgb_219_3_b5 : List pg_R := [(417, .ifCond .eq 9, 420, 426), (420, .aload_n 0, 421, 0), (421, .iload_n 1, 422, 0), (422, .invokevirtual 363, 425, 0), (425, .ireturn, 426, 0), (426, .aload_n 0, 427, 0), (427, .iload_n 2, 428, 0), (428, .iconst 0, 429, 0)]
def pgb_219_3_b6 : List pg_R := [(429, .invokevirtual 438, 432, 0), (432, .pop, 433, 0), (433, .aload_n 0, 434, 0), (434, .iconst 0, 435, 0), (435, .putfield 436, 438, 0), (438, .iconst 1, 439, 0), (439, .ireturn, 440, 0), (440, .aload_n 0, 441, 0)]
def pgb_219_3_b7 : List pg_R := [(441, .ldc 83, 443, 0), (443, .invokevirtual 417, 446, 0), (446, .ifCond .ne 12, 449, 458), (449, .aload_n 0, 450, 0)]
def pgB_219_3 : pg_Bk := [(355, pgb_219_3_b0), (371, pgb_219_3_b1), (388, pgb_219_3_b2), (401, pgb_219_3_b3), (417, pgb_219_3_b4), (429, pgb_219_3_b5), (441, pgb_219_3_b6), (450, pgb_219_3_b7)]
set_option maxRecDepth 20000 in
theorem pgc_219_3 : pgB_219_3.all (fun q => q.2.all (pg_ok (pg_cc 219))) = true := by decide +kernel
/-- MarkovDeskModel.factor()Z -/
def pgb_219_4_b0 : List pg_R := [(450, .aload_n 0, 451, 0), (451, .getfield 383, 454, 0), (454, .invokevirtual 363, 457, 0), (457, .ireturn, 458, 0), (458, .aload_n 0, 459, 0), (459, .aload_n 0, 460, 0), (460, .getfield 383, 463, 0), (463, .invokevirtual 445, 466, 0)]
def pgb_219_4_b1 : List pg_R := [(466, .ifCond .eq 26, 469, 492), (469, .aload_n 0, 470, 0), (470, .invokevirtual 377, 473, 0), (473, .ifCond .eq 19, 476, 492), (476, .aload_n 0, 477, 0), (477, .invokevirtual 433, 480, 0), (480, .ifCond .eq 12, 483, 492), (483, .aload_n 0, 484, 0)]
def pgb_219_4_b2 : List pg_R := [(484, .ldc 85, 486, 0), (486, .invokevirtual 448, 489, 0), (489, .ifCond .ne 5, 492, 494), (492, .iconst 0, 493, 0), (493, .ireturn, 494, 0), (494, .aload_n 0, 495, 0), (495, .dup, 496, 0), (496, .getfield 430, 499, 0)]
def pgb_219_4_b3 : List pg_R := [(499, .iconst 1, 500, 0), (500, .isub, 501, 0), (501, .putfield 430, 504, 0), (504, .iconst 1, 505, 0), (505, .ireturn, 506, 0)]
def pgB_219_4 : pg_Bk := [(466, pgb_219_4_b0), (484, pgb_219_4_b1), (499, pgb_219_4_b2), (506, pgb_219_4_b3)]
set_option maxRecDepth 20000 in
theorem pgc_219_4 : pgB_219_4.all (fun q => q.2.all (pg_ok (pg_cc 219))) = true := by decide +kernel
def pgB_219 : pg_Bk := pgB_219_0 ++ (pgB_219_1 ++ (pgB_219_2 ++ (pgB_219_3 ++ (pgB_219_4))))
theorem pgc_219 : pgB_219.all (fun q => q.2.all (pg_ok (pg_cc 219))) = true := pg_all2 pgc_219_0 (pg_all2 pgc_219_1 (pg_all2 pgc_219_2 (pg_all2 pgc_219_3 (pgc_219_4))))
/-- MarkovDeskModel.open(I)Z -/
def pgb_220_b0 : List pg_R := [(0, .aload_n 0, 1, 0), (1, .dup, 2, 0), (2, .getfield 430, 5, 0), (5, .dup_x1, 6, 0), (6, .iconst 1, 7, 0), (7, .iadd, 8, 0), (8, .putfield 430, 11, 0), (11, .bipush 40, 13, 0)]
def pgb_220_b1 : List pg_R := [(13, .if_icmp .lt 11, 16, 24), (16, .aload_n 0, 17, 0), (17, .iload_n 1, 18, 0), (18, .invokevirtual 363, 21, 0), (21, .ifCond .eq 7, 24, 28), (24, .iconst 1, 25, 0), (25, .goto 4, 28, 29), (28, .iconst 0, 29, 0)]
def pgb_220_b2 : List pg_R := [(29, .ireturn, 30, 0)]
def pgB_220 : pg_Bk := [(13, pgb_220_b0), (29, pgb_220_b1), (30, pgb_220_b2)]
set_option maxRecDepth 20000 in
theorem pgc_220 : pgB_220.all (fun q => q.2.all (pg_ok (pg_cc 220))) = true := by decide +kernel
