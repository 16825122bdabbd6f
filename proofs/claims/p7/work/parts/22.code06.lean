/-- MarkovDesk$Nat.shiftDown(I)V -/
def pgb_137_b0 : List pg_R := [(0, .lconst 0, 1, 0), (1, .lstore_n 2, 2, 0), (2, .aload_n 0, 3, 0), (3, .getfield 21, 6, 0), (6, .iconst 1, 7, 0), (7, .isub, 8, 0), (8, .istore 4, 10, 0), (10, .iload 4, 12, 0)]
def pgb_137_b1 : List pg_R := [(12, .ifCond .lt 49, 15, 61), (15, .lload_n 2, 16, 0), (16, .bipush 31, 18, 0), (18, .lshl, 19, 0), (19, .aload_n 0, 20, 0), (20, .getfield 15, 23, 0), (23, .iload 4, 25, 0), (25, .iaload, 26, 0)]
def pgb_137_b2 : List pg_R := [(26, .i2l, 27, 0), (27, .ladd, 28, 0), (28, .lstore 5, 30, 0), (30, .aload_n 0, 31, 0), (31, .getfield 15, 34, 0), (34, .iload 4, 36, 0), (36, .lload 5, 38, 0), (38, .iload_n 1, 39, 0)]
def pgb_137_b3 : List pg_R := [(39, .lushr, 40, 0), (40, .ldc2_w 25, 43, 0), (43, .land, 44, 0), (44, .l2i, 45, 0), (45, .iastore, 46, 0), (46, .lload 5, 48, 0), (48, .lconst 1, 49, 0), (49, .iload_n 1, 50, 0)]
def pgb_137_b4 : List pg_R := [(50, .lshl, 51, 0), (51, .lconst 1, 52, 0), (52, .lsub, 53, 0), (53, .land, 54, 0), (54, .lstore_n 2, 55, 0), (55, .iinc 4 (-1), 58, 0), (58, .goto (-48), 61, 10), (61, .aload_n 0, 62, 0)]
def pgb_137_b5 : List pg_R := [(62, .invokevirtual 53, 65, 0), (65, .return_, 66, 0)]
def pgB_137 : pg_Bk := [(12, pgb_137_b0), (26, pgb_137_b1), (39, pgb_137_b2), (50, pgb_137_b3), (62, pgb_137_b4), (66, pgb_137_b5)]
set_option maxRecDepth 20000 in
theorem pgc_137 : pgB_137.all (fun q => q.2.all (pg_ok (pg_cc 137))) = true := by decide +kernel
/-- MarkovDeskLaw.solve(LMarkovDesk;Z[J)I -/
def pgb_138_b0 : List pg_R := [(0, .aload_n 2, 1, 0), (1, .iconst 0, 2, 0), (2, .aload_n 0, 3, 0), (3, .iload_n 1, 4, 0), (4, .invokevirtual 38, 7, 0), (7, .i2l, 8, 0), (8, .lastore, 9, 0), (9, .goto 6, 12, 15)]
def pgb_138_b1 : List pg_R := [(12, .astore_n 3, 13, 0), (13, .iconst 1, 14, 0), (14, .ireturn, 15, 0), (15, .iconst 0, 16, 0), (16, .ireturn, 17, 0)]
def pgB_138 : pg_Bk := [(12, pgb_138_b0), (17, pgb_138_b1)]
set_option maxRecDepth 20000 in
theorem pgc_138 : pgB_138.all (fun q => q.2.all (pg_ok (pg_cc 138))) = true := by decide +kernel
/-- MarkovDesk.solve(Z)I -/
def pgb_139_b0 : List pg_R := [(0, .aload_n 0, 1, 0), (1, .invokevirtual 189, 4, 0), (4, .iload_n 1, 5, 0), (5, .ifCond .eq 10, 8, 15), (8, .aload_n 0, 9, 0), (9, .getfield 62, 12, 0), (12, .goto 7, 15, 19), (15, .aload_n 0, 16, 0)]
def pgb_139_b1 : List pg_R := [(16, .getfield 58, 19, 0), (19, .astore_n 2, 20, 0), (20, .aload_n 0, 21, 0), (21, .getfield 49, 24, 0), (24, .aload_n 2, 25, 0), (25, .invokevirtual 216, 28, 0), (28, .aload_n 2, 29, 0), (29, .iconst 1, 30, 0)]
def pgb_139_b2 : List pg_R := [(30, .putfield 160, 33, 0), (33, .aload_n 2, 34, 0), (34, .getfield 220, 37, 0), (37, .ireturn, 38, 0)]
def pgB_139 : pg_Bk := [(16, pgb_139_b0), (30, pgb_139_b1), (38, pgb_139_b2)]
set_option maxRecDepth 20000 in
theorem pgc_139 : pgB_139.all (fun q => q.2.all (pg_ok (pg_cc 139))) = true := by decide +kernel
/-- MarkovDesk$Planner.find(LMarkovDesk$Answer;)V -/
def pgb_140_b0 : List pg_R := [(0, .aload_n 1, 1, 0), (1, .getfield 47, 4, 0), (4, .ifCond .eq 4, 7, 8), (7, .return_, 8, 0), (8, .aload_n 1, 9, 0), (9, .getfield 53, 12, 0), (12, .ifCond .eq 11, 15, 23), (15, .aload_n 0, 16, 0)]
def pgb_140_b1 : List pg_R := [(16, .aload_n 1, 17, 0), (17, .invokevirtual 56, 20, 0), (20, .goto 8, 23, 28), (23, .aload_n 0, 24, 0), (24, .aload_n 1, 25, 0), (25, .invokevirtual 60, 28, 0), (28, .iconst 1, 29, 0), (29, .istore_n 2, 30, 0)]
def pgb_140_b2 : List pg_R := [(30, .iconst 1, 31, 0), (31, .istore_n 3, 32, 0), (32, .iload_n 3, 33, 0), (33, .ldc 63, 35, 0), (35, .if_icmp .ge 41, 38, 76), (38, .iload_n 2, 39, 0), (39, .ifCond .eq 37, 42, 76), (42, .aload_n 0, 43, 0)]
def pgb_140_b3 : List pg_R := [(43, .aload_n 1, 44, 0), (44, .invokevirtual 64, 47, 0), (47, .aload_n 0, 48, 0), (48, .getfield 12, 51, 0), (51, .invokevirtual 67, 54, 0), (54, .aload_n 0, 55, 0), (55, .aload_n 1, 56, 0), (56, .invokevirtual 70, 59, 0)]
def pgb_140_b4 : List pg_R := [(59, .aload_n 1, 60, 0), (60, .iload_n 3, 61, 0), (61, .putfield 73, 64, 0), (64, .aload_n 0, 65, 0), (65, .aload_n 1, 66, 0), (66, .invokevirtual 77, 69, 0), (69, .istore_n 2, 70, 0), (70, .iinc 3 1, 73, 0)]
def pgb_140_b5 : List pg_R := [(73, .goto (-41), 76, 32), (76, .aload_n 1, 77, 0), (77, .iconst 1, 78, 0), (78, .putfield 47, 81, 0), (81, .return_, 82, 0)]
def pgB_140 : pg_Bk := [(16, pgb_140_b0), (30, pgb_140_b1), (43, pgb_140_b2), (59, pgb_140_b3), (73, pgb_140_b4), (82, pgb_140_b5)]
set_option maxRecDepth 20000 in
theorem pgc_140 : pgB_140.all (fun q => q.2.all (pg_ok (pg_cc 140))) = true := by decide +kernel
/-- MarkovDesk$Planner.beginLeast(LMarkovDesk$Answer;)V -/
def pgb_141_0_b0 : List pg_R := [(0, .iconst 0, 1, 0), (1, .istore_n 2, 2, 0), (2, .iload_n 2, 3, 0), (3, .aload_n 0, 4, 0), (4, .getfield 43, 7, 0), (7, .getfield 81, 10, 0), (10, .if_icmp .ge 16, 13, 26), (13, .aload_n 1, 14, 0)]
def pgb_141_0_b1 : List pg_R := [(14, .getfield 89, 17, 0), (17, .iload_n 2, 18, 0), (18, .iconst 0, 19, 0), (19, .bastore, 20, 0), (20, .iinc 2 1, 23, 0), (23, .goto (-21), 26, 2), (26, .iconst 1, 27, 0), (27, .istore_n 2, 28, 0)]
def pgb_141_0_b2 : List pg_R := [(28, .iconst 0, 29, 0), (29, .istore_n 3, 30, 0), (30, .iload_n 3, 31, 0), (31, .bipush 24, 33, 0), (33, .if_icmp .gt 79, 36, 112), (36, .iload_n 2, 37, 0), (37, .ifCond .eq 75, 40, 112), (40, .iconst 0, 41, 0)]
def pgb_141_0_b3 : List pg_R := [(41, .istore_n 2, 42, 0), (42, .iconst 0, 43, 0), (43, .istore 4, 45, 0), (45, .iload 4, 47, 0), (47, .aload_n 0, 48, 0), (48, .getfield 43, 51, 0), (51, .getfield 81, 54, 0), (54, .if_icmp .ge 52, 57, 106)]
def pgb_141_0_b4 : List pg_R := [(57, .aload_n 0, 58, 0), (58, .getfield 43, 61, 0), (61, .getfield 93, 64, 0), (64, .iload 4, 66, 0), (66, .baload, 67, 0), (67, .ifCond .ne 33, 70, 100), (70, .aload_n 1, 71, 0), (71, .getfield 89, 74, 0)]
def pgb_141_0_b5 : List pg_R := [(74, .iload 4, 76, 0), (76, .baload, 77, 0), (77, .ifCond .ne 23, 80, 100), (80, .aload_n 0, 81, 0), (81, .aload_n 1, 82, 0), (82, .iload 4, 84, 0), (84, .invokevirtual 113, 87, 0), (87, .ifCond .ge 13, 90, 100)]
def pgb_141_0_b6 : List pg_R := [(90, .aload_n 1, 91, 0), (91, .getfield 89, 94, 0), (94, .iload 4, 96, 0), (96, .iconst 1, 97, 0), (97, .bastore, 98, 0), (98, .iconst 1, 99, 0), (99, .istore_n 2, 100, 0), (100, .iinc 4 1, 103, 0)]
def pgb_141_0_b7 : List pg_R := [(103, .goto (-58), 106, 45), (106, .iinc 3 1, 109, 0), (109, .goto (-79), 112, 30), (112, .iconst 0, 113, 0)]
def pgB_141_0 : pg_Bk := [(14, pgb_141_0_b0), (28, pgb_141_0_b1), (41, pgb_141_0_b2), (57, pgb_141_0_b3), (74, pgb_141_0_b4), (90, pgb_141_0_b5), (103, pgb_141_0_b6), (113, pgb_141_0_b7)]
set_option maxRecDepth 20000 in
theorem pgc_141_0 : pgB_141_0.all (fun q => q.2.all (pg_ok (pg_cc 141))) = true := by decide +kernel
/-- MarkovDesk$Planner.beginLeast(LMarkovDesk$Answer;)V -/
def pgb_141_1_b0 : List pg_R := [(113, .istore_n 3, 114, 0), (114, .iload_n 3, 115, 0), (115, .aload_n 0, 116, 0), (116, .getfield 43, 119, 0), (119, .getfield 81, 122, 0), (122, .if_icmp .ge 62, 125, 184), (125, .aload_n 0, 126, 0), (126, .getfield 43, 129, 0)]
def pgb_141_1_b1 : List pg_R := [(129, .getfield 93, 132, 0), (132, .iload_n 3, 133, 0), (133, .baload, 134, 0), (134, .ifCond .ne 16, 137, 150), (137, .aload_n 1, 138, 0), (138, .getfield 89, 141, 0), (141, .iload_n 3, 142, 0), (142, .baload, 143, 0)]
def pgb_141_1_b2 : List pg_R := [(143, .ifCond .ne 7, 146, 150), (146, .iconst 1, 147, 0), (147, .goto 4, 150, 151), (150, .iconst 0, 151, 0), (151, .istore 4, 153, 0), (153, .aload_n 1, 154, 0), (154, .getfield 86, 157, 0), (157, .iload_n 3, 158, 0)]
def pgb_141_1_b3 : List pg_R := [(158, .iload 4, 160, 0), (160, .ifCond .eq 16, 163, 176), (163, .iconst 0, 164, 0), (164, .aload_n 0, 165, 0), (165, .aload_n 1, 166, 0), (166, .iload_n 3, 167, 0), (167, .invokevirtual 113, 170, 0), (170, .invokestatic 116, 173, 0)]
def pgb_141_1_b4 : List pg_R := [(173, .goto 4, 176, 177), (176, .iconst 0, 177, 0), (177, .iastore, 178, 0), (178, .iinc 3 1, 181, 0), (181, .goto (-67), 184, 114), (184, .return_, 185, 0)]
def pgB_141_1 : pg_Bk := [(129, pgb_141_1_b0), (143, pgb_141_1_b1), (158, pgb_141_1_b2), (173, pgb_141_1_b3), (185, pgb_141_1_b4)]
set_option maxRecDepth 20000 in
theorem pgc_141_1 : pgB_141_1.all (fun q => q.2.all (pg_ok (pg_cc 141))) = true := by decide +kernel
def pgB_141 : pg_Bk := pgB_141_0 ++ (pgB_141_1)
theorem pgc_141 : pgB_141.all (fun q => q.2.all (pg_ok (pg_cc 141))) = true := pg_all2 pgc_141_0 (pgc_141_1)
/-- MarkovDesk$Planner.avoidingChoice(LMarkovDesk$Answer;I)I -/
def pgb_142_0_b0 : List pg_R := [(0, .iconst 0, 1, 0), (1, .istore_n 3, 2, 0), (2, .iload_n 3, 3, 0), (3, .aload_n 0, 4, 0), (4, .getfield 43, 7, 0), (7, .iload_n 2, 8, 0), (8, .invokevirtual 100, 11, 0), (11, .if_icmp .ge 112, 14, 123)]
def pgb_142_0_b1 : List pg_R := [(14, .aload_n 0, 15, 0), (15, .getfield 43, 18, 0), (18, .getfield 104, 21, 0), (21, .iload_n 2, 22, 0), (22, .iaload, 23, 0), (23, .iload_n 3, 24, 0), (24, .iadd, 25, 0), (25, .istore 4, 27, 0)]
def pgb_142_0_b2 : List pg_R := [(27, .iconst 1, 28, 0), (28, .istore 5, 30, 0), (30, .aload_n 0, 31, 0), (31, .getfield 43, 34, 0), (34, .getfield 107, 37, 0), (37, .iload 4, 39, 0), (39, .iaload, 40, 0), (40, .istore 6, 42, 0)]
def pgb_142_0_b3 : List pg_R := [(42, .iload 6, 44, 0), (44, .aload_n 0, 45, 0), (45, .getfield 43, 48, 0), (48, .getfield 107, 51, 0), (51, .iload 4, 53, 0), (53, .iconst 1, 54, 0), (54, .iadd, 55, 0), (55, .iaload, 56, 0)]
def pgb_142_0_b4 : List pg_R := [(56, .if_icmp .ge 54, 59, 110), (59, .aload_n 0, 60, 0), (60, .getfield 43, 63, 0), (63, .getfield 110, 66, 0), (66, .iload 6, 68, 0), (68, .iaload, 69, 0), (69, .istore 7, 71, 0), (71, .iload 5, 73, 0)]
def pgb_142_0_b5 : List pg_R := [(73, .aload_n 0, 74, 0), (74, .getfield 43, 77, 0), (77, .getfield 93, 80, 0), (80, .iload 7, 82, 0), (82, .baload, 83, 0), (83, .ifCond .ne 17, 86, 100), (86, .aload_n 1, 87, 0), (87, .getfield 89, 90, 0)]
def pgb_142_0_b6 : List pg_R := [(90, .iload 7, 92, 0), (92, .baload, 93, 0), (93, .ifCond .ne 7, 96, 100), (96, .iconst 1, 97, 0), (97, .goto 4, 100, 101), (100, .iconst 0, 101, 0), (101, .iand, 102, 0), (102, .istore 5, 104, 0)]
def pgb_142_0_b7 : List pg_R := [(104, .iinc 6 1, 107, 0), (107, .goto (-65), 110, 42), (110, .iload 5, 112, 0), (112, .ifCond .eq 5, 115, 117)]
def pgB_142_0 : pg_Bk := [(14, pgb_142_0_b0), (27, pgb_142_0_b1), (42, pgb_142_0_b2), (56, pgb_142_0_b3), (73, pgb_142_0_b4), (90, pgb_142_0_b5), (104, pgb_142_0_b6), (113, pgb_142_0_b7)]
set_option maxRecDepth 20000 in
theorem pgc_142_0 : pgB_142_0.all (fun q => q.2.all (pg_ok (pg_cc 142))) = true := by decide +kernel
/-- MarkovDesk$Planner.avoidingChoice(LMarkovDesk$Answer;I)I -/
def pgb_142_1_b0 : List pg_R := [(115, .iload_n 3, 116, 0), (116, .ireturn, 117, 0), (117, .iinc 3 1, 120, 0), (120, .goto (-118), 123, 2), (123, .iconst (-1), 124, 0), (124, .ireturn, 125, 0)]
def pgB_142_1 : pg_Bk := [(125, pgb_142_1_b0)]
set_option maxRecDepth 20000 in
theorem pgc_142_1 : pgB_142_1.all (fun q => q.2.all (pg_ok (pg_cc 142))) = true := by decide +kernel
def pgB_142 : pg_Bk := pgB_142_0 ++ (pgB_142_1)
theorem pgc_142 : pgB_142.all (fun q => q.2.all (pg_ok (pg_cc 142))) = true := pg_all2 pgc_142_0 (pgc_142_1)
/-- MarkovDesk$Planner.beginGreatest(LMarkovDesk$Answer;)V -/
def pgb_143_0_b0 : List pg_R := [(0, .iconst 0, 1, 0), (1, .istore_n 2, 2, 0), (2, .iload_n 2, 3, 0), (3, .aload_n 0, 4, 0), (4, .getfield 43, 7, 0), (7, .getfield 81, 10, 0), (10, .if_icmp .ge 23, 13, 33), (13, .aload_n 1, 14, 0)]
def pgb_143_0_b1 : List pg_R := [(14, .getfield 86, 17, 0), (17, .iload_n 2, 18, 0), (18, .iconst 0, 19, 0), (19, .iastore, 20, 0), (20, .aload_n 1, 21, 0), (21, .getfield 89, 24, 0), (24, .iload_n 2, 25, 0), (25, .iconst 0, 26, 0)]
def pgb_143_0_b2 : List pg_R := [(26, .bastore, 27, 0), (27, .iinc 2 1, 30, 0), (30, .goto (-28), 33, 2), (33, .iconst 1, 34, 0), (34, .istore_n 2, 35, 0), (35, .iconst 0, 36, 0), (36, .istore_n 3, 37, 0), (37, .iload_n 3, 38, 0)]
def pgb_143_0_b3 : List pg_R := [(38, .bipush 24, 40, 0), (40, .if_icmp .gt 147, 43, 187), (43, .iload_n 2, 44, 0), (44, .ifCond .eq 143, 47, 187), (47, .iconst 0, 48, 0), (48, .istore_n 2, 49, 0), (49, .iconst 0, 50, 0), (50, .istore 4, 52, 0)]
def pgb_143_0_b4 : List pg_R := [(52, .iload 4, 54, 0), (54, .aload_n 0, 55, 0), (55, .getfield 43, 58, 0), (58, .getfield 81, 61, 0), (61, .if_icmp .ge 67, 64, 128), (64, .aload_n 1, 65, 0), (65, .getfield 89, 68, 0), (68, .iload 4, 70, 0)]
def pgb_143_0_b5 : List pg_R := [(70, .baload, 71, 0), (71, .ifCond .ne 16, 74, 87), (74, .aload_n 0, 75, 0), (75, .getfield 43, 78, 0), (78, .getfield 93, 81, 0), (81, .iload 4, 83, 0), (83, .baload, 84, 0), (84, .ifCond .eq 7, 87, 91)]
def pgb_143_0_b6 : List pg_R := [(87, .iconst (-1), 88, 0), (88, .goto 10, 91, 98), (91, .aload_n 0, 92, 0), (92, .aload_n 1, 93, 0), (93, .iload 4, 95, 0), (95, .invokevirtual 96, 98, 0), (98, .istore 5, 100, 0), (100, .aload_n 0, 101, 0)]
def pgb_143_0_b7 : List pg_R := [(101, .getfield 18, 104, 0), (104, .iload 4, 106, 0), (106, .iload 5, 108, 0), (108, .iastore, 109, 0)]
def pgB_143_0 : pg_Bk := [(14, pgb_143_0_b0), (26, pgb_143_0_b1), (38, pgb_143_0_b2), (52, pgb_143_0_b3), (70, pgb_143_0_b4), (87, pgb_143_0_b5), (101, pgb_143_0_b6), (109, pgb_143_0_b7)]
set_option maxRecDepth 20000 in
theorem pgc_143_0 : pgB_143_0.all (fun q => q.2.all (pg_ok (pg_cc 143))) = true := by decide +kernel
/-- MarkovDesk$Planner.beginGreatest(LMarkovDesk$Answer;)V -/
def pgb_143_1_b0 : List pg_R := [(109, .iload_n 2, 110, 0), (110, .iload 5, 112, 0), (112, .ifCond .lt 7, 115, 119), (115, .iconst 1, 116, 0), (116, .goto 4, 119, 120), (119, .iconst 0, 120, 0), (120, .ior, 121, 0), (121, .istore_n 2, 122, 0)]
def pgb_143_1_b1 : List pg_R := [(122, .iinc 4 1, 125, 0), (125, .goto (-73), 128, 52), (128, .iconst 0, 129, 0), (129, .istore 4, 131, 0), (131, .iload 4, 133, 0), (133, .aload_n 0, 134, 0), (134, .getfield 43, 137, 0), (137, .getfield 81, 140, 0)]
def pgb_143_1_b2 : List pg_R := [(140, .if_icmp .ge 41, 143, 181), (143, .aload_n 0, 144, 0), (144, .getfield 18, 147, 0), (147, .iload 4, 149, 0), (149, .iaload, 150, 0), (150, .ifCond .lt 25, 153, 175), (153, .aload_n 1, 154, 0), (154, .getfield 86, 157, 0)]
def pgb_143_1_b3 : List pg_R := [(157, .iload 4, 159, 0), (159, .aload_n 0, 160, 0), (160, .getfield 18, 163, 0), (163, .iload 4, 165, 0), (165, .iaload, 166, 0), (166, .iastore, 167, 0), (167, .aload_n 1, 168, 0), (168, .getfield 89, 171, 0)]
def pgb_143_1_b4 : List pg_R := [(171, .iload 4, 173, 0), (173, .iconst 1, 174, 0), (174, .bastore, 175, 0), (175, .iinc 4 1, 178, 0), (178, .goto (-47), 181, 131), (181, .iinc 3 1, 184, 0), (184, .goto (-147), 187, 37), (187, .return_, 188, 0)]
def pgB_143_1 : pg_Bk := [(122, pgb_143_1_b0), (140, pgb_143_1_b1), (157, pgb_143_1_b2), (171, pgb_143_1_b3), (188, pgb_143_1_b4)]
set_option maxRecDepth 20000 in
theorem pgc_143_1 : pgB_143_1.all (fun q => q.2.all (pg_ok (pg_cc 143))) = true := by decide +kernel
def pgB_143 : pg_Bk := pgB_143_0 ++ (pgB_143_1)
theorem pgc_143 : pgB_143.all (fun q => q.2.all (pg_ok (pg_cc 143))) = true := pg_all2 pgc_143_0 (pgc_143_1)
/-- MarkovDesk$Planner.nearingChoice(LMarkovDesk$Answer;I)I -/
def pgb_144_b0 : List pg_R := [(0, .iconst 0, 1, 0), (1, .istore_n 3, 2, 0), (2, .iload_n 3, 3, 0), (3, .aload_n 0, 4, 0), (4, .getfield 43, 7, 0), (7, .iload_n 2, 8, 0), (8, .invokevirtual 100, 11, 0), (11, .if_icmp .ge 94, 14, 105)]
def pgb_144_b1 : List pg_R := [(14, .aload_n 0, 15, 0), (15, .getfield 43, 18, 0), (18, .getfield 104, 21, 0), (21, .iload_n 2, 22, 0), (22, .iaload, 23, 0), (23, .iload_n 3, 24, 0), (24, .iadd, 25, 0), (25, .istore 4, 27, 0)]
def pgb_144_b2 : List pg_R := [(27, .aload_n 0, 28, 0), (28, .getfield 43, 31, 0), (31, .getfield 107, 34, 0), (34, .iload 4, 36, 0), (36, .iaload, 37, 0), (37, .istore 5, 39, 0), (39, .iload 5, 41, 0), (41, .aload_n 0, 42, 0)]
def pgb_144_b3 : List pg_R := [(42, .getfield 43, 45, 0), (45, .getfield 107, 48, 0), (48, .iload 4, 50, 0), (50, .iconst 1, 51, 0), (51, .iadd, 52, 0), (52, .iaload, 53, 0), (53, .if_icmp .ge 46, 56, 99), (56, .aload_n 0, 57, 0)]
def pgb_144_b4 : List pg_R := [(57, .getfield 43, 60, 0), (60, .getfield 110, 63, 0), (63, .iload 5, 65, 0), (65, .iaload, 66, 0), (66, .istore 6, 68, 0), (68, .aload_n 0, 69, 0), (69, .getfield 43, 72, 0), (72, .getfield 93, 75, 0)]
def pgb_144_b5 : List pg_R := [(75, .iload 6, 77, 0), (77, .baload, 78, 0), (78, .ifCond .ne 13, 81, 91), (81, .aload_n 1, 82, 0), (82, .getfield 89, 85, 0), (85, .iload 6, 87, 0), (87, .baload, 88, 0), (88, .ifCond .eq 5, 91, 93)]
def pgb_144_b6 : List pg_R := [(91, .iload_n 3, 92, 0), (92, .ireturn, 93, 0), (93, .iinc 5 1, 96, 0), (96, .goto (-57), 99, 39), (99, .iinc 3 1, 102, 0), (102, .goto (-100), 105, 2), (105, .iconst (-1), 106, 0), (106, .ireturn, 107, 0)]
def pgB_144 : pg_Bk := [(14, pgb_144_b0), (27, pgb_144_b1), (42, pgb_144_b2), (57, pgb_144_b3), (75, pgb_144_b4), (91, pgb_144_b5), (107, pgb_144_b6)]
set_option maxRecDepth 20000 in
theorem pgc_144 : pgB_144.all (fun q => q.2.all (pg_ok (pg_cc 144))) = true := by decide +kernel
/-- MarkovDesk$Planner.writeEquations(LMarkovDesk$Answer;)V -/
def pgb_145_b0 : List pg_R := [(0, .iconst 0, 1, 0), (1, .istore_n 2, 2, 0), (2, .iconst 0, 3, 0), (3, .istore_n 3, 4, 0), (4, .iload_n 3, 5, 0), (5, .aload_n 0, 6, 0), (6, .getfield 43, 9, 0), (9, .getfield 81, 12, 0)]
def pgb_145_b1 : List pg_R := [(12, .if_icmp .ge 33, 15, 45), (15, .aload_n 0, 16, 0), (16, .getfield 18, 19, 0), (19, .iload_n 3, 20, 0), (20, .iload_n 2, 21, 0), (21, .iastore, 22, 0), (22, .iload_n 2, 23, 0), (23, .aload_n 1, 24, 0)]
def pgb_145_b2 : List pg_R := [(24, .getfield 89, 27, 0), (27, .iload_n 3, 28, 0), (28, .baload, 29, 0), (29, .ifCond .eq 7, 32, 36), (32, .iconst 1, 33, 0), (33, .goto 4, 36, 37), (36, .iconst 0, 37, 0), (37, .iadd, 38, 0)]
def pgb_145_b3 : List pg_R := [(38, .istore_n 2, 39, 0), (39, .iinc 3 1, 42, 0), (42, .goto (-38), 45, 4), (45, .aload_n 0, 46, 0), (46, .getfield 12, 49, 0), (49, .iload_n 2, 50, 0), (50, .invokevirtual 122, 53, 0), (53, .iconst 0, 54, 0)]
def pgb_145_b4 : List pg_R := [(54, .istore_n 3, 55, 0), (55, .iload_n 3, 56, 0), (56, .aload_n 0, 57, 0), (57, .getfield 43, 60, 0), (60, .getfield 81, 63, 0), (63, .if_icmp .ge 25, 66, 88), (66, .aload_n 1, 67, 0), (67, .getfield 89, 70, 0)]
def pgb_145_b5 : List pg_R := [(70, .iload_n 3, 71, 0), (71, .baload, 72, 0), (72, .ifCond .eq 10, 75, 82), (75, .aload_n 0, 76, 0), (76, .aload_n 1, 77, 0), (77, .iload_n 3, 78, 0), (78, .iload_n 2, 79, 0), (79, .invokevirtual 125, 82, 0)]
def pgb_145_b6 : List pg_R := [(82, .iinc 3 1, 85, 0), (85, .goto (-30), 88, 55), (88, .return_, 89, 0)]
def pgB_145 : pg_Bk := [(12, pgb_145_b0), (24, pgb_145_b1), (38, pgb_145_b2), (54, pgb_145_b3), (70, pgb_145_b4), (82, pgb_145_b5), (89, pgb_145_b6)]
set_option maxRecDepth 20000 in
theorem pgc_145 : pgB_145.all (fun q => q.2.all (pg_ok (pg_cc 145))) = true := by decide +kernel
/-- MarkovDesk$Equations.begin(I)V -/
def pgb_146_b0 : List pg_R := [(0, .aload_n 0, 1, 0), (1, .iconst 0, 2, 0), (2, .iload_n 1, 3, 0), (3, .bipush 24, 5, 0), (5, .invokestatic 44, 8, 0), (8, .invokestatic 50, 11, 0), (11, .putfield 53, 14, 0), (14, .iconst 0, 15, 0)]
def pgb_146_b1 : List pg_R := [(15, .istore_n 2, 16, 0), (16, .iload_n 2, 17, 0), (17, .aload_n 0, 18, 0), (18, .getfield 53, 21, 0), (21, .if_icmp .ge 42, 24, 63), (24, .aload_n 0, 25, 0), (25, .getfield 20, 28, 0), (28, .iload_n 2, 29, 0)]
def pgb_146_b2 : List pg_R := [(29, .iconst 0, 30, 0), (30, .iastore, 31, 0), (31, .iconst 0, 32, 0), (32, .istore_n 3, 33, 0), (33, .iload_n 3, 34, 0), (34, .aload_n 0, 35, 0), (35, .getfield 53, 38, 0), (38, .if_icmp .gt 19, 41, 57)]
def pgb_146_b3 : List pg_R := [(41, .aload_n 0, 42, 0), (42, .iload_n 2, 43, 0), (43, .iload_n 3, 44, 0), (44, .invokevirtual 57, 47, 0), (47, .lconst 0, 48, 0), (48, .invokevirtual 40, 51, 0), (51, .iinc 3 1, 54, 0), (54, .goto (-21), 57, 33)]
def pgb_146_b4 : List pg_R := [(57, .iinc 2 1, 60, 0), (60, .goto (-44), 63, 16), (63, .return_, 64, 0)]
def pgB_146 : pg_Bk := [(15, pgb_146_b0), (29, pgb_146_b1), (41, pgb_146_b2), (57, pgb_146_b3), (64, pgb_146_b4)]
set_option maxRecDepth 20000 in
theorem pgc_146 : pgB_146.all (fun q => q.2.all (pg_ok (pg_cc 146))) = true := by decide +kernel
/-- MarkovDesk$Equations.cell(II)LMarkovDesk$Nat; -/
def pgb_147_b0 : List pg_R := [(0, .iload_n 1, 1, 0), (1, .bipush 25, 3, 0), (3, .imul, 4, 0), (4, .iload_n 2, 5, 0), (5, .iadd, 6, 0), (6, .istore_n 3, 7, 0), (7, .iload_n 3, 8, 0), (8, .ifCond .lt 21, 11, 29)]
def pgb_147_b1 : List pg_R := [(11, .iload_n 3, 12, 0), (12, .aload_n 0, 13, 0), (13, .getfield 13, 16, 0), (16, .arraylength, 17, 0), (17, .if_icmp .ge 12, 20, 29), (20, .aload_n 0, 21, 0), (21, .getfield 13, 24, 0), (24, .iload_n 3, 25, 0)]
def pgb_147_b2 : List pg_R := [(25, .aaload, 26, 0), (26, .goto 7, 29, 33), (29, .aload_n 0, 30, 0), (30, .getfield 31, 33, 0), (33, .areturn, 34, 0)]
def pgB_147 : pg_Bk := [(11, pgb_147_b0), (25, pgb_147_b1), (34, pgb_147_b2)]
set_option maxRecDepth 20000 in
theorem pgc_147 : pgB_147.all (fun q => q.2.all (pg_ok (pg_cc 147))) = true := by decide +kernel
/-- MarkovDesk$Planner.writeEquation(LMarkovDesk$Answer;II)V -/
def pgb_148_0_b0 : List pg_R := [(0, .aload_n 0, 1, 0), (1, .getfield 43, 4, 0), (4, .getfield 104, 7, 0), (7, .iload_n 2, 8, 0), (8, .iaload, 9, 0), (9, .aload_n 1, 10, 0), (10, .getfield 86, 13, 0), (13, .iload_n 2, 14, 0)]
def pgb_148_0_b1 : List pg_R := [(14, .iaload, 15, 0), (15, .iadd, 16, 0), (16, .istore 4, 18, 0), (18, .aload_n 0, 19, 0), (19, .getfield 43, 22, 0), (22, .getfield 129, 25, 0), (25, .iload 4, 27, 0), (27, .laload, 28, 0)]
def pgb_148_0_b2 : List pg_R := [(28, .lstore 5, 30, 0), (30, .lconst 0, 31, 0), (31, .lstore 7, 33, 0), (33, .aload_n 0, 34, 0), (34, .getfield 43, 37, 0), (37, .getfield 107, 40, 0), (40, .iload 4, 42, 0), (42, .iaload, 43, 0)]
def pgb_148_0_b3 : List pg_R := [(43, .istore 9, 45, 0), (45, .iload 9, 47, 0), (47, .aload_n 0, 48, 0), (48, .getfield 43, 51, 0), (51, .getfield 107, 54, 0), (54, .iload 4, 56, 0), (56, .iconst 1, 57, 0), (57, .iadd, 58, 0)]
def pgb_148_0_b4 : List pg_R := [(58, .iaload, 59, 0), (59, .if_icmp .ge 119, 62, 178), (62, .aload_n 0, 63, 0), (63, .getfield 43, 66, 0), (66, .getfield 110, 69, 0), (69, .iload 9, 71, 0), (71, .iaload, 72, 0), (72, .istore 10, 74, 0)]
def pgb_148_0_b5 : List pg_R := [(74, .iload 10, 76, 0), (76, .iload_n 2, 77, 0), (77, .if_icmp .ne 21, 80, 98), (80, .lload 5, 82, 0), (82, .aload_n 0, 83, 0), (83, .getfield 43, 86, 0), (86, .getfield 133, 89, 0), (89, .iload 9, 91, 0)]
def pgb_148_0_b6 : List pg_R := [(91, .laload, 92, 0), (92, .lsub, 93, 0), (93, .lstore 5, 95, 0), (95, .goto 77, 98, 172), (98, .aload_n 0, 99, 0), (99, .getfield 43, 102, 0), (102, .getfield 93, 105, 0), (105, .iload 10, 107, 0)]
def pgb_148_0_b7 : List pg_R := [(107, .baload, 108, 0), (108, .ifCond .eq 21, 111, 129), (111, .lload 7, 113, 0), (113, .aload_n 0, 114, 0)]
def pgB_148_0 : pg_Bk := [(14, pgb_148_0_b0), (28, pgb_148_0_b1), (43, pgb_148_0_b2), (58, pgb_148_0_b3), (74, pgb_148_0_b4), (91, pgb_148_0_b5), (107, pgb_148_0_b6), (114, pgb_148_0_b7)]
set_option maxRecDepth 20000 in
theorem pgc_148_0 : pgB_148_0.all (fun q => q.2.all (pg_ok (pg_cc 148))) = true := by decide +kernel
/-- MarkovDesk$Planner.writeEquation(LMarkovDesk$Answer;II)V -/
def pgb_148_1_b0 : List pg_R := [(114, .getfield 43, 117, 0), (117, .getfield 133, 120, 0), (120, .iload 9, 122, 0), (122, .laload, 123, 0), (123, .ladd, 124, 0), (124, .lstore 7, 126, 0), (126, .goto 46, 129, 172), (129, .aload_n 1, 130, 0)]
def pgb_148_1_b1 : List pg_R := [(130, .getfield 89, 133, 0), (133, .iload 10, 135, 0), (135, .baload, 136, 0), (136, .ifCond .eq 36, 139, 172), (139, .aload_n 0, 140, 0), (140, .getfield 12, 143, 0), (143, .aload_n 0, 144, 0), (144, .getfield 18, 147, 0)]
def pgb_148_1_b2 : List pg_R := [(147, .iload_n 2, 148, 0), (148, .iaload, 149, 0), (149, .aload_n 0, 150, 0), (150, .getfield 18, 153, 0), (153, .iload 10, 155, 0), (155, .iaload, 156, 0), (156, .invokevirtual 136, 159, 0), (159, .aload_n 0, 160, 0)]
def pgb_148_1_b3 : List pg_R := [(160, .getfield 43, 163, 0), (163, .getfield 133, 166, 0), (166, .iload 9, 168, 0), (168, .laload, 169, 0), (169, .invokevirtual 140, 172, 0), (172, .iinc 9 1, 175, 0), (175, .goto (-130), 178, 45), (178, .aload_n 0, 179, 0)]
def pgb_148_1_b4 : List pg_R := [(179, .getfield 12, 182, 0), (182, .aload_n 0, 183, 0), (183, .getfield 18, 186, 0), (186, .iload_n 2, 187, 0), (187, .iaload, 188, 0), (188, .aload_n 0, 189, 0), (189, .getfield 18, 192, 0), (192, .iload_n 2, 193, 0)]
def pgb_148_1_b5 : List pg_R := [(193, .iaload, 194, 0), (194, .invokevirtual 136, 197, 0), (197, .lload 5, 199, 0), (199, .invokevirtual 140, 202, 0), (202, .aload_n 0, 203, 0), (203, .getfield 12, 206, 0), (206, .aload_n 0, 207, 0), (207, .getfield 18, 210, 0)]
def pgb_148_1_b6 : List pg_R := [(210, .iload_n 2, 211, 0), (211, .iaload, 212, 0), (212, .iload_n 3, 213, 0), (213, .invokevirtual 136, 216, 0), (216, .lload 7, 218, 0), (218, .invokevirtual 140, 221, 0), (221, .return_, 222, 0)]
def pgB_148_1 : pg_Bk := [(130, pgb_148_1_b0), (147, pgb_148_1_b1), (160, pgb_148_1_b2), (179, pgb_148_1_b3), (193, pgb_148_1_b4), (210, pgb_148_1_b5), (222, pgb_148_1_b6)]
set_option maxRecDepth 20000 in
theorem pgc_148_1 : pgB_148_1.all (fun q => q.2.all (pg_ok (pg_cc 148))) = true := by decide +kernel
def pgB_148 : pg_Bk := pgB_148_0 ++ (pgB_148_1)
theorem pgc_148 : pgB_148.all (fun q => q.2.all (pg_ok (pg_cc 148))) = true := pg_all2 pgc_148_0 (pgc_148_1)
/-- MarkovDesk$Equations.eliminate()V -/
def pgb_149_0_b0 : List pg_R := [(0, .iconst 0, 1, 0), (1, .istore_n 1, 2, 0), (2, .iload_n 1, 3, 0), (3, .aload_n 0, 4, 0), (4, .getfield 53, 7, 0), (7, .if_icmp .ge 50, 10, 57), (10, .aload_n 0, 11, 0), (11, .iload_n 1, 12, 0)]
def pgb_149_0_b1 : List pg_R := [(12, .invokevirtual 65, 15, 0), (15, .iload_n 1, 16, 0), (16, .iconst 1, 17, 0), (17, .iadd, 18, 0), (18, .istore_n 2, 19, 0), (19, .iload_n 2, 20, 0), (20, .aload_n 0, 21, 0), (21, .getfield 53, 24, 0)]
def pgb_149_0_b2 : List pg_R := [(24, .if_icmp .ge 27, 27, 51), (27, .aload_n 0, 28, 0), (28, .iload_n 2, 29, 0), (29, .iload_n 1, 30, 0), (30, .invokevirtual 57, 33, 0), (33, .getfield 68, 36, 0), (36, .ifCond .le 9, 39, 45), (39, .aload_n 0, 40, 0)]
def pgb_149_0_b3 : List pg_R := [(40, .iload_n 2, 41, 0), (41, .iload_n 1, 42, 0), (42, .invokevirtual 71, 45, 0), (45, .iinc 2 1, 48, 0), (48, .goto (-29), 51, 19), (51, .iinc 1 1, 54, 0), (54, .goto (-52), 57, 2), (57, .aload_n 0, 58, 0)]
def pgb_149_0_b4 : List pg_R := [(58, .getfield 53, 61, 0), (61, .iconst 1, 62, 0), (62, .isub, 63, 0), (63, .istore_n 1, 64, 0), (64, .iload_n 1, 65, 0), (65, .ifCond .lt 85, 68, 150), (68, .aload_n 0, 69, 0), (69, .getfield 34, 72, 0)]
def pgb_149_0_b5 : List pg_R := [(72, .aload_n 0, 73, 0), (73, .invokevirtual 75, 76, 0), (76, .aload_n 0, 77, 0), (77, .iload_n 1, 78, 0), (78, .aload_n 0, 79, 0), (79, .getfield 53, 82, 0), (82, .invokevirtual 57, 85, 0), (85, .invokevirtual 79, 88, 0)]
def pgb_149_0_b6 : List pg_R := [(88, .iload_n 1, 89, 0), (89, .iconst 1, 90, 0), (90, .iadd, 91, 0), (91, .istore_n 2, 92, 0), (92, .iload_n 2, 93, 0), (93, .aload_n 0, 94, 0), (94, .getfield 53, 97, 0), (97, .if_icmp .ge 28, 100, 125)]
def pgb_149_0_b7 : List pg_R := [(100, .aload_n 0, 101, 0), (101, .getfield 34, 104, 0), (104, .aload_n 0, 105, 0), (105, .iload_n 1, 106, 0)]
def pgB_149_0 : pg_Bk := [(12, pgb_149_0_b0), (24, pgb_149_0_b1), (40, pgb_149_0_b2), (58, pgb_149_0_b3), (72, pgb_149_0_b4), (88, pgb_149_0_b5), (100, pgb_149_0_b6), (106, pgb_149_0_b7)]
set_option maxRecDepth 20000 in
theorem pgc_149_0 : pgB_149_0.all (fun q => q.2.all (pg_ok (pg_cc 149))) = true := by decide +kernel
/-- MarkovDesk$Equations.eliminate()V -/
def pgb_149_1_b0 : List pg_R := [(106, .iload_n 2, 107, 0), (107, .invokevirtual 57, 110, 0), (110, .aload_n 0, 111, 0), (111, .getfield 17, 114, 0), (114, .iload_n 2, 115, 0), (115, .aaload, 116, 0), (116, .invokevirtual 83, 119, 0), (119, .iinc 2 1, 122, 0)]
def pgb_149_1_b1 : List pg_R := [(122, .goto (-30), 125, 92), (125, .aload_n 0, 126, 0), (126, .getfield 17, 129, 0), (129, .iload_n 1, 130, 0), (130, .aaload, 131, 0), (131, .aload_n 0, 132, 0), (132, .getfield 34, 135, 0), (135, .aload_n 0, 136, 0)]
def pgb_149_1_b2 : List pg_R := [(136, .iload_n 1, 137, 0), (137, .iload_n 1, 138, 0), (138, .invokevirtual 57, 141, 0), (141, .invokevirtual 86, 144, 0), (144, .iinc 1 (-1), 147, 0), (147, .goto (-83), 150, 64), (150, .return_, 151, 0)]
def pgB_149_1 : pg_Bk := [(122, pgb_149_1_b0), (136, pgb_149_1_b1), (151, pgb_149_1_b2)]
set_option maxRecDepth 20000 in
theorem pgc_149_1 : pgB_149_1.all (fun q => q.2.all (pg_ok (pg_cc 149))) = true := by decide +kernel
def pgB_149 : pg_Bk := pgB_149_0 ++ (pgB_149_1)
theorem pgc_149 : pgB_149.all (fun q => q.2.all (pg_ok (pg_cc 149))) = true := pg_all2 pgc_149_0 (pgc_149_1)
/-- MarkovDesk$Equations.raise(I)V -/
def pgb_150_b0 : List pg_R := [(0, .iload_n 1, 1, 0), (1, .istore_n 2, 2, 0), (2, .iload_n 2, 3, 0), (3, .aload_n 0, 4, 0), (4, .getfield 53, 7, 0), (7, .if_icmp .gt 64, 10, 71), (10, .aload_n 0, 11, 0), (11, .getfield 20, 14, 0)]
def pgb_150_b1 : List pg_R := [(14, .iload_n 1, 15, 0), (15, .iaload, 16, 0), (16, .iload_n 1, 17, 0), (17, .if_icmp .ge 54, 20, 71), (20, .aload_n 0, 21, 0), (21, .iload_n 1, 22, 0), (22, .iload_n 2, 23, 0), (23, .invokevirtual 57, 26, 0)]
def pgb_150_b2 : List pg_R := [(26, .astore_n 3, 27, 0), (27, .aload_n 3, 28, 0), (28, .getfield 68, 31, 0), (31, .ifCond .le 34, 34, 65), (34, .aload_n 0, 35, 0), (35, .getfield 34, 38, 0), (38, .aload_n 3, 39, 0), (39, .aload_n 0, 40, 0)]
def pgb_150_b3 : List pg_R := [(40, .iload_n 1, 41, 0), (41, .invokevirtual 61, 44, 0), (44, .invokevirtual 79, 47, 0), (47, .aload_n 3, 48, 0), (48, .aload_n 0, 49, 0), (49, .getfield 34, 52, 0), (52, .aload_n 0, 53, 0), (53, .aload_n 0, 54, 0)]
def pgb_150_b4 : List pg_R := [(54, .getfield 20, 57, 0), (57, .iload_n 1, 58, 0), (58, .iaload, 59, 0), (59, .invokevirtual 61, 62, 0), (62, .invokevirtual 86, 65, 0), (65, .iinc 2 1, 68, 0), (68, .goto (-66), 71, 2), (71, .aload_n 0, 72, 0)]
def pgb_150_b5 : List pg_R := [(72, .getfield 20, 75, 0), (75, .iload_n 1, 76, 0), (76, .iload_n 1, 77, 0), (77, .iastore, 78, 0), (78, .return_, 79, 0)]
def pgB_150 : pg_Bk := [(14, pgb_150_b0), (26, pgb_150_b1), (40, pgb_150_b2), (54, pgb_150_b3), (72, pgb_150_b4), (79, pgb_150_b5)]
set_option maxRecDepth 20000 in
theorem pgc_150 : pgB_150.all (fun q => q.2.all (pg_ok (pg_cc 150))) = true := by decide +kernel
/-- MarkovDesk$Equations.pivotBefore(I)LMarkovDesk$Nat; -/
def pgb_151_b0 : List pg_R := [(0, .iload_n 1, 1, 0), (1, .ifCond .ne 10, 4, 11), (4, .aload_n 0, 5, 0), (5, .getfield 27, 8, 0), (8, .goto 13, 11, 21), (11, .aload_n 0, 12, 0), (12, .iload_n 1, 13, 0), (13, .iconst 1, 14, 0)]
def pgb_151_b1 : List pg_R := [(14, .isub, 15, 0), (15, .iload_n 1, 16, 0), (16, .iconst 1, 17, 0), (17, .isub, 18, 0), (18, .invokevirtual 57, 21, 0), (21, .areturn, 22, 0)]
def pgB_151 : pg_Bk := [(14, pgb_151_b0), (22, pgb_151_b1)]
set_option maxRecDepth 20000 in
theorem pgc_151 : pgB_151.all (fun q => q.2.all (pg_ok (pg_cc 151))) = true := by decide +kernel
/-- MarkovDesk$Nat.toProduct(LMarkovDesk$Nat;LMarkovDesk$Nat;)V -/
def pgb_152_b0 : List pg_R := [(0, .aload_n 0, 1, 0), (1, .iconst 0, 2, 0), (2, .putfield 21, 5, 0), (5, .aload_n 0, 6, 0), (6, .aload_n 1, 7, 0), (7, .aload_n 2, 8, 0), (8, .invokevirtual 45, 11, 0), (11, .return_, 12, 0)]
def pgB_152 : pg_Bk := [(12, pgb_152_b0)]
set_option maxRecDepth 20000 in
theorem pgc_152 : pgB_152.all (fun q => q.2.all (pg_ok (pg_cc 152))) = true := by decide +kernel
/-- MarkovDesk$Nat.addProduct(LMarkovDesk$Nat;LMarkovDesk$Nat;)V -/
def pgb_153_0_b0 : List pg_R := [(0, .aload_n 1, 1, 0), (1, .getfield 21, 4, 0), (4, .ifCond .eq 35, 7, 39), (7, .aload_n 2, 8, 0), (8, .getfield 21, 11, 0), (11, .ifCond .eq 28, 14, 39), (14, .aload_n 0, 15, 0), (15, .aload_n 0, 16, 0)]
def pgb_153_0_b1 : List pg_R := [(16, .getfield 21, 19, 0), (19, .aload_n 1, 20, 0), (20, .getfield 21, 23, 0), (23, .aload_n 2, 24, 0), (24, .getfield 21, 27, 0), (27, .iadd, 28, 0), (28, .invokestatic 9, 31, 0), (31, .iconst 1, 32, 0)]
def pgb_153_0_b2 : List pg_R := [(32, .iadd, 33, 0), (33, .invokevirtual 49, 36, 0), (36, .ifCond .ne 4, 39, 40), (39, .return_, 40, 0), (40, .iconst 0, 41, 0), (41, .istore_n 3, 42, 0), (42, .iload_n 3, 43, 0), (43, .aload_n 1, 44, 0)]
def pgb_153_0_b3 : List pg_R := [(44, .getfield 21, 47, 0), (47, .if_icmp .ge 153, 50, 200), (50, .aload_n 1, 51, 0), (51, .getfield 15, 54, 0), (54, .iload_n 3, 55, 0), (55, .iaload, 56, 0), (56, .i2l, 57, 0), (57, .lstore 4, 59, 0)]
def pgb_153_0_b4 : List pg_R := [(59, .lconst 0, 60, 0), (60, .lstore 6, 62, 0), (62, .iconst 0, 63, 0), (63, .istore 8, 65, 0), (65, .iload 8, 67, 0), (67, .aload_n 2, 68, 0), (68, .getfield 21, 71, 0), (71, .if_icmp .ge 59, 74, 130)]
def pgb_153_0_b5 : List pg_R := [(74, .lload 4, 76, 0), (76, .aload_n 2, 77, 0), (77, .getfield 15, 80, 0), (80, .iload 8, 82, 0), (82, .iaload, 83, 0), (83, .i2l, 84, 0), (84, .lmul, 85, 0), (85, .aload_n 0, 86, 0)]
def pgb_153_0_b6 : List pg_R := [(86, .getfield 15, 89, 0), (89, .iload_n 3, 90, 0), (90, .iload 8, 92, 0), (92, .iadd, 93, 0), (93, .iaload, 94, 0), (94, .i2l, 95, 0), (95, .ladd, 96, 0), (96, .lload 6, 98, 0)]
def pgb_153_0_b7 : List pg_R := [(98, .ladd, 99, 0), (99, .lstore 9, 101, 0), (101, .aload_n 0, 102, 0), (102, .getfield 15, 105, 0)]
def pgB_153_0 : pg_Bk := [(16, pgb_153_0_b0), (32, pgb_153_0_b1), (44, pgb_153_0_b2), (59, pgb_153_0_b3), (74, pgb_153_0_b4), (86, pgb_153_0_b5), (98, pgb_153_0_b6), (103, pgb_153_0_b7)]
set_option maxRecDepth 20000 in
theorem pgc_153_0 : pgB_153_0.all (fun q => q.2.all (pg_ok (pg_cc 153))) = true := by decide +kernel
/-- MarkovDesk$Nat.addProduct(LMarkovDesk$Nat;LMarkovDesk$Nat;)V -/
def pgb_153_1_b0 : List pg_R := [(105, .iload_n 3, 106, 0), (106, .iload 8, 108, 0), (108, .iadd, 109, 0), (109, .lload 9, 111, 0), (111, .ldc2_w 25, 114, 0), (114, .land, 115, 0), (115, .l2i, 116, 0), (116, .iastore, 117, 0)]
def pgb_153_1_b1 : List pg_R := [(117, .lload 9, 119, 0), (119, .bipush 31, 121, 0), (121, .lushr, 122, 0), (122, .lstore 6, 124, 0), (124, .iinc 8 1, 127, 0), (127, .goto (-62), 130, 65), (130, .iload_n 3, 131, 0), (131, .aload_n 2, 132, 0)]
def pgb_153_1_b2 : List pg_R := [(132, .getfield 21, 135, 0), (135, .iadd, 136, 0), (136, .istore 8, 138, 0), (138, .iload 8, 140, 0), (140, .aload_n 0, 141, 0), (141, .getfield 21, 144, 0), (144, .if_icmp .ge 50, 147, 194), (147, .lload 6, 149, 0)]
def pgb_153_1_b3 : List pg_R := [(149, .lconst 0, 150, 0), (150, .lcmp, 151, 0), (151, .ifCond .eq 43, 154, 194), (154, .aload_n 0, 155, 0), (155, .getfield 15, 158, 0), (158, .iload 8, 160, 0), (160, .iaload, 161, 0), (161, .i2l, 162, 0)]
def pgb_153_1_b4 : List pg_R := [(162, .lload 6, 164, 0), (164, .ladd, 165, 0), (165, .lstore 9, 167, 0), (167, .aload_n 0, 168, 0), (168, .getfield 15, 171, 0), (171, .iload 8, 173, 0), (173, .lload 9, 175, 0), (175, .ldc2_w 25, 178, 0)]
def pgb_153_1_b5 : List pg_R := [(178, .land, 179, 0), (179, .l2i, 180, 0), (180, .iastore, 181, 0), (181, .lload 9, 183, 0), (183, .bipush 31, 185, 0), (185, .lushr, 186, 0), (186, .lstore 6, 188, 0), (188, .iinc 8 1, 191, 0)]
def pgb_153_1_b6 : List pg_R := [(191, .goto (-53), 194, 138), (194, .iinc 3 1, 197, 0), (197, .goto (-155), 200, 42), (200, .aload_n 0, 201, 0), (201, .invokevirtual 53, 204, 0), (204, .return_, 205, 0)]
def pgB_153_1 : pg_Bk := [(117, pgb_153_1_b0), (132, pgb_153_1_b1), (149, pgb_153_1_b2), (162, pgb_153_1_b3), (178, pgb_153_1_b4), (191, pgb_153_1_b5), (205, pgb_153_1_b6)]
set_option maxRecDepth 20000 in
theorem pgc_153_1 : pgB_153_1.all (fun q => q.2.all (pg_ok (pg_cc 153))) = true := by decide +kernel
def pgB_153 : pg_Bk := pgB_153_0 ++ (pgB_153_1)
theorem pgc_153 : pgB_153.all (fun q => q.2.all (pg_ok (pg_cc 153))) = true := pg_all2 pgc_153_0 (pgc_153_1)
