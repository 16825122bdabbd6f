/-- MarkovDesk$Equations.sweep(II)V -/
def pgb_154_0_b0 : List pg_R := [(0, .aload_n 0, 1, 0), (1, .iload_n 2, 2, 0), (2, .iload_n 2, 3, 0), (3, .invokevirtual 57, 6, 0), (6, .astore_n 3, 7, 0), (7, .aload_n 0, 8, 0), (8, .iload_n 1, 9, 0), (9, .iload_n 2, 10, 0)]
def pgb_154_0_b1 : List pg_R := [(10, .invokevirtual 57, 13, 0), (13, .astore 4, 15, 0), (15, .iload_n 2, 16, 0), (16, .iconst 1, 17, 0), (17, .iadd, 18, 0), (18, .istore 5, 20, 0), (20, .iload 5, 22, 0), (22, .aload_n 0, 23, 0)]
def pgb_154_0_b2 : List pg_R := [(23, .getfield 53, 26, 0), (26, .if_icmp .gt 114, 29, 140), (29, .aload_n 0, 30, 0), (30, .iload_n 1, 31, 0), (31, .iload 5, 33, 0), (33, .invokevirtual 57, 36, 0), (36, .astore 6, 38, 0), (38, .aload_n 0, 39, 0)]
def pgb_154_0_b3 : List pg_R := [(39, .iload_n 2, 40, 0), (40, .iload 5, 42, 0), (42, .invokevirtual 57, 45, 0), (45, .astore 7, 47, 0), (47, .aload 6, 49, 0), (49, .getfield 68, 52, 0), (52, .ifCond .gt 11, 55, 63), (55, .aload 7, 57, 0)]
def pgb_154_0_b4 : List pg_R := [(57, .getfield 68, 60, 0), (60, .ifCond .le 74, 63, 134), (63, .aload_n 0, 64, 0), (64, .getfield 34, 67, 0), (67, .aload_n 3, 68, 0), (68, .aload 6, 70, 0), (70, .invokevirtual 79, 73, 0), (73, .iload_n 1, 74, 0)]
def pgb_154_0_b5 : List pg_R := [(74, .iload 5, 76, 0), (76, .if_icmp .ne 28, 79, 104), (79, .aload_n 0, 80, 0), (80, .getfield 37, 83, 0), (83, .aload 4, 85, 0), (85, .aload 7, 87, 0), (87, .invokevirtual 79, 90, 0), (90, .aload_n 0, 91, 0)]
def pgb_154_0_b6 : List pg_R := [(91, .getfield 34, 94, 0), (94, .aload_n 0, 95, 0), (95, .getfield 37, 98, 0), (98, .invokevirtual 89, 101, 0), (101, .goto 14, 104, 115), (104, .aload_n 0, 105, 0), (105, .getfield 34, 108, 0), (108, .aload 4, 110, 0)]
def pgb_154_0_b7 : List pg_R := [(110, .aload 7, 112, 0), (112, .invokevirtual 83, 115, 0), (115, .aload 6, 117, 0), (117, .aload_n 0, 118, 0)]
def pgB_154_0 : pg_Bk := [(10, pgb_154_0_b0), (23, pgb_154_0_b1), (39, pgb_154_0_b2), (57, pgb_154_0_b3), (74, pgb_154_0_b4), (91, pgb_154_0_b5), (110, pgb_154_0_b6), (118, pgb_154_0_b7)]
set_option maxRecDepth 20000 in
theorem pgc_154_0 : pgB_154_0.all (fun q => q.2.all (pg_ok (pg_cc 154))) = true := by decide +kernel
/-- MarkovDesk$Equations.sweep(II)V -/
def pgb_154_1_b0 : List pg_R := [(118, .getfield 34, 121, 0), (121, .aload_n 0, 122, 0), (122, .aload_n 0, 123, 0), (123, .getfield 20, 126, 0), (126, .iload_n 1, 127, 0), (127, .iaload, 128, 0), (128, .invokevirtual 61, 131, 0), (131, .invokevirtual 86, 134, 0)]
def pgb_154_1_b1 : List pg_R := [(134, .iinc 5 1, 137, 0), (137, .goto (-117), 140, 20), (140, .aload_n 0, 141, 0), (141, .getfield 20, 144, 0), (144, .iload_n 1, 145, 0), (145, .iload_n 2, 146, 0), (146, .iconst 1, 147, 0), (147, .iadd, 148, 0)]
def pgb_154_1_b2 : List pg_R := [(148, .iastore, 149, 0), (149, .return_, 150, 0)]
def pgB_154_1 : pg_Bk := [(134, pgb_154_1_b0), (148, pgb_154_1_b1), (150, pgb_154_1_b2)]
set_option maxRecDepth 20000 in
theorem pgc_154_1 : pgB_154_1.all (fun q => q.2.all (pg_ok (pg_cc 154))) = true := by decide +kernel
def pgB_154 : pg_Bk := pgB_154_0 ++ (pgB_154_1)
theorem pgc_154 : pgB_154.all (fun q => q.2.all (pg_ok (pg_cc 154))) = true := pg_all2 pgc_154_0 (pgc_154_1)
/-- MarkovDesk$Nat.subtract(LMarkovDesk$Nat;)V -/
def pgb_155_b0 : List pg_R := [(0, .lconst 0, 1, 0), (1, .lstore_n 2, 2, 0), (2, .iconst 0, 3, 0), (3, .istore 4, 5, 0), (5, .iload 4, 7, 0), (7, .aload_n 0, 8, 0), (8, .getfield 21, 11, 0), (11, .if_icmp .ge 49, 14, 60)]
def pgb_155_b1 : List pg_R := [(14, .aload_n 0, 15, 0), (15, .getfield 15, 18, 0), (18, .iload 4, 20, 0), (20, .iaload, 21, 0), (21, .i2l, 22, 0), (22, .aload_n 1, 23, 0), (23, .iload 4, 25, 0), (25, .invokevirtual 36, 28, 0)]
def pgb_155_b2 : List pg_R := [(28, .i2l, 29, 0), (29, .lsub, 30, 0), (30, .lload_n 2, 31, 0), (31, .ladd, 32, 0), (32, .lstore 5, 34, 0), (34, .aload_n 0, 35, 0), (35, .getfield 15, 38, 0), (38, .iload 4, 40, 0)]
def pgb_155_b3 : List pg_R := [(40, .lload 5, 42, 0), (42, .ldc2_w 25, 45, 0), (45, .land, 46, 0), (46, .l2i, 47, 0), (47, .iastore, 48, 0), (48, .lload 5, 50, 0), (50, .bipush 31, 52, 0), (52, .lshr, 53, 0)]
def pgb_155_b4 : List pg_R := [(53, .lstore_n 2, 54, 0), (54, .iinc 4 1, 57, 0), (57, .goto (-52), 60, 5), (60, .aload_n 0, 61, 0), (61, .invokevirtual 53, 64, 0), (64, .return_, 65, 0)]
def pgB_155 : pg_Bk := [(14, pgb_155_b0), (28, pgb_155_b1), (40, pgb_155_b2), (53, pgb_155_b3), (65, pgb_155_b4)]
set_option maxRecDepth 20000 in
theorem pgc_155 : pgB_155.all (fun q => q.2.all (pg_ok (pg_cc 155))) = true := by decide +kernel
/-- MarkovDesk$Equations.determinant()LMarkovDesk$Nat; -/
def pgb_156_b0 : List pg_R := [(0, .aload_n 0, 1, 0), (1, .aload_n 0, 2, 0), (2, .getfield 53, 5, 0), (5, .invokevirtual 61, 8, 0), (8, .areturn, 9, 0)]
def pgB_156 : pg_Bk := [(9, pgb_156_b0)]
set_option maxRecDepth 20000 in
theorem pgc_156 : pgB_156.all (fun q => q.2.all (pg_ok (pg_cc 156))) = true := by decide +kernel
/-- MarkovDesk$Planner.readSolution(LMarkovDesk$Answer;)V -/
def pgb_157_b0 : List pg_R := [(0, .aload_n 1, 1, 0), (1, .getfield 144, 4, 0), (4, .aload_n 0, 5, 0), (5, .getfield 12, 8, 0), (8, .invokevirtual 146, 11, 0), (11, .invokevirtual 150, 14, 0), (14, .iconst 0, 15, 0), (15, .istore_n 2, 16, 0)]
def pgb_157_b1 : List pg_R := [(16, .iload_n 2, 17, 0), (17, .aload_n 0, 18, 0), (18, .getfield 43, 21, 0), (21, .getfield 81, 24, 0), (24, .if_icmp .ge 82, 27, 106), (27, .aload_n 1, 28, 0), (28, .getfield 89, 31, 0), (31, .iload_n 2, 32, 0)]
def pgb_157_b2 : List pg_R := [(32, .baload, 33, 0), (33, .ifCond .eq 29, 36, 62), (36, .aload_n 1, 37, 0), (37, .getfield 154, 40, 0), (40, .iload_n 2, 41, 0), (41, .aaload, 42, 0), (42, .aload_n 0, 43, 0), (43, .getfield 12, 46, 0)]
def pgb_157_b3 : List pg_R := [(46, .getfield 157, 49, 0), (49, .aload_n 0, 50, 0), (50, .getfield 18, 53, 0), (53, .iload_n 2, 54, 0), (54, .iaload, 55, 0), (55, .aaload, 56, 0), (56, .invokevirtual 150, 59, 0), (59, .goto 41, 62, 100)]
def pgb_157_b4 : List pg_R := [(62, .aload_n 0, 63, 0), (63, .getfield 43, 66, 0), (66, .getfield 93, 69, 0), (69, .iload_n 2, 70, 0), (70, .baload, 71, 0), (71, .ifCond .eq 19, 74, 90), (74, .aload_n 1, 75, 0), (75, .getfield 154, 78, 0)]
def pgb_157_b5 : List pg_R := [(78, .iload_n 2, 79, 0), (79, .aaload, 80, 0), (80, .aload_n 1, 81, 0), (81, .getfield 144, 84, 0), (84, .invokevirtual 150, 87, 0), (87, .goto 13, 90, 100), (90, .aload_n 1, 91, 0), (91, .getfield 154, 94, 0)]
def pgb_157_b6 : List pg_R := [(94, .iload_n 2, 95, 0), (95, .aaload, 96, 0), (96, .lconst 0, 97, 0), (97, .invokevirtual 140, 100, 0), (100, .iinc 2 1, 103, 0), (103, .goto (-87), 106, 16), (106, .return_, 107, 0)]
def pgB_157 : pg_Bk := [(16, pgb_157_b0), (32, pgb_157_b1), (46, pgb_157_b2), (62, pgb_157_b3), (78, pgb_157_b4), (94, pgb_157_b5), (107, pgb_157_b6)]
set_option maxRecDepth 20000 in
theorem pgc_157 : pgB_157.all (fun q => q.2.all (pg_ok (pg_cc 157))) = true := by decide +kernel
/-- MarkovDesk$Planner.improve(LMarkovDesk$Answer;)Z -/
def pgb_158_b0 : List pg_R := [(0, .iconst 0, 1, 0), (1, .istore_n 2, 2, 0), (2, .iconst 0, 3, 0), (3, .istore_n 3, 4, 0), (4, .iload_n 3, 5, 0), (5, .aload_n 0, 6, 0), (6, .getfield 43, 9, 0), (9, .getfield 81, 12, 0)]
def pgb_158_b1 : List pg_R := [(12, .if_icmp .ge 79, 15, 91), (15, .aload_n 1, 16, 0), (16, .getfield 89, 19, 0), (19, .iload_n 3, 20, 0), (20, .baload, 21, 0), (21, .ifCond .eq 64, 24, 85), (24, .aload_n 0, 25, 0), (25, .aload_n 1, 26, 0)]
def pgb_158_b2 : List pg_R := [(26, .iload_n 3, 27, 0), (27, .invokevirtual 160, 30, 0), (30, .istore 4, 32, 0), (32, .aload_n 0, 33, 0), (33, .getfield 43, 36, 0), (36, .getfield 129, 39, 0), (39, .aload_n 0, 40, 0), (40, .getfield 43, 43, 0)]
def pgb_158_b3 : List pg_R := [(43, .getfield 104, 46, 0), (46, .iload_n 3, 47, 0), (47, .iaload, 48, 0), (48, .iload 4, 50, 0), (50, .iadd, 51, 0), (51, .laload, 52, 0), (52, .lstore 5, 54, 0), (54, .aload_n 0, 55, 0)]
def pgb_158_b4 : List pg_R := [(55, .aload_n 1, 56, 0), (56, .aload_n 0, 57, 0), (57, .getfield 34, 60, 0), (60, .lload 5, 62, 0), (62, .aload_n 1, 63, 0), (63, .getfield 154, 66, 0), (66, .iload_n 3, 67, 0), (67, .aaload, 68, 0)]
def pgb_158_b5 : List pg_R := [(68, .lconst 1, 69, 0), (69, .invokevirtual 163, 72, 0), (72, .ifCond .eq 13, 75, 85), (75, .aload_n 1, 76, 0), (76, .getfield 86, 79, 0), (79, .iload_n 3, 80, 0), (80, .iload 4, 82, 0), (82, .iastore, 83, 0)]
def pgb_158_b6 : List pg_R := [(83, .iconst 1, 84, 0), (84, .istore_n 2, 85, 0), (85, .iinc 3 1, 88, 0), (88, .goto (-84), 91, 4), (91, .iload_n 2, 92, 0), (92, .ireturn, 93, 0)]
def pgB_158 : pg_Bk := [(12, pgb_158_b0), (26, pgb_158_b1), (43, pgb_158_b2), (55, pgb_158_b3), (68, pgb_158_b4), (83, pgb_158_b5), (93, pgb_158_b6)]
set_option maxRecDepth 20000 in
theorem pgc_158 : pgB_158.all (fun q => q.2.all (pg_ok (pg_cc 158))) = true := by decide +kernel
/-- MarkovDesk$Planner.bestChoice(LMarkovDesk$Answer;I)I -/
def pgb_159_0_b0 : List pg_R := [(0, .iconst 0, 1, 0), (1, .istore_n 3, 2, 0), (2, .iconst 0, 3, 0), (3, .istore 4, 5, 0), (5, .iload 4, 7, 0), (7, .aload_n 0, 8, 0), (8, .getfield 43, 11, 0), (11, .iload_n 2, 12, 0)]
def pgb_159_0_b1 : List pg_R := [(12, .invokevirtual 100, 15, 0), (15, .if_icmp .ge 177, 18, 192), (18, .aload_n 0, 19, 0), (19, .getfield 43, 22, 0), (22, .getfield 104, 25, 0), (25, .iload_n 2, 26, 0), (26, .iaload, 27, 0), (27, .iload 4, 29, 0)]
def pgb_159_0_b2 : List pg_R := [(29, .iadd, 30, 0), (30, .istore 5, 32, 0), (32, .aload_n 0, 33, 0), (33, .getfield 31, 36, 0), (36, .lconst 0, 37, 0), (37, .invokevirtual 140, 40, 0), (40, .aload_n 0, 41, 0), (41, .getfield 43, 44, 0)]
def pgb_159_0_b3 : List pg_R := [(44, .getfield 107, 47, 0), (47, .iload 5, 49, 0), (49, .iaload, 50, 0), (50, .istore 6, 52, 0), (52, .iload 6, 54, 0), (54, .aload_n 0, 55, 0), (55, .getfield 43, 58, 0), (58, .getfield 107, 61, 0)]
def pgb_159_0_b4 : List pg_R := [(61, .iload 5, 63, 0), (63, .iconst 1, 64, 0), (64, .iadd, 65, 0), (65, .iaload, 66, 0), (66, .if_icmp .ge 52, 69, 118), (69, .aload_n 0, 70, 0), (70, .getfield 27, 73, 0), (73, .aload_n 0, 74, 0)]
def pgb_159_0_b5 : List pg_R := [(74, .getfield 43, 77, 0), (77, .getfield 133, 80, 0), (80, .iload 6, 82, 0), (82, .laload, 83, 0), (83, .invokevirtual 140, 86, 0), (86, .aload_n 0, 87, 0), (87, .getfield 31, 90, 0), (90, .aload_n 1, 91, 0)]
def pgb_159_0_b6 : List pg_R := [(91, .getfield 154, 94, 0), (94, .aload_n 0, 95, 0), (95, .getfield 43, 98, 0), (98, .getfield 110, 101, 0), (101, .iload 6, 103, 0), (103, .iaload, 104, 0), (104, .aaload, 105, 0), (105, .aload_n 0, 106, 0)]
def pgb_159_0_b7 : List pg_R := [(106, .getfield 27, 109, 0), (109, .invokevirtual 167, 112, 0), (112, .iinc 6 1, 115, 0), (115, .goto (-63), 118, 52)]
def pgB_159_0 : pg_Bk := [(12, pgb_159_0_b0), (29, pgb_159_0_b1), (44, pgb_159_0_b2), (61, pgb_159_0_b3), (74, pgb_159_0_b4), (91, pgb_159_0_b5), (106, pgb_159_0_b6), (116, pgb_159_0_b7)]
set_option maxRecDepth 20000 in
theorem pgc_159_0 : pgB_159_0.all (fun q => q.2.all (pg_ok (pg_cc 159))) = true := by decide +kernel
/-- MarkovDesk$Planner.bestChoice(LMarkovDesk$Answer;I)I -/
def pgb_159_1_b0 : List pg_R := [(118, .aload_n 0, 119, 0), (119, .getfield 43, 122, 0), (122, .getfield 129, 125, 0), (125, .iload 5, 127, 0), (127, .laload, 128, 0), (128, .lstore 6, 130, 0), (130, .iload 4, 132, 0), (132, .ifCond .eq 40, 135, 172)]
def pgb_159_1_b1 : List pg_R := [(135, .aload_n 0, 136, 0), (136, .aload_n 1, 137, 0), (137, .aload_n 0, 138, 0), (138, .getfield 31, 141, 0), (141, .lload 6, 143, 0), (143, .aload_n 0, 144, 0), (144, .getfield 34, 147, 0), (147, .aload_n 0, 148, 0)]
def pgb_159_1_b2 : List pg_R := [(148, .getfield 43, 151, 0), (151, .getfield 129, 154, 0), (154, .aload_n 0, 155, 0), (155, .getfield 43, 158, 0), (158, .getfield 104, 161, 0), (161, .iload_n 2, 162, 0), (162, .iaload, 163, 0), (163, .iload_n 3, 164, 0)]
def pgb_159_1_b3 : List pg_R := [(164, .iadd, 165, 0), (165, .laload, 166, 0), (166, .invokevirtual 163, 169, 0), (169, .ifCond .eq 17, 172, 186), (172, .aload_n 0, 173, 0), (173, .getfield 34, 176, 0), (176, .aload_n 0, 177, 0), (177, .getfield 31, 180, 0)]
def pgb_159_1_b4 : List pg_R := [(180, .invokevirtual 150, 183, 0), (183, .iload 4, 185, 0), (185, .istore_n 3, 186, 0), (186, .iinc 4 1, 189, 0), (189, .goto (-184), 192, 5), (192, .iload_n 3, 193, 0), (193, .ireturn, 194, 0)]
def pgB_159_1 : pg_Bk := [(135, pgb_159_1_b0), (148, pgb_159_1_b1), (164, pgb_159_1_b2), (180, pgb_159_1_b3), (194, pgb_159_1_b4)]
set_option maxRecDepth 20000 in
theorem pgc_159_1 : pgB_159_1.all (fun q => q.2.all (pg_ok (pg_cc 159))) = true := by decide +kernel
def pgB_159 : pg_Bk := pgB_159_0 ++ (pgB_159_1)
theorem pgc_159 : pgB_159.all (fun q => q.2.all (pg_ok (pg_cc 159))) = true := pg_all2 pgc_159_0 (pgc_159_1)
/-- MarkovDesk$Planner.isBetter(LMarkovDesk$Answer;LMarkovDesk$Nat;JLMarkovDesk$Nat;J)Z -/
def pgb_160_b0 : List pg_R := [(0, .aload_n 0, 1, 0), (1, .getfield 27, 4, 0), (4, .lload 6, 6, 0), (6, .invokevirtual 140, 9, 0), (9, .aload_n 0, 10, 0), (10, .getfield 37, 13, 0), (13, .aload_n 2, 14, 0), (14, .aload_n 0, 15, 0)]
def pgb_160_b1 : List pg_R := [(15, .getfield 27, 18, 0), (18, .invokevirtual 171, 21, 0), (21, .aload_n 0, 22, 0), (22, .getfield 27, 25, 0), (25, .lload_n 3, 26, 0), (26, .invokevirtual 140, 29, 0), (29, .aload_n 0, 30, 0), (30, .getfield 40, 33, 0)]
def pgb_160_b2 : List pg_R := [(33, .aload 5, 35, 0), (35, .aload_n 0, 36, 0), (36, .getfield 27, 39, 0), (39, .invokevirtual 171, 42, 0), (42, .aload_n 0, 43, 0), (43, .getfield 37, 46, 0), (46, .aload_n 0, 47, 0), (47, .getfield 40, 50, 0)]
def pgb_160_b3 : List pg_R := [(50, .invokevirtual 174, 53, 0), (53, .istore 8, 55, 0), (55, .aload_n 1, 56, 0), (56, .getfield 53, 59, 0), (59, .ifCond .eq 16, 62, 75), (62, .iload 8, 64, 0), (64, .ifCond .ge 7, 67, 71), (67, .iconst 1, 68, 0)]
def pgb_160_b4 : List pg_R := [(68, .goto 17, 71, 85), (71, .iconst 0, 72, 0), (72, .goto 13, 75, 85), (75, .iload 8, 77, 0), (77, .ifCond .le 7, 80, 84), (80, .iconst 1, 81, 0), (81, .goto 4, 84, 85), (84, .iconst 0, 85, 0)]
def pgb_160_b5 : List pg_R := [(85, .ireturn, 86, 0)]
def pgB_160 : pg_Bk := [(15, pgb_160_b0), (33, pgb_160_b1), (50, pgb_160_b2), (68, pgb_160_b3), (85, pgb_160_b4), (86, pgb_160_b5)]
set_option maxRecDepth 20000 in
theorem pgc_160 : pgB_160.all (fun q => q.2.all (pg_ok (pg_cc 160))) = true := by decide +kernel
/-- MarkovDeskLaw.value(LMarkovDesk;ZI[J)I -/
def pgb_161_b0 : List pg_R := [(0, .aload_n 3, 1, 0), (1, .iconst 0, 2, 0), (2, .aload_n 0, 3, 0), (3, .iload_n 1, 4, 0), (4, .iload_n 2, 5, 0), (5, .invokevirtual 42, 8, 0), (8, .ifCond .eq 7, 11, 15), (11, .lconst 1, 12, 0)]
def pgb_161_b1 : List pg_R := [(12, .goto 4, 15, 16), (15, .lconst 0, 16, 0), (16, .lastore, 17, 0), (17, .goto 11, 20, 28), (20, .astore 4, 22, 0), (22, .iconst 1, 23, 0), (23, .ireturn, 24, 0), (24, .astore 4, 26, 0)]
def pgb_161_b2 : List pg_R := [(26, .iconst 2, 27, 0), (27, .ireturn, 28, 0), (28, .iconst 0, 29, 0), (29, .ireturn, 30, 0)]
def pgB_161 : pg_Bk := [(12, pgb_161_b0), (26, pgb_161_b1), (30, pgb_161_b2)]
set_option maxRecDepth 20000 in
theorem pgc_161 : pgB_161.all (fun q => q.2.all (pg_ok (pg_cc 161))) = true := by decide +kernel
/-- MarkovDesk.value(ZI)Z -/
def pgb_162_b0 : List pg_R := [(0, .iload_n 1, 1, 0), (1, .ifCond .eq 10, 4, 11), (4, .aload_n 0, 5, 0), (5, .getfield 62, 8, 0), (8, .goto 7, 11, 15), (11, .aload_n 0, 12, 0), (12, .getfield 58, 15, 0), (15, .astore_n 3, 16, 0)]
def pgb_162_b1 : List pg_R := [(16, .aload_n 3, 17, 0), (17, .invokestatic 223, 20, 0), (20, .aload_n 0, 21, 0), (21, .iload_n 2, 22, 0), (22, .invokevirtual 226, 25, 0), (25, .aload_n 0, 26, 0), (26, .getfield 75, 29, 0), (29, .aload_n 3, 30, 0)]
def pgb_162_b2 : List pg_R := [(30, .getfield 229, 33, 0), (33, .iload_n 2, 34, 0), (34, .aaload, 35, 0), (35, .aload_n 3, 36, 0), (36, .getfield 231, 39, 0), (39, .invokevirtual 209, 42, 0), (42, .aload_n 0, 43, 0), (43, .getfield 75, 46, 0)]
def pgb_162_b3 : List pg_R := [(46, .getfield 233, 49, 0), (49, .aload_n 0, 50, 0), (50, .getfield 75, 53, 0), (53, .getfield 235, 56, 0), (56, .invokevirtual 236, 59, 0), (59, .ifCond .ne 7, 62, 66), (62, .iconst 1, 63, 0), (63, .goto 4, 66, 67)]
def pgb_162_b4 : List pg_R := [(66, .iconst 0, 67, 0), (67, .ireturn, 68, 0)]
def pgB_162 : pg_Bk := [(16, pgb_162_b0), (30, pgb_162_b1), (46, pgb_162_b2), (66, pgb_162_b3), (68, pgb_162_b4)]
set_option maxRecDepth 20000 in
theorem pgc_162 : pgB_162.all (fun q => q.2.all (pg_ok (pg_cc 162))) = true := by decide +kernel
/-- MarkovDesk.requireTold(LMarkovDesk$Answer;)V -/
def pgb_163_b0 : List pg_R := [(0, .aload_n 0, 1, 0), (1, .getfield 160, 4, 0), (4, .ifCond .ne 11, 7, 15), (7, .new 147, 10, 0), (10, .dup, 11, 0), (11, .invokespecial 149, 14, 0), (14, .athrow, 15, 0), (15, .return_, 16, 0)]
def pgB_163 : pg_Bk := [(16, pgb_163_b0)]
set_option maxRecDepth 20000 in
theorem pgc_163 : pgB_163.all (fun q => q.2.all (pg_ok (pg_cc 163))) = true := by decide +kernel
/-- MarkovDesk.requireState(I)V -/
def pgb_164_b0 : List pg_R := [(0, .aload_n 0, 1, 0), (1, .getfield 40, 4, 0), (4, .iload_n 1, 5, 0), (5, .invokevirtual 163, 8, 0), (8, .ifCond .ne 11, 11, 19), (11, .new 102, 14, 0), (14, .dup, 15, 0), (15, .invokespecial 104, 18, 0)]
def pgb_164_b1 : List pg_R := [(18, .athrow, 19, 0), (19, .return_, 20, 0)]
def pgB_164 : pg_Bk := [(18, pgb_164_b0), (20, pgb_164_b1)]
set_option maxRecDepth 20000 in
theorem pgc_164 : pgB_164.all (fun q => q.2.all (pg_ok (pg_cc 164))) = true := by decide +kernel
/-- MarkovDeskLaw.within(LMarkovDesk;ZII[J)I -/
def pgb_165_b0 : List pg_R := [(0, .aload 4, 2, 0), (2, .iconst 0, 3, 0), (3, .aload_n 0, 4, 0), (4, .iload_n 1, 5, 0), (5, .iload_n 2, 6, 0), (6, .iload_n 3, 7, 0), (7, .invokevirtual 46, 10, 0), (10, .ifCond .eq 7, 13, 17)]
def pgb_165_b1 : List pg_R := [(13, .lconst 1, 14, 0), (14, .goto 4, 17, 18), (17, .lconst 0, 18, 0), (18, .lastore, 19, 0), (19, .goto 15, 22, 34), (22, .astore 5, 24, 0), (24, .iconst 1, 25, 0), (25, .ireturn, 26, 0)]
def pgb_165_b2 : List pg_R := [(26, .astore 5, 28, 0), (28, .iconst 2, 29, 0), (29, .ireturn, 30, 0), (30, .astore 5, 32, 0), (32, .iconst 3, 33, 0), (33, .ireturn, 34, 0), (34, .iconst 0, 35, 0), (35, .ireturn, 36, 0)]
def pgB_165 : pg_Bk := [(13, pgb_165_b0), (26, pgb_165_b1), (36, pgb_165_b2)]
set_option maxRecDepth 20000 in
theorem pgc_165 : pgB_165.all (fun q => q.2.all (pg_ok (pg_cc 165))) = true := by decide +kernel
/-- MarkovDesk.within(ZII)Z -/
def pgb_166_b0 : List pg_R := [(0, .iload_n 3, 1, 0), (1, .ifCond .lt 9, 4, 10), (4, .iload_n 3, 5, 0), (5, .bipush 12, 7, 0), (7, .if_icmp .le 11, 10, 18), (10, .new 156, 13, 0), (13, .dup, 14, 0), (14, .invokespecial 158, 17, 0)]
def pgb_166_b1 : List pg_R := [(17, .athrow, 18, 0), (18, .iload_n 1, 19, 0), (19, .ifCond .eq 10, 22, 29), (22, .aload_n 0, 23, 0), (23, .getfield 62, 26, 0), (26, .goto 7, 29, 33), (29, .aload_n 0, 30, 0), (30, .getfield 58, 33, 0)]
def pgb_166_b2 : List pg_R := [(33, .astore 4, 35, 0), (35, .aload 4, 37, 0), (37, .invokestatic 223, 40, 0), (40, .aload_n 0, 41, 0), (41, .iload_n 2, 42, 0), (42, .invokevirtual 226, 45, 0), (45, .aload_n 0, 46, 0), (46, .getfield 68, 49, 0)]
def pgb_166_b3 : List pg_R := [(49, .aload 4, 51, 0), (51, .iload_n 2, 52, 0), (52, .iload_n 3, 53, 0), (53, .invokevirtual 240, 56, 0), (56, .aload_n 0, 57, 0), (57, .getfield 75, 60, 0), (60, .aload_n 0, 61, 0), (61, .getfield 68, 64, 0)]
def pgb_166_b4 : List pg_R := [(64, .getfield 244, 67, 0), (67, .aload_n 0, 68, 0), (68, .getfield 68, 71, 0), (71, .getfield 247, 74, 0), (74, .invokevirtual 209, 77, 0), (77, .aload_n 0, 78, 0), (78, .getfield 75, 81, 0), (81, .getfield 233, 84, 0)]
def pgb_166_b5 : List pg_R := [(84, .getfield 248, 87, 0), (87, .ifCond .ne 7, 90, 94), (90, .iconst 1, 91, 0), (91, .goto 4, 94, 95), (94, .iconst 0, 95, 0), (95, .ireturn, 96, 0)]
def pgB_166 : pg_Bk := [(17, pgb_166_b0), (33, pgb_166_b1), (49, pgb_166_b2), (64, pgb_166_b3), (84, pgb_166_b4), (96, pgb_166_b5)]
set_option maxRecDepth 20000 in
theorem pgc_166 : pgB_166.all (fun q => q.2.all (pg_ok (pg_cc 166))) = true := by decide +kernel
/-- MarkovDesk$Walk.go(LMarkovDesk$Answer;II)V -/
def pgb_167_0_b0 : List pg_R := [(0, .iconst 0, 1, 0), (1, .istore 4, 3, 0), (3, .iload 4, 5, 0), (5, .aload_n 0, 6, 0), (6, .getfield 45, 9, 0), (9, .getfield 49, 12, 0), (12, .if_icmp .ge 30, 15, 42), (15, .aload_n 0, 16, 0)]
def pgb_167_0_b1 : List pg_R := [(16, .getfield 11, 19, 0), (19, .iload 4, 21, 0), (21, .aaload, 22, 0), (22, .iload 4, 24, 0), (24, .iload_n 2, 25, 0), (25, .if_icmp .ne 7, 28, 32), (28, .lconst 1, 29, 0), (29, .goto 4, 32, 33)]
def pgb_167_0_b2 : List pg_R := [(32, .lconst 0, 33, 0), (33, .invokevirtual 55, 36, 0), (36, .iinc 4 1, 39, 0), (39, .goto (-36), 42, 3), (42, .aload_n 0, 43, 0), (43, .getfield 23, 46, 0), (46, .lconst 1, 47, 0), (47, .invokevirtual 55, 50, 0)]
def pgb_167_0_b3 : List pg_R := [(50, .iconst 0, 51, 0), (51, .istore 4, 53, 0), (53, .iload 4, 55, 0), (55, .iload_n 3, 56, 0), (56, .if_icmp .ge 14, 59, 70), (59, .aload_n 0, 60, 0), (60, .aload_n 1, 61, 0), (61, .invokevirtual 59, 64, 0)]
def pgb_167_0_b4 : List pg_R := [(64, .iinc 4 1, 67, 0), (67, .goto (-14), 70, 53), (70, .aload_n 0, 71, 0), (71, .getfield 27, 74, 0), (74, .lconst 0, 75, 0), (75, .invokevirtual 55, 78, 0), (78, .aload_n 0, 79, 0), (79, .getfield 39, 82, 0)]
def pgb_167_0_b5 : List pg_R := [(82, .lconst 1, 83, 0), (83, .invokevirtual 55, 86, 0), (86, .iconst 0, 87, 0), (87, .istore 4, 89, 0), (89, .iload 4, 91, 0), (91, .aload_n 0, 92, 0), (92, .getfield 45, 95, 0), (95, .getfield 49, 98, 0)]
def pgb_167_0_b6 : List pg_R := [(98, .if_icmp .ge 40, 101, 138), (101, .aload_n 0, 102, 0), (102, .getfield 45, 105, 0), (105, .getfield 63, 108, 0), (108, .iload 4, 110, 0), (110, .baload, 111, 0), (111, .ifCond .eq 21, 114, 132), (114, .aload_n 0, 115, 0)]
def pgb_167_0_b7 : List pg_R := [(115, .getfield 27, 118, 0), (118, .aload_n 0, 119, 0), (119, .getfield 11, 122, 0), (122, .iload 4, 124, 0)]
def pgB_167_0 : pg_Bk := [(16, pgb_167_0_b0), (32, pgb_167_0_b1), (50, pgb_167_0_b2), (64, pgb_167_0_b3), (82, pgb_167_0_b4), (98, pgb_167_0_b5), (115, pgb_167_0_b6), (123, pgb_167_0_b7)]
set_option maxRecDepth 20000 in
theorem pgc_167_0 : pgB_167_0.all (fun q => q.2.all (pg_ok (pg_cc 167))) = true := by decide +kernel
/-- MarkovDesk$Walk.go(LMarkovDesk$Answer;II)V -/
def pgb_167_1_b0 : List pg_R := [(124, .aaload, 125, 0), (125, .aload_n 0, 126, 0), (126, .getfield 39, 129, 0), (129, .invokevirtual 67, 132, 0), (132, .iinc 4 1, 135, 0), (135, .goto (-46), 138, 89), (138, .return_, 139, 0)]
def pgB_167_1 : pg_Bk := [(139, pgb_167_1_b0)]
set_option maxRecDepth 20000 in
theorem pgc_167_1 : pgB_167_1.all (fun q => q.2.all (pg_ok (pg_cc 167))) = true := by decide +kernel
def pgB_167 : pg_Bk := pgB_167_0 ++ (pgB_167_1)
theorem pgc_167 : pgB_167.all (fun q => q.2.all (pg_ok (pg_cc 167))) = true := pg_all2 pgc_167_0 (pgc_167_1)
/-- MarkovDesk$Walk.step(LMarkovDesk$Answer;)V -/
def pgb_168_0_b0 : List pg_R := [(0, .aload_n 0, 1, 0), (1, .aload_n 1, 2, 0), (2, .invokevirtual 71, 5, 0), (5, .iconst 0, 6, 0), (6, .istore_n 2, 7, 0), (7, .iload_n 2, 8, 0), (8, .aload_n 0, 9, 0), (9, .getfield 45, 12, 0)]
def pgb_168_0_b1 : List pg_R := [(12, .getfield 49, 15, 0), (15, .if_icmp .ge 19, 18, 34), (18, .aload_n 0, 19, 0), (19, .getfield 17, 22, 0), (22, .iload_n 2, 23, 0), (23, .aaload, 24, 0), (24, .lconst 0, 25, 0), (25, .invokevirtual 55, 28, 0)]
def pgb_168_0_b2 : List pg_R := [(28, .iinc 2 1, 31, 0), (31, .goto (-24), 34, 7), (34, .iconst 0, 35, 0), (35, .istore_n 2, 36, 0), (36, .iload_n 2, 37, 0), (37, .aload_n 0, 38, 0), (38, .getfield 45, 41, 0), (41, .getfield 49, 44, 0)]
def pgb_168_0_b3 : List pg_R := [(44, .if_icmp .ge 85, 47, 129), (47, .aload_n 0, 48, 0), (48, .getfield 45, 51, 0), (51, .getfield 63, 54, 0), (54, .iload_n 2, 55, 0), (55, .baload, 56, 0), (56, .ifCond .eq 25, 59, 81), (59, .aload_n 0, 60, 0)]
def pgb_168_0_b4 : List pg_R := [(60, .getfield 17, 63, 0), (63, .iload_n 2, 64, 0), (64, .aaload, 65, 0), (65, .aload_n 0, 66, 0), (66, .getfield 11, 69, 0), (69, .iload_n 2, 70, 0), (70, .aaload, 71, 0), (71, .aload_n 0, 72, 0)]
def pgb_168_0_b5 : List pg_R := [(72, .getfield 33, 75, 0), (75, .invokevirtual 67, 78, 0), (78, .goto 45, 81, 123), (81, .aload_n 1, 82, 0), (82, .getfield 74, 85, 0), (85, .iload_n 2, 86, 0), (86, .baload, 87, 0), (87, .ifCond .eq 36, 90, 123)]
def pgb_168_0_b6 : List pg_R := [(90, .aload_n 0, 91, 0), (91, .getfield 11, 94, 0), (94, .iload_n 2, 95, 0), (95, .aaload, 96, 0), (96, .getfield 79, 99, 0), (99, .ifCond .le 24, 102, 123), (102, .aload_n 0, 103, 0), (103, .iload_n 2, 104, 0)]
def pgb_168_0_b7 : List pg_R := [(104, .aload_n 0, 105, 0), (105, .getfield 45, 108, 0), (108, .getfield 82, 111, 0), (111, .iload_n 2, 112, 0)]
def pgB_168_0 : pg_Bk := [(12, pgb_168_0_b0), (28, pgb_168_0_b1), (44, pgb_168_0_b2), (60, pgb_168_0_b3), (72, pgb_168_0_b4), (90, pgb_168_0_b5), (104, pgb_168_0_b6), (112, pgb_168_0_b7)]
set_option maxRecDepth 20000 in
theorem pgc_168_0 : pgB_168_0.all (fun q => q.2.all (pg_ok (pg_cc 168))) = true := by decide +kernel
/-- MarkovDesk$Walk.step(LMarkovDesk$Answer;)V -/
def pgb_168_1_b0 : List pg_R := [(112, .iaload, 113, 0), (113, .aload_n 1, 114, 0), (114, .getfield 86, 117, 0), (117, .iload_n 2, 118, 0), (118, .iaload, 119, 0), (119, .iadd, 120, 0), (120, .invokevirtual 89, 123, 0), (123, .iinc 2 1, 126, 0)]
def pgb_168_1_b1 : List pg_R := [(126, .goto (-90), 129, 36), (129, .iconst 0, 130, 0), (130, .istore_n 2, 131, 0), (131, .iload_n 2, 132, 0), (132, .aload_n 0, 133, 0), (133, .getfield 45, 136, 0), (136, .getfield 49, 139, 0), (139, .if_icmp .ge 24, 142, 163)]
def pgb_168_1_b2 : List pg_R := [(142, .aload_n 0, 143, 0), (143, .getfield 11, 146, 0), (146, .iload_n 2, 147, 0), (147, .aaload, 148, 0), (148, .aload_n 0, 149, 0), (149, .getfield 17, 152, 0), (152, .iload_n 2, 153, 0), (153, .aaload, 154, 0)]
def pgb_168_1_b3 : List pg_R := [(154, .invokevirtual 93, 157, 0), (157, .iinc 2 1, 160, 0), (160, .goto (-29), 163, 131), (163, .aload_n 0, 164, 0), (164, .getfield 30, 167, 0), (167, .aload_n 0, 168, 0), (168, .getfield 23, 171, 0), (171, .aload_n 0, 172, 0)]
def pgb_168_1_b4 : List pg_R := [(172, .getfield 33, 175, 0), (175, .invokevirtual 97, 178, 0), (178, .aload_n 0, 179, 0), (179, .getfield 23, 182, 0), (182, .aload_n 0, 183, 0), (183, .getfield 30, 186, 0), (186, .invokevirtual 93, 189, 0), (189, .return_, 190, 0)]
def pgB_168_1 : pg_Bk := [(126, pgb_168_1_b0), (142, pgb_168_1_b1), (154, pgb_168_1_b2), (172, pgb_168_1_b3), (190, pgb_168_1_b4)]
set_option maxRecDepth 20000 in
theorem pgc_168_1 : pgB_168_1.all (fun q => q.2.all (pg_ok (pg_cc 168))) = true := by decide +kernel
def pgB_168 : pg_Bk := pgB_168_0 ++ (pgB_168_1)
theorem pgc_168 : pgB_168.all (fun q => q.2.all (pg_ok (pg_cc 168))) = true := pg_all2 pgc_168_0 (pgc_168_1)
/-- MarkovDesk$Walk.findCommon(LMarkovDesk$Answer;)V -/
def pgb_169_0_b0 : List pg_R := [(0, .aload_n 0, 1, 0), (1, .getfield 33, 4, 0), (4, .lconst 1, 5, 0), (5, .invokevirtual 55, 8, 0), (8, .iconst 0, 9, 0), (9, .istore_n 2, 10, 0), (10, .iload_n 2, 11, 0), (11, .aload_n 0, 12, 0)]
def pgb_169_0_b1 : List pg_R := [(12, .getfield 45, 15, 0), (15, .getfield 49, 18, 0), (18, .if_icmp .ge 135, 21, 153), (21, .aload_n 1, 22, 0), (22, .getfield 74, 25, 0), (25, .iload_n 2, 26, 0), (26, .baload, 27, 0), (27, .ifCond .eq 120, 30, 147)]
def pgb_169_0_b2 : List pg_R := [(30, .aload_n 0, 31, 0), (31, .getfield 11, 34, 0), (34, .iload_n 2, 35, 0), (35, .aaload, 36, 0), (36, .getfield 79, 39, 0), (39, .ifCond .le 108, 42, 147), (42, .aload_n 0, 43, 0), (43, .getfield 45, 46, 0)]
def pgb_169_0_b3 : List pg_R := [(46, .getfield 100, 49, 0), (49, .aload_n 0, 50, 0), (50, .getfield 45, 53, 0), (53, .getfield 82, 56, 0), (56, .iload_n 2, 57, 0), (57, .iaload, 58, 0), (58, .aload_n 1, 59, 0), (59, .getfield 86, 62, 0)]
def pgb_169_0_b4 : List pg_R := [(62, .iload_n 2, 63, 0), (63, .iaload, 64, 0), (64, .iadd, 65, 0), (65, .laload, 66, 0), (66, .lstore_n 3, 67, 0), (67, .aload_n 0, 68, 0), (68, .getfield 39, 71, 0), (71, .lload_n 3, 72, 0)]
def pgb_169_0_b5 : List pg_R := [(72, .invokevirtual 55, 75, 0), (75, .aload_n 0, 76, 0), (76, .getfield 36, 79, 0), (79, .aload_n 0, 80, 0), (80, .getfield 33, 83, 0), (83, .invokevirtual 93, 86, 0), (86, .aload_n 0, 87, 0), (87, .getfield 42, 90, 0)]
def pgb_169_0_b6 : List pg_R := [(90, .aload_n 0, 91, 0), (91, .getfield 36, 94, 0), (94, .aload_n 0, 95, 0), (95, .getfield 39, 98, 0), (98, .invokevirtual 103, 101, 0), (101, .aload_n 0, 102, 0), (102, .getfield 39, 105, 0), (105, .lload_n 3, 106, 0)]
def pgb_169_0_b7 : List pg_R := [(106, .lload_n 3, 107, 0), (107, .aload_n 0, 108, 0), (108, .getfield 36, 111, 0), (111, .invokevirtual 106, 114, 0)]
def pgB_169_0 : pg_Bk := [(12, pgb_169_0_b0), (30, pgb_169_0_b1), (46, pgb_169_0_b2), (62, pgb_169_0_b3), (72, pgb_169_0_b4), (90, pgb_169_0_b5), (106, pgb_169_0_b6), (112, pgb_169_0_b7)]
set_option maxRecDepth 20000 in
theorem pgc_169_0 : pgB_169_0.all (fun q => q.2.all (pg_ok (pg_cc 169))) = true := by decide +kernel
/-- MarkovDesk$Walk.findCommon(LMarkovDesk$Answer;)V -/
def pgb_169_1_b0 : List pg_R := [(114, .invokestatic 110, 117, 0), (117, .ldiv, 118, 0), (118, .invokevirtual 55, 121, 0), (121, .aload_n 0, 122, 0), (122, .getfield 36, 125, 0), (125, .aload_n 0, 126, 0), (126, .getfield 33, 129, 0), (129, .invokevirtual 93, 132, 0)]
def pgb_169_1_b1 : List pg_R := [(132, .aload_n 0, 133, 0), (133, .getfield 33, 136, 0), (136, .aload_n 0, 137, 0), (137, .getfield 36, 140, 0), (140, .aload_n 0, 141, 0), (141, .getfield 39, 144, 0), (144, .invokevirtual 97, 147, 0), (147, .iinc 2 1, 150, 0)]
def pgb_169_1_b2 : List pg_R := [(150, .goto (-140), 153, 10), (153, .return_, 154, 0)]
def pgB_169_1 : pg_Bk := [(132, pgb_169_1_b0), (150, pgb_169_1_b1), (154, pgb_169_1_b2)]
set_option maxRecDepth 20000 in
theorem pgc_169_1 : pgB_169_1.all (fun q => q.2.all (pg_ok (pg_cc 169))) = true := by decide +kernel
def pgB_169 : pg_Bk := pgB_169_0 ++ (pgB_169_1)
theorem pgc_169 : pgB_169.all (fun q => q.2.all (pg_ok (pg_cc 169))) = true := pg_all2 pgc_169_0 (pgc_169_1)
/-- MarkovDesk$Walk.spread(II)V -/
def pgb_170_0_b0 : List pg_R := [(0, .aload_n 0, 1, 0), (1, .getfield 39, 4, 0), (4, .aload_n 0, 5, 0), (5, .getfield 45, 8, 0), (8, .getfield 100, 11, 0), (11, .iload_n 2, 12, 0), (12, .laload, 13, 0), (13, .invokevirtual 55, 16, 0)]
def pgb_170_0_b1 : List pg_R := [(16, .aload_n 0, 17, 0), (17, .getfield 36, 20, 0), (20, .aload_n 0, 21, 0), (21, .getfield 33, 24, 0), (24, .invokevirtual 93, 27, 0), (27, .aload_n 0, 28, 0), (28, .getfield 42, 31, 0), (31, .aload_n 0, 32, 0)]
def pgb_170_0_b2 : List pg_R := [(32, .getfield 36, 35, 0), (35, .aload_n 0, 36, 0), (36, .getfield 39, 39, 0), (39, .invokevirtual 103, 42, 0), (42, .aload_n 0, 43, 0), (43, .getfield 30, 46, 0), (46, .aload_n 0, 47, 0), (47, .getfield 11, 50, 0)]
def pgb_170_0_b3 : List pg_R := [(50, .iload_n 1, 51, 0), (51, .aaload, 52, 0), (52, .aload_n 0, 53, 0), (53, .getfield 42, 56, 0), (56, .invokevirtual 97, 59, 0), (59, .aload_n 0, 60, 0), (60, .getfield 45, 63, 0), (63, .getfield 114, 66, 0)]
def pgb_170_0_b4 : List pg_R := [(66, .iload_n 2, 67, 0), (67, .iaload, 68, 0), (68, .istore_n 3, 69, 0), (69, .iload_n 3, 70, 0), (70, .aload_n 0, 71, 0), (71, .getfield 45, 74, 0), (74, .getfield 114, 77, 0), (77, .iload_n 2, 78, 0)]
def pgb_170_0_b5 : List pg_R := [(78, .iconst 1, 79, 0), (79, .iadd, 80, 0), (80, .iaload, 81, 0), (81, .if_icmp .ge 50, 84, 131), (84, .aload_n 0, 85, 0), (85, .getfield 39, 88, 0), (88, .aload_n 0, 89, 0), (89, .getfield 45, 92, 0)]
def pgb_170_0_b6 : List pg_R := [(92, .getfield 117, 95, 0), (95, .iload_n 3, 96, 0), (96, .laload, 97, 0), (97, .invokevirtual 55, 100, 0), (100, .aload_n 0, 101, 0), (101, .getfield 17, 104, 0), (104, .aload_n 0, 105, 0), (105, .getfield 45, 108, 0)]
def pgb_170_0_b7 : List pg_R := [(108, .getfield 120, 111, 0), (111, .iload_n 3, 112, 0), (112, .iaload, 113, 0), (113, .aaload, 114, 0)]
def pgB_170_0 : pg_Bk := [(16, pgb_170_0_b0), (32, pgb_170_0_b1), (50, pgb_170_0_b2), (66, pgb_170_0_b3), (78, pgb_170_0_b4), (92, pgb_170_0_b5), (108, pgb_170_0_b6), (114, pgb_170_0_b7)]
set_option maxRecDepth 20000 in
theorem pgc_170_0 : pgB_170_0.all (fun q => q.2.all (pg_ok (pg_cc 170))) = true := by decide +kernel
/-- MarkovDesk$Walk.spread(II)V -/
def pgb_170_1_b0 : List pg_R := [(114, .aload_n 0, 115, 0), (115, .getfield 30, 118, 0), (118, .aload_n 0, 119, 0), (119, .getfield 39, 122, 0), (122, .invokevirtual 67, 125, 0), (125, .iinc 3 1, 128, 0), (128, .goto (-59), 131, 69), (131, .return_, 132, 0)]
def pgB_170_1 : pg_Bk := [(132, pgb_170_1_b0)]
set_option maxRecDepth 20000 in
theorem pgc_170_1 : pgB_170_1.all (fun q => q.2.all (pg_ok (pg_cc 170))) = true := by decide +kernel
def pgB_170 : pg_Bk := pgB_170_0 ++ (pgB_170_1)
theorem pgc_170 : pgB_170.all (fun q => q.2.all (pg_ok (pg_cc 170))) = true := pg_all2 pgc_170_0 (pgc_170_1)
/-- MarkovDeskLaw.claim(LMarkovDesk;IJJ)I -/
def pgb_171_b0 : List pg_R := [(0, .aload_n 0, 1, 0), (1, .iload_n 1, 2, 0), (2, .lload_n 2, 3, 0), (3, .lload 4, 5, 0), (5, .invokevirtual 50, 8, 0), (8, .goto 15, 11, 23), (11, .astore 6, 13, 0), (13, .iconst 1, 14, 0)]
def pgb_171_b1 : List pg_R := [(14, .ireturn, 15, 0), (15, .astore 6, 17, 0), (17, .iconst 2, 18, 0), (18, .ireturn, 19, 0), (19, .astore 6, 21, 0), (21, .iconst 3, 22, 0), (22, .ireturn, 23, 0), (23, .iconst 0, 24, 0)]
def pgb_171_b2 : List pg_R := [(24, .ireturn, 25, 0)]
def pgB_171 : pg_Bk := [(14, pgb_171_b0), (24, pgb_171_b1), (25, pgb_171_b2)]
set_option maxRecDepth 20000 in
theorem pgc_171 : pgB_171.all (fun q => q.2.all (pg_ok (pg_cc 171))) = true := by decide +kernel
/-- MarkovDesk.claim(IJJ)V -/
def pgb_172_b0 : List pg_R := [(0, .lload 4, 2, 0), (2, .lconst 0, 3, 0), (3, .lcmp, 4, 0), (4, .ifCond .le 9, 7, 13), (7, .lload_n 2, 8, 0), (8, .lconst 0, 9, 0), (9, .lcmp, 10, 0), (10, .ifCond .ge 11, 13, 21)]
def pgb_172_b1 : List pg_R := [(13, .new 156, 16, 0), (16, .dup, 17, 0), (17, .invokespecial 158, 20, 0), (20, .athrow, 21, 0), (21, .aload_n 0, 22, 0), (22, .invokevirtual 189, 25, 0), (25, .aload_n 0, 26, 0), (26, .iload_n 1, 27, 0)]
def pgb_172_b2 : List pg_R := [(27, .invokevirtual 226, 30, 0), (30, .aload_n 0, 31, 0), (31, .getfield 81, 34, 0), (34, .iload_n 1, 35, 0), (35, .aaload, 36, 0), (36, .lload_n 2, 37, 0), (37, .invokevirtual 202, 40, 0), (40, .aload_n 0, 41, 0)]
def pgb_172_b3 : List pg_R := [(41, .getfield 85, 44, 0), (44, .iload_n 1, 45, 0), (45, .aaload, 46, 0), (46, .lload 4, 48, 0), (48, .invokevirtual 202, 51, 0), (51, .return_, 52, 0)]
def pgB_172 : pg_Bk := [(13, pgb_172_b0), (27, pgb_172_b1), (41, pgb_172_b2), (52, pgb_172_b3)]
set_option maxRecDepth 20000 in
theorem pgc_172 : pgB_172.all (fun q => q.2.all (pg_ok (pg_cc 172))) = true := by decide +kernel
/-- MarkovDeskLaw.claimResult(LMarkovDesk;I)I -/
def pgb_173_b0 : List pg_R := [(0, .aload_n 0, 1, 0), (1, .iload_n 1, 2, 0), (2, .invokevirtual 54, 5, 0), (5, .goto 12, 8, 17), (8, .astore_n 2, 9, 0), (9, .iconst 1, 10, 0), (10, .ireturn, 11, 0), (11, .astore_n 2, 12, 0)]
def pgb_173_b1 : List pg_R := [(12, .iconst 2, 13, 0), (13, .ireturn, 14, 0), (14, .astore_n 2, 15, 0), (15, .iconst 3, 16, 0), (16, .ireturn, 17, 0), (17, .iconst 0, 18, 0), (18, .ireturn, 19, 0)]
def pgB_173 : pg_Bk := [(12, pgb_173_b0), (19, pgb_173_b1)]
set_option maxRecDepth 20000 in
theorem pgc_173 : pgB_173.all (fun q => q.2.all (pg_ok (pg_cc 173))) = true := by decide +kernel
/-- MarkovDesk.claimResult(I)V -/
def pgb_174_b0 : List pg_R := [(0, .aload_n 0, 1, 0), (1, .invokevirtual 189, 4, 0), (4, .aload_n 0, 5, 0), (5, .iload_n 1, 6, 0), (6, .invokevirtual 226, 9, 0), (9, .aload_n 0, 10, 0), (10, .getfield 75, 13, 0), (13, .getfield 235, 16, 0)]
def pgb_174_b1 : List pg_R := [(16, .invokevirtual 251, 19, 0), (19, .sipush 5000, 22, 0), (22, .if_icmp .le 11, 25, 33), (25, .new 254, 28, 0), (28, .dup, 29, 0), (29, .invokespecial 256, 32, 0), (32, .athrow, 33, 0), (33, .aload_n 0, 34, 0)]
def pgb_174_b2 : List pg_R := [(34, .getfield 81, 37, 0), (37, .iload_n 1, 38, 0), (38, .aaload, 39, 0), (39, .aload_n 0, 40, 0), (40, .getfield 75, 43, 0), (43, .getfield 233, 46, 0), (46, .invokevirtual 257, 49, 0), (49, .aload_n 0, 50, 0)]
def pgb_174_b3 : List pg_R := [(50, .getfield 85, 53, 0), (53, .iload_n 1, 54, 0), (54, .aaload, 55, 0), (55, .aload_n 0, 56, 0), (56, .getfield 75, 59, 0), (59, .getfield 235, 62, 0), (62, .invokevirtual 257, 65, 0), (65, .return_, 66, 0)]
def pgB_174 : pg_Bk := [(16, pgb_174_b0), (34, pgb_174_b1), (50, pgb_174_b2), (66, pgb_174_b3)]
set_option maxRecDepth 20000 in
theorem pgc_174 : pgB_174.all (fun q => q.2.all (pg_ok (pg_cc 174))) = true := by decide +kernel
