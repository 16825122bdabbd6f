/-- MarkovDeskModel$Whole.lessTimes(LMarkovDeskModel$Whole;I)V -/
def pgb_255_b0 : List pg_R := [(0, .lconst 0, 1, 0), (1, .lstore_n 3, 2, 0), (2, .iconst 0, 3, 0), (3, .istore 5, 5, 0), (5, .iload 5, 7, 0), (7, .aload_n 0, 8, 0), (8, .getfield 13, 11, 0), (11, .if_icmp .ge 63, 14, 74)]
def pgb_255_b1 : List pg_R := [(14, .lload_n 3, 15, 0), (15, .aload_n 0, 16, 0), (16, .getfield 7, 19, 0), (19, .iload 5, 21, 0), (21, .iaload, 22, 0), (22, .i2l, 23, 0), (23, .iload 5, 25, 0), (25, .aload_n 1, 26, 0)]
def pgb_255_b2 : List pg_R := [(26, .getfield 13, 29, 0), (29, .if_icmp .ge 17, 32, 46), (32, .iload_n 2, 33, 0), (33, .i2l, 34, 0), (34, .aload_n 1, 35, 0), (35, .getfield 7, 38, 0), (38, .iload 5, 40, 0), (40, .iaload, 41, 0)]
def pgb_255_b3 : List pg_R := [(41, .i2l, 42, 0), (42, .lmul, 43, 0), (43, .goto 4, 46, 47), (46, .lconst 0, 47, 0), (47, .lsub, 48, 0), (48, .ladd, 49, 0), (49, .lstore_n 3, 50, 0), (50, .aload_n 0, 51, 0)]
def pgb_255_b4 : List pg_R := [(51, .getfield 7, 54, 0), (54, .iload 5, 56, 0), (56, .lload_n 3, 57, 0), (57, .ldc2_w 17, 60, 0), (60, .land, 61, 0), (61, .l2i, 62, 0), (62, .iastore, 63, 0), (63, .lload_n 3, 64, 0)]
def pgb_255_b5 : List pg_R := [(64, .bipush 16, 66, 0), (66, .lshr, 67, 0), (67, .lstore_n 3, 68, 0), (68, .iinc 5 1, 71, 0), (71, .goto (-66), 74, 5), (74, .aload_n 0, 75, 0), (75, .invokevirtual 23, 78, 0), (78, .return_, 79, 0)]
def pgB_255 : pg_Bk := [(14, pgb_255_b0), (26, pgb_255_b1), (41, pgb_255_b2), (51, pgb_255_b3), (64, pgb_255_b4), (79, pgb_255_b5)]
set_option maxRecDepth 20000 in
theorem pgc_255 : pgB_255.all (fun q => q.2.all (pg_ok (pg_cc 255))) = true := by decide +kernel
/-- MarkovDeskModel.together(I)V -/
def pgb_256_0_b0 : List pg_R := [(0, .iconst 0, 1, 0), (1, .istore_n 2, 2, 0), (2, .iconst 0, 3, 0), (3, .istore_n 3, 4, 0), (4, .iload_n 3, 5, 0), (5, .aload_n 0, 6, 0), (6, .getfield 496, 9, 0), (9, .if_icmp .ge 96, 12, 105)]
def pgb_256_0_b1 : List pg_R := [(12, .iconst 0, 13, 0), (13, .istore 4, 15, 0), (15, .iconst 0, 16, 0), (16, .istore 5, 18, 0), (18, .iconst 0, 19, 0), (19, .istore 6, 21, 0), (21, .iload 6, 23, 0), (23, .aload_n 0, 24, 0)]
def pgb_256_0_b2 : List pg_R := [(24, .getfield 499, 27, 0), (27, .if_icmp .ge 46, 30, 73), (30, .aload_n 0, 31, 0), (31, .getfield 135, 34, 0), (34, .iload 6, 36, 0), (36, .iaload, 37, 0), (37, .iload_n 3, 38, 0), (38, .if_icmp .ne 29, 41, 67)]
def pgb_256_0_b3 : List pg_R := [(41, .aload_n 0, 42, 0), (42, .getfield 138, 45, 0), (45, .iload 6, 47, 0), (47, .iaload, 48, 0), (48, .iload_n 1, 49, 0), (49, .if_icmp .ne 18, 52, 67), (52, .iconst 1, 53, 0), (53, .istore 4, 55, 0)]
def pgb_256_0_b4 : List pg_R := [(55, .iload 5, 57, 0), (57, .aload_n 0, 58, 0), (58, .getfield 196, 61, 0), (61, .iload 6, 63, 0), (63, .baload, 64, 0), (64, .ior, 65, 0), (65, .istore 5, 67, 0), (67, .iinc 6 1, 70, 0)]
def pgb_256_0_b5 : List pg_R := [(70, .goto (-49), 73, 21), (73, .iload 4, 75, 0), (75, .ifCond .eq 9, 78, 84), (78, .iload 5, 80, 0), (80, .ifCond .ne 4, 83, 84), (83, .return_, 84, 0), (84, .iload 4, 86, 0), (86, .ifCond .eq 13, 89, 99)]
def pgb_256_0_b6 : List pg_R := [(89, .aload_n 0, 90, 0), (90, .getfield 187, 93, 0), (93, .iload_n 2, 94, 0), (94, .iinc 2 1, 97, 0), (97, .iload_n 3, 98, 0), (98, .iastore, 99, 0), (99, .iinc 3 1, 102, 0), (102, .goto (-98), 105, 4)]
def pgb_256_0_b7 : List pg_R := [(105, .iconst 0, 106, 0), (106, .istore_n 3, 107, 0), (107, .iload_n 3, 108, 0), (108, .iload_n 2, 109, 0)]
def pgB_256_0 : pg_Bk := [(12, pgb_256_0_b0), (24, pgb_256_0_b1), (41, pgb_256_0_b2), (55, pgb_256_0_b3), (70, pgb_256_0_b4), (89, pgb_256_0_b5), (105, pgb_256_0_b6), (109, pgb_256_0_b7)]
set_option maxRecDepth 20000 in
theorem pgc_256_0 : pgB_256_0.all (fun q => q.2.all (pg_ok (pg_cc 256))) = true := by decide +kernel
/-- MarkovDeskModel.together(I)V -/
def pgb_256_1_b0 : List pg_R := [(109, .if_icmp .ge 27, 112, 136), (112, .aload_n 0, 113, 0), (113, .getfield 184, 116, 0), (116, .iload_n 3, 117, 0), (117, .aload_n 0, 118, 0), (118, .iload_n 1, 119, 0), (119, .aload_n 0, 120, 0), (120, .getfield 187, 123, 0)]
def pgb_256_1_b1 : List pg_R := [(123, .iload_n 3, 124, 0), (124, .iaload, 125, 0), (125, .iconst (-1), 126, 0), (126, .invokevirtual 585, 129, 0), (129, .iastore, 130, 0), (130, .iinc 3 1, 133, 0), (133, .goto (-26), 136, 107), (136, .aload_n 0, 137, 0)]
def pgb_256_1_b2 : List pg_R := [(137, .getfield 564, 140, 0), (140, .ifCond .ne 83, 143, 223), (143, .aload_n 0, 144, 0), (144, .iload_n 2, 145, 0), (145, .invokevirtual 576, 148, 0), (148, .iload_n 2, 149, 0), (149, .iconst 1, 150, 0), (150, .isub, 151, 0)]
def pgb_256_1_b3 : List pg_R := [(151, .istore_n 3, 152, 0), (152, .iload_n 3, 153, 0), (153, .ifCond .lt 62, 156, 215), (156, .aload_n 0, 157, 0), (157, .iload_n 1, 158, 0), (158, .aload_n 0, 159, 0), (159, .getfield 187, 162, 0), (162, .iload_n 3, 163, 0)]
def pgb_256_1_b4 : List pg_R := [(163, .iaload, 164, 0), (164, .aload_n 0, 165, 0), (165, .getfield 184, 168, 0), (168, .iload_n 3, 169, 0), (169, .iaload, 170, 0), (170, .invokevirtual 585, 173, 0), (173, .istore 4, 175, 0), (175, .iload 4, 177, 0)]
def pgb_256_1_b5 : List pg_R := [(177, .ifCond .lt 14, 180, 191), (180, .aload_n 0, 181, 0), (181, .getfield 184, 184, 0), (184, .iload_n 3, 185, 0), (185, .iload 4, 187, 0), (187, .iastore, 188, 0), (188, .goto 27, 191, 215), (191, .aload_n 0, 192, 0)]
def pgb_256_1_b6 : List pg_R := [(192, .getfield 184, 195, 0), (195, .iload_n 3, 196, 0), (196, .aload_n 0, 197, 0), (197, .iload_n 1, 198, 0), (198, .aload_n 0, 199, 0), (199, .getfield 187, 202, 0), (202, .iload_n 3, 203, 0), (203, .iaload, 204, 0)]
def pgb_256_1_b7 : List pg_R := [(204, .iconst (-1), 205, 0), (205, .invokevirtual 585, 208, 0), (208, .iastore, 209, 0), (209, .iinc 3 (-1), 212, 0)]
def pgB_256_1 : pg_Bk := [(123, pgb_256_1_b0), (137, pgb_256_1_b1), (151, pgb_256_1_b2), (163, pgb_256_1_b3), (177, pgb_256_1_b4), (192, pgb_256_1_b5), (204, pgb_256_1_b6), (210, pgb_256_1_b7)]
set_option maxRecDepth 20000 in
theorem pgc_256_1 : pgB_256_1.all (fun q => q.2.all (pg_ok (pg_cc 256))) = true := by decide +kernel
/-- MarkovDeskModel.together(I)V -/
def pgb_256_2_b0 : List pg_R := [(212, .goto (-60), 215, 152), (215, .iload_n 3, 216, 0), (216, .ifCond .ge 4, 219, 220), (219, .return_, 220, 0), (220, .goto (-84), 223, 136), (223, .return_, 224, 0)]
def pgB_256_2 : pg_Bk := [(224, pgb_256_2_b0)]
set_option maxRecDepth 20000 in
theorem pgc_256_2 : pgB_256_2.all (fun q => q.2.all (pg_ok (pg_cc 256))) = true := by decide +kernel
def pgB_256 : pg_Bk := pgB_256_0 ++ (pgB_256_1 ++ (pgB_256_2))
theorem pgc_256 : pgB_256.all (fun q => q.2.all (pg_ok (pg_cc 256))) = true := pg_all2 pgc_256_0 (pg_all2 pgc_256_1 (pgc_256_2))
/-- MarkovDeskModel.ahead(III)I -/
def pgb_257_b0 : List pg_R := [(0, .iload_n 3, 1, 0), (1, .iconst 1, 2, 0), (2, .iadd, 3, 0), (3, .istore 4, 5, 0), (5, .iload 4, 7, 0), (7, .aload_n 0, 8, 0), (8, .getfield 499, 11, 0), (11, .if_icmp .ge 44, 14, 55)]
def pgb_257_b1 : List pg_R := [(14, .aload_n 0, 15, 0), (15, .getfield 135, 18, 0), (18, .iload 4, 20, 0), (20, .iaload, 21, 0), (21, .iload_n 2, 22, 0), (22, .if_icmp .ne 27, 25, 49), (25, .aload_n 0, 26, 0), (26, .getfield 138, 29, 0)]
def pgb_257_b2 : List pg_R := [(29, .iload 4, 31, 0), (31, .iaload, 32, 0), (32, .iload_n 1, 33, 0), (33, .if_icmp .ne 16, 36, 49), (36, .aload_n 0, 37, 0), (37, .getfield 196, 40, 0), (40, .iload 4, 42, 0), (42, .baload, 43, 0)]
def pgb_257_b3 : List pg_R := [(43, .ifCond .eq 6, 46, 49), (46, .iload 4, 48, 0), (48, .ireturn, 49, 0), (49, .iinc 4 1, 52, 0), (52, .goto (-47), 55, 5), (55, .iconst (-1), 56, 0), (56, .ireturn, 57, 0)]
def pgB_257 : pg_Bk := [(14, pgb_257_b0), (29, pgb_257_b1), (43, pgb_257_b2), (57, pgb_257_b3)]
set_option maxRecDepth 20000 in
theorem pgc_257 : pgB_257.all (fun q => q.2.all (pg_ok (pg_cc 257))) = true := by decide +kernel
/-- MarkovDeskModel.solve(Z)I -/
def pgb_258_b0 : List pg_R := [(0, .aload_n 0, 1, 0), (1, .iconst 0, 2, 0), (2, .putfield 339, 5, 0), (5, .aload_n 0, 6, 0), (6, .aload_n 0, 7, 0), (7, .getfield 353, 10, 0), (10, .ifCond .ne 7, 13, 17), (13, .iconst 1, 14, 0)]
def pgb_258_b1 : List pg_R := [(14, .goto 4, 17, 18), (17, .iconst 0, 18, 0), (18, .iconst 1, 19, 0), (19, .invokevirtual 345, 22, 0), (22, .ifCond .eq 5, 25, 27), (25, .iconst 0, 26, 0), (26, .ireturn, 27, 0), (27, .iload_n 1, 28, 0)]
def pgb_258_b2 : List pg_R := [(28, .ifCond .eq 7, 31, 35), (31, .iconst 1, 32, 0), (32, .goto 4, 35, 36), (35, .iconst 0, 36, 0), (36, .istore_n 2, 37, 0), (37, .aload_n 0, 38, 0), (38, .iload_n 2, 39, 0), (39, .invokevirtual 660, 42, 0)]
def pgb_258_b3 : List pg_R := [(42, .aload_n 0, 43, 0), (43, .getfield 242, 46, 0), (46, .iload_n 2, 47, 0), (47, .iconst 1, 48, 0), (48, .bastore, 49, 0), (49, .aload_n 0, 50, 0), (50, .getfield 254, 53, 0), (53, .iload_n 2, 54, 0)]
def pgb_258_b4 : List pg_R := [(54, .iaload, 55, 0), (55, .ireturn, 56, 0)]
def pgB_258 : pg_Bk := [(14, pgb_258_b0), (28, pgb_258_b1), (42, pgb_258_b2), (54, pgb_258_b3), (56, pgb_258_b4)]
set_option maxRecDepth 20000 in
theorem pgc_258 : pgB_258.all (fun q => q.2.all (pg_ok (pg_cc 258))) = true := by decide +kernel
/-- MarkovDeskModel.find(I)V -/
def pgb_259_0_b0 : List pg_R := [(0, .aload_n 0, 1, 0), (1, .getfield 245, 4, 0), (4, .iload_n 1, 5, 0), (5, .baload, 6, 0), (6, .ifCond .eq 4, 9, 10), (9, .return_, 10, 0), (10, .aload_n 0, 11, 0), (11, .getfield 245, 14, 0)]
def pgb_259_0_b1 : List pg_R := [(14, .iload_n 1, 15, 0), (15, .iconst 1, 16, 0), (16, .bastore, 17, 0), (17, .aload_n 0, 18, 0), (18, .iload_n 1, 19, 0), (19, .invokevirtual 648, 22, 0), (22, .aload_n 0, 23, 0), (23, .getfield 254, 26, 0)]
def pgb_259_0_b2 : List pg_R := [(26, .iload_n 1, 27, 0), (27, .iconst 0, 28, 0), (28, .iastore, 29, 0), (29, .iconst 1, 30, 0), (30, .istore_n 2, 31, 0), (31, .iload_n 2, 32, 0), (32, .ifCond .eq 282, 35, 314), (35, .iconst 0, 36, 0)]
def pgb_259_0_b3 : List pg_R := [(36, .istore_n 2, 37, 0), (37, .aload_n 0, 38, 0), (38, .iload_n 1, 39, 0), (39, .invokevirtual 650, 42, 0), (42, .aload_n 0, 43, 0), (43, .getfield 254, 46, 0), (46, .iload_n 1, 47, 0), (47, .dup2, 48, 0)]
def pgb_259_0_b4 : List pg_R := [(48, .iaload, 49, 0), (49, .iconst 1, 50, 0), (50, .iadd, 51, 0), (51, .iastore, 52, 0), (52, .iconst 0, 53, 0), (53, .istore_n 3, 54, 0), (54, .iload_n 3, 55, 0), (55, .aload_n 0, 56, 0)]
def pgb_259_0_b5 : List pg_R := [(56, .getfield 555, 59, 0), (59, .if_icmp .ge 252, 62, 311), (62, .aload_n 0, 63, 0), (63, .getfield 193, 66, 0), (66, .iload_n 3, 67, 0), (67, .baload, 68, 0), (68, .ifCond .ne 237, 71, 305), (71, .aload_n 0, 72, 0)]
def pgb_259_0_b6 : List pg_R := [(72, .getfield 248, 75, 0), (75, .iload_n 1, 76, 0), (76, .bipush 24, 78, 0), (78, .imul, 79, 0), (79, .iload_n 3, 80, 0), (80, .iadd, 81, 0), (81, .baload, 82, 0), (82, .ifCond .eq 6, 85, 88)]
def pgb_259_0_b7 : List pg_R := [(85, .goto 220, 88, 305), (88, .aload_n 0, 89, 0), (89, .getfield 172, 92, 0), (92, .iload_n 3, 93, 0)]
def pgB_259_0 : pg_Bk := [(14, pgb_259_0_b0), (26, pgb_259_0_b1), (36, pgb_259_0_b2), (48, pgb_259_0_b3), (56, pgb_259_0_b4), (72, pgb_259_0_b5), (85, pgb_259_0_b6), (93, pgb_259_0_b7)]
set_option maxRecDepth 20000 in
theorem pgc_259_0 : pgB_259_0.all (fun q => q.2.all (pg_ok (pg_cc 259))) = true := by decide +kernel
/-- MarkovDeskModel.find(I)V -/
def pgb_259_1_b0 : List pg_R := [(93, .iaload, 94, 0), (94, .aload_n 0, 95, 0), (95, .getfield 251, 98, 0), (98, .iload_n 1, 99, 0), (99, .bipush 24, 101, 0), (101, .imul, 102, 0), (102, .iload_n 3, 103, 0), (103, .iadd, 104, 0)]
def pgb_259_1_b1 : List pg_R := [(104, .iaload, 105, 0), (105, .iadd, 106, 0), (106, .istore 4, 108, 0), (108, .iload 4, 110, 0), (110, .istore 5, 112, 0), (112, .aload_n 0, 113, 0), (113, .iload_n 1, 114, 0), (114, .iload 4, 116, 0)]
def pgb_259_1_b2 : List pg_R := [(116, .invokevirtual 653, 119, 0), (119, .aload_n 0, 120, 0), (120, .getfield 303, 123, 0), (123, .aload_n 0, 124, 0), (124, .getfield 309, 127, 0), (127, .invokevirtual 615, 130, 0), (130, .aload_n 0, 131, 0), (131, .getfield 306, 134, 0)]
def pgb_259_1_b3 : List pg_R := [(134, .aload_n 0, 135, 0), (135, .getfield 312, 138, 0), (138, .invokevirtual 615, 141, 0), (141, .iconst 0, 142, 0), (142, .istore 6, 144, 0), (144, .aload_n 0, 145, 0), (145, .getfield 172, 148, 0), (148, .iload_n 3, 149, 0)]
def pgb_259_1_b4 : List pg_R := [(149, .iaload, 150, 0), (150, .istore 7, 152, 0), (152, .iload 7, 154, 0), (154, .aload_n 0, 155, 0), (155, .iload_n 3, 156, 0), (156, .invokevirtual 628, 159, 0), (159, .if_icmp .ge 116, 162, 275), (162, .iload 7, 164, 0)]
def pgb_259_1_b5 : List pg_R := [(164, .iload 4, 166, 0), (166, .if_icmp .ne 6, 169, 172), (169, .goto 100, 172, 269), (172, .aload_n 0, 173, 0), (173, .iload_n 1, 174, 0), (174, .iload 7, 176, 0), (176, .invokevirtual 653, 179, 0), (179, .aload_n 0, 180, 0)]
def pgb_259_1_b6 : List pg_R := [(180, .getfield 315, 183, 0), (183, .aload_n 0, 184, 0), (184, .getfield 309, 187, 0), (187, .aload_n 0, 188, 0), (188, .getfield 306, 191, 0), (191, .invokevirtual 607, 194, 0), (194, .aload_n 0, 195, 0), (195, .getfield 318, 198, 0)]
def pgb_259_1_b7 : List pg_R := [(198, .aload_n 0, 199, 0), (199, .getfield 303, 202, 0), (202, .aload_n 0, 203, 0), (203, .getfield 312, 206, 0)]
def pgB_259_1 : pg_Bk := [(104, pgb_259_1_b0), (116, pgb_259_1_b1), (134, pgb_259_1_b2), (149, pgb_259_1_b3), (164, pgb_259_1_b4), (180, pgb_259_1_b5), (198, pgb_259_1_b6), (204, pgb_259_1_b7)]
set_option maxRecDepth 20000 in
theorem pgc_259_1 : pgB_259_1.all (fun q => q.2.all (pg_ok (pg_cc 259))) = true := by decide +kernel
/-- MarkovDeskModel.find(I)V -/
def pgb_259_2_b0 : List pg_R := [(206, .invokevirtual 607, 209, 0), (209, .aload_n 0, 210, 0), (210, .getfield 315, 213, 0), (213, .aload_n 0, 214, 0), (214, .getfield 318, 217, 0), (217, .invokevirtual 656, 220, 0), (220, .iload_n 1, 221, 0), (221, .ifCond .ne 7, 224, 228)]
def pgb_259_2_b1 : List pg_R := [(224, .iconst 1, 225, 0), (225, .goto 4, 228, 229), (228, .iconst (-1), 229, 0), (229, .imul, 230, 0), (230, .istore 8, 232, 0), (232, .iload 8, 234, 0), (234, .ifCond .gt 6, 237, 240), (237, .goto 32, 240, 269)]
def pgb_259_2_b2 : List pg_R := [(240, .iconst 1, 241, 0), (241, .istore 6, 243, 0), (243, .iload 7, 245, 0), (245, .istore 5, 247, 0), (247, .aload_n 0, 248, 0), (248, .getfield 303, 251, 0), (251, .aload_n 0, 252, 0), (252, .getfield 309, 255, 0)]
def pgb_259_2_b3 : List pg_R := [(255, .invokevirtual 615, 258, 0), (258, .aload_n 0, 259, 0), (259, .getfield 306, 262, 0), (262, .aload_n 0, 263, 0), (263, .getfield 312, 266, 0), (266, .invokevirtual 615, 269, 0), (269, .iinc 7 1, 272, 0), (272, .goto (-120), 275, 152)]
def pgb_259_2_b4 : List pg_R := [(275, .iload 6, 277, 0), (277, .ifCond .ne 6, 280, 283), (280, .goto 25, 283, 305), (283, .aload_n 0, 284, 0), (284, .getfield 251, 287, 0), (287, .iload_n 1, 288, 0), (288, .bipush 24, 290, 0), (290, .imul, 291, 0)]
def pgb_259_2_b5 : List pg_R := [(291, .iload_n 3, 292, 0), (292, .iadd, 293, 0), (293, .iload 5, 295, 0), (295, .aload_n 0, 296, 0), (296, .getfield 172, 299, 0), (299, .iload_n 3, 300, 0), (300, .iaload, 301, 0), (301, .isub, 302, 0)]
def pgb_259_2_b6 : List pg_R := [(302, .iastore, 303, 0), (303, .iconst 1, 304, 0), (304, .istore_n 2, 305, 0), (305, .iinc 3 1, 308, 0), (308, .goto (-254), 311, 54), (311, .goto (-280), 314, 31), (314, .return_, 315, 0)]
def pgB_259_2 : pg_Bk := [(224, pgb_259_2_b0), (240, pgb_259_2_b1), (255, pgb_259_2_b2), (275, pgb_259_2_b3), (291, pgb_259_2_b4), (302, pgb_259_2_b5), (315, pgb_259_2_b6)]
set_option maxRecDepth 20000 in
theorem pgc_259_2 : pgB_259_2.all (fun q => q.2.all (pg_ok (pg_cc 259))) = true := by decide +kernel
def pgB_259 : pg_Bk := pgB_259_0 ++ (pgB_259_1 ++ (pgB_259_2))
theorem pgc_259 : pgB_259.all (fun q => q.2.all (pg_ok (pg_cc 259))) = true := pg_all2 pgc_259_0 (pg_all2 pgc_259_1 (pgc_259_2))
/-- MarkovDeskModel.begin(I)V -/
def pgb_260_0_b0 : List pg_R := [(0, .iconst 1, 1, 0), (1, .istore_n 2, 2, 0), (2, .iconst 0, 3, 0), (3, .istore_n 3, 4, 0), (4, .iload_n 3, 5, 0), (5, .aload_n 0, 6, 0), (6, .getfield 555, 9, 0), (9, .if_icmp .ge 57, 12, 66)]
def pgb_260_0_b1 : List pg_R := [(12, .aload_n 0, 13, 0), (13, .getfield 333, 16, 0), (16, .iload_n 3, 17, 0), (17, .iload_n 1, 18, 0), (18, .ifCond .ne 7, 21, 25), (21, .iconst 1, 22, 0), (22, .goto 4, 25, 26), (25, .iconst 0, 26, 0)]
def pgb_260_0_b2 : List pg_R := [(26, .aload_n 0, 27, 0), (27, .getfield 193, 30, 0), (30, .iload_n 3, 31, 0), (31, .baload, 32, 0), (32, .if_icmp .ne 7, 35, 39), (35, .iconst 1, 36, 0), (36, .goto 4, 39, 40), (39, .iconst 0, 40, 0)]
def pgb_260_0_b3 : List pg_R := [(40, .bastore, 41, 0), (41, .aload_n 0, 42, 0), (42, .getfield 251, 45, 0), (45, .iload_n 1, 46, 0), (46, .bipush 24, 48, 0), (48, .imul, 49, 0), (49, .iload_n 3, 50, 0), (50, .iadd, 51, 0)]
def pgb_260_0_b4 : List pg_R := [(51, .iconst 0, 52, 0), (52, .iastore, 53, 0), (53, .aload_n 0, 54, 0), (54, .getfield 263, 57, 0), (57, .iload_n 3, 58, 0), (58, .iconst 0, 59, 0), (59, .iastore, 60, 0), (60, .iinc 3 1, 63, 0)]
def pgb_260_0_b5 : List pg_R := [(63, .goto (-59), 66, 4), (66, .iload_n 2, 67, 0), (67, .ifCond .eq 137, 70, 204), (70, .iconst 0, 71, 0), (71, .istore_n 2, 72, 0), (72, .iconst 0, 73, 0), (73, .istore_n 3, 74, 0), (74, .iload_n 3, 75, 0)]
def pgb_260_0_b6 : List pg_R := [(75, .aload_n 0, 76, 0), (76, .getfield 555, 79, 0), (79, .if_icmp .ge 122, 82, 201), (82, .aload_n 0, 83, 0), (83, .getfield 193, 86, 0), (86, .iload_n 3, 87, 0), (87, .baload, 88, 0), (88, .ifCond .ne 107, 91, 195)]
def pgb_260_0_b7 : List pg_R := [(91, .aload_n 0, 92, 0), (92, .getfield 333, 95, 0), (95, .iload_n 3, 96, 0), (96, .baload, 97, 0)]
def pgB_260_0 : pg_Bk := [(12, pgb_260_0_b0), (26, pgb_260_0_b1), (40, pgb_260_0_b2), (51, pgb_260_0_b3), (63, pgb_260_0_b4), (75, pgb_260_0_b5), (91, pgb_260_0_b6), (97, pgb_260_0_b7)]
set_option maxRecDepth 20000 in
theorem pgc_260_0 : pgB_260_0.all (fun q => q.2.all (pg_ok (pg_cc 260))) = true := by decide +kernel
/-- MarkovDeskModel.begin(I)V -/
def pgb_260_1_b0 : List pg_R := [(97, .iload_n 1, 98, 0), (98, .ifCond .ne 7, 101, 105), (101, .iconst 1, 102, 0), (102, .goto 4, 105, 106), (105, .iconst 0, 106, 0), (106, .if_icmp .ne 6, 109, 112), (109, .goto 86, 112, 195), (112, .iconst 0, 113, 0)]
def pgb_260_1_b1 : List pg_R := [(113, .istore 4, 115, 0), (115, .aload_n 0, 116, 0), (116, .getfield 172, 119, 0), (119, .iload_n 3, 120, 0), (120, .iaload, 121, 0), (121, .istore 5, 123, 0), (123, .iload 5, 125, 0), (125, .aload_n 0, 126, 0)]
def pgb_260_1_b2 : List pg_R := [(126, .iload_n 3, 127, 0), (127, .invokevirtual 628, 130, 0), (130, .if_icmp .ge 34, 133, 164), (133, .iload 4, 135, 0), (135, .aload_n 0, 136, 0), (136, .iload 5, 138, 0), (138, .aload_n 0, 139, 0), (139, .getfield 333, 142, 0)]
def pgb_260_1_b3 : List pg_R := [(142, .iload_n 1, 143, 0), (143, .iconst 1, 144, 0), (144, .if_icmp .ne 7, 147, 151), (147, .iconst 1, 148, 0), (148, .goto 4, 151, 152), (151, .iconst 0, 152, 0), (152, .invokevirtual 631, 155, 0), (155, .ior, 156, 0)]
def pgb_260_1_b4 : List pg_R := [(156, .istore 4, 158, 0), (158, .iinc 5 1, 161, 0), (161, .goto (-38), 164, 123), (164, .iload 4, 166, 0), (166, .iload_n 1, 167, 0), (167, .ifCond .ne 7, 170, 174), (170, .iconst 1, 171, 0), (171, .goto 4, 174, 175)]
def pgb_260_1_b5 : List pg_R := [(174, .iconst 0, 175, 0), (175, .if_icmp .ne 20, 178, 195), (178, .aload_n 0, 179, 0), (179, .getfield 333, 182, 0), (182, .iload_n 3, 183, 0), (183, .iload_n 1, 184, 0), (184, .ifCond .ne 7, 187, 191), (187, .iconst 1, 188, 0)]
def pgb_260_1_b6 : List pg_R := [(188, .goto 4, 191, 192), (191, .iconst 0, 192, 0), (192, .bastore, 193, 0), (193, .iconst 1, 194, 0), (194, .istore_n 2, 195, 0), (195, .iinc 3 1, 198, 0), (198, .goto (-124), 201, 74), (201, .goto (-135), 204, 66)]
def pgb_260_1_b7 : List pg_R := [(204, .iconst 0, 205, 0), (205, .istore_n 3, 206, 0), (206, .iload_n 3, 207, 0), (207, .aload_n 0, 208, 0)]
def pgB_260_1 : pg_Bk := [(113, pgb_260_1_b0), (126, pgb_260_1_b1), (142, pgb_260_1_b2), (156, pgb_260_1_b3), (174, pgb_260_1_b4), (188, pgb_260_1_b5), (204, pgb_260_1_b6), (208, pgb_260_1_b7)]
set_option maxRecDepth 20000 in
theorem pgc_260_1 : pgB_260_1.all (fun q => q.2.all (pg_ok (pg_cc 260))) = true := by decide +kernel
/-- MarkovDeskModel.begin(I)V -/
def pgb_260_2_b0 : List pg_R := [(208, .getfield 555, 211, 0), (211, .if_icmp .ge 53, 214, 264), (214, .aload_n 0, 215, 0), (215, .getfield 248, 218, 0), (218, .iload_n 1, 219, 0), (219, .bipush 24, 221, 0), (221, .imul, 222, 0), (222, .iload_n 3, 223, 0)]
def pgb_260_2_b1 : List pg_R := [(223, .iadd, 224, 0), (224, .aload_n 0, 225, 0), (225, .getfield 193, 228, 0), (228, .iload_n 3, 229, 0), (229, .baload, 230, 0), (230, .ifCond .ne 26, 233, 256), (233, .aload_n 0, 234, 0), (234, .getfield 333, 237, 0)]
def pgb_260_2_b2 : List pg_R := [(237, .iload_n 3, 238, 0), (238, .baload, 239, 0), (239, .iload_n 1, 240, 0), (240, .iconst 1, 241, 0), (241, .if_icmp .ne 7, 244, 248), (244, .iconst 1, 245, 0), (245, .goto 4, 248, 249), (248, .iconst 0, 249, 0)]
def pgb_260_2_b3 : List pg_R := [(249, .if_icmp .ne 7, 252, 256), (252, .iconst 1, 253, 0), (253, .goto 4, 256, 257), (256, .iconst 0, 257, 0), (257, .bastore, 258, 0), (258, .iinc 3 1, 261, 0), (261, .goto (-55), 264, 206), (264, .iload_n 1, 265, 0)]
def pgb_260_2_b4 : List pg_R := [(265, .iconst 1, 266, 0), (266, .if_icmp .ne 81, 269, 347), (269, .iconst 0, 270, 0), (270, .istore_n 3, 271, 0), (271, .iload_n 3, 272, 0), (272, .aload_n 0, 273, 0), (273, .getfield 555, 276, 0), (276, .if_icmp .ge 70, 279, 346)]
def pgb_260_2_b5 : List pg_R := [(279, .aload_n 0, 280, 0), (280, .getfield 248, 283, 0), (283, .bipush 24, 285, 0), (285, .iload_n 3, 286, 0), (286, .iadd, 287, 0), (287, .baload, 288, 0), (288, .ifCond .ne 6, 291, 294), (291, .goto 49, 294, 340)]
def pgb_260_2_b6 : List pg_R := [(294, .aload_n 0, 295, 0), (295, .getfield 172, 298, 0), (298, .iload_n 3, 299, 0), (299, .iaload, 300, 0), (300, .istore 4, 302, 0), (302, .aload_n 0, 303, 0), (303, .iload 4, 305, 0), (305, .aload_n 0, 306, 0)]
def pgb_260_2_b7 : List pg_R := [(306, .getfield 333, 309, 0), (309, .iconst 1, 310, 0), (310, .invokevirtual 631, 313, 0), (313, .ifCond .ne 9, 316, 322)]
def pgB_260_2 : pg_Bk := [(223, pgb_260_2_b0), (237, pgb_260_2_b1), (249, pgb_260_2_b2), (265, pgb_260_2_b3), (279, pgb_260_2_b4), (294, pgb_260_2_b5), (306, pgb_260_2_b6), (314, pgb_260_2_b7)]
set_option maxRecDepth 20000 in
theorem pgc_260_2 : pgB_260_2.all (fun q => q.2.all (pg_ok (pg_cc 260))) = true := by decide +kernel
/-- MarkovDeskModel.begin(I)V -/
def pgb_260_3_b0 : List pg_R := [(316, .iinc 4 1, 319, 0), (319, .goto (-17), 322, 302), (322, .aload_n 0, 323, 0), (323, .getfield 251, 326, 0), (326, .bipush 24, 328, 0), (328, .iload_n 3, 329, 0), (329, .iadd, 330, 0), (330, .iload 4, 332, 0)]
def pgb_260_3_b1 : List pg_R := [(332, .aload_n 0, 333, 0), (333, .getfield 172, 336, 0), (336, .iload_n 3, 337, 0), (337, .iaload, 338, 0), (338, .isub, 339, 0), (339, .iastore, 340, 0), (340, .iinc 3 1, 343, 0), (343, .goto (-72), 346, 271)]
def pgb_260_3_b2 : List pg_R := [(346, .return_, 347, 0), (347, .iconst 1, 348, 0), (348, .istore_n 2, 349, 0), (349, .iconst 1, 350, 0), (350, .istore_n 3, 351, 0), (351, .iload_n 2, 352, 0), (352, .ifCond .eq 197, 355, 549), (355, .iconst 0, 356, 0)]
def pgb_260_3_b3 : List pg_R := [(356, .istore_n 2, 357, 0), (357, .iconst 0, 358, 0), (358, .istore 4, 360, 0), (360, .iload 4, 362, 0), (362, .aload_n 0, 363, 0), (363, .getfield 555, 366, 0), (366, .if_icmp .ge 177, 369, 543), (369, .aload_n 0, 370, 0)]
def pgb_260_3_b4 : List pg_R := [(370, .getfield 263, 373, 0), (373, .iload 4, 375, 0), (375, .iaload, 376, 0), (376, .ifCond .gt 161, 379, 537), (379, .aload_n 0, 380, 0), (380, .getfield 193, 383, 0), (383, .iload 4, 385, 0), (385, .baload, 386, 0)]
def pgb_260_3_b5 : List pg_R := [(386, .ifCond .eq 6, 389, 392), (389, .goto 148, 392, 537), (392, .aload_n 0, 393, 0), (393, .getfield 172, 396, 0), (396, .iload 4, 398, 0), (398, .iaload, 399, 0), (399, .istore 5, 401, 0), (401, .iload 5, 403, 0)]
def pgb_260_3_b6 : List pg_R := [(403, .aload_n 0, 404, 0), (404, .iload 4, 406, 0), (406, .invokevirtual 628, 409, 0), (409, .if_icmp .ge 128, 412, 537), (412, .aload_n 0, 413, 0), (413, .getfield 263, 416, 0), (416, .iload 4, 418, 0), (418, .iaload, 419, 0)]
def pgb_260_3_b7 : List pg_R := [(419, .ifCond .ne 118, 422, 537), (422, .aload_n 0, 423, 0), (423, .getfield 175, 426, 0), (426, .iload 5, 428, 0)]
def pgB_260_3 : pg_Bk := [(332, pgb_260_3_b0), (346, pgb_260_3_b1), (356, pgb_260_3_b2), (370, pgb_260_3_b3), (386, pgb_260_3_b4), (403, pgb_260_3_b5), (419, pgb_260_3_b6), (427, pgb_260_3_b7)]
set_option maxRecDepth 20000 in
theorem pgc_260_3 : pgB_260_3.all (fun q => q.2.all (pg_ok (pg_cc 260))) = true := by decide +kernel
/-- MarkovDeskModel.begin(I)V -/
def pgb_260_4_b0 : List pg_R := [(428, .iaload, 429, 0), (429, .istore 6, 431, 0), (431, .iload 6, 433, 0), (433, .aload_n 0, 434, 0), (434, .getfield 175, 437, 0), (437, .iload 5, 439, 0), (439, .iconst 1, 440, 0), (440, .iadd, 441, 0)]
def pgb_260_4_b1 : List pg_R := [(441, .iaload, 442, 0), (442, .if_icmp .ge 89, 445, 531), (445, .aload_n 0, 446, 0), (446, .getfield 178, 449, 0), (449, .iload 6, 451, 0), (451, .iaload, 452, 0), (452, .istore 7, 454, 0), (454, .aload_n 0, 455, 0)]
def pgb_260_4_b2 : List pg_R := [(455, .getfield 263, 458, 0), (458, .iload 4, 460, 0), (460, .iaload, 461, 0), (461, .ifCond .gt 64, 464, 525), (464, .aload_n 0, 465, 0), (465, .getfield 193, 468, 0), (468, .iload 7, 470, 0), (470, .baload, 471, 0)]
def pgb_260_4_b3 : List pg_R := [(471, .ifCond .ne 27, 474, 498), (474, .aload_n 0, 475, 0), (475, .getfield 263, 478, 0), (478, .iload 7, 480, 0), (480, .iaload, 481, 0), (481, .ifCond .eq 44, 484, 525), (484, .aload_n 0, 485, 0), (485, .getfield 263, 488, 0)]
def pgb_260_4_b4 : List pg_R := [(488, .iload 7, 490, 0), (490, .iaload, 491, 0), (491, .iload_n 3, 492, 0), (492, .if_icmp .lt 6, 495, 498), (495, .goto 30, 498, 525), (498, .aload_n 0, 499, 0), (499, .getfield 263, 502, 0), (502, .iload 4, 504, 0)]
def pgb_260_4_b5 : List pg_R := [(504, .iload_n 3, 505, 0), (505, .iastore, 506, 0), (506, .aload_n 0, 507, 0), (507, .getfield 251, 510, 0), (510, .iload 4, 512, 0), (512, .iload 5, 514, 0), (514, .aload_n 0, 515, 0), (515, .getfield 172, 518, 0)]
def pgb_260_4_b6 : List pg_R := [(518, .iload 4, 520, 0), (520, .iaload, 521, 0), (521, .isub, 522, 0), (522, .iastore, 523, 0), (523, .iconst 1, 524, 0), (524, .istore_n 2, 525, 0), (525, .iinc 6 1, 528, 0), (528, .goto (-97), 531, 431)]
def pgb_260_4_b7 : List pg_R := [(531, .iinc 5 1, 534, 0), (534, .goto (-133), 537, 401), (537, .iinc 4 1, 540, 0), (540, .goto (-180), 543, 360)]
def pgB_260_4 : pg_Bk := [(441, pgb_260_4_b0), (455, pgb_260_4_b1), (471, pgb_260_4_b2), (488, pgb_260_4_b3), (504, pgb_260_4_b4), (518, pgb_260_4_b5), (531, pgb_260_4_b6), (541, pgb_260_4_b7)]
set_option maxRecDepth 20000 in
theorem pgc_260_4 : pgB_260_4.all (fun q => q.2.all (pg_ok (pg_cc 260))) = true := by decide +kernel
/-- MarkovDeskModel.begin(I)V -/
def pgb_260_5_b0 : List pg_R := [(543, .iinc 3 1, 546, 0), (546, .goto (-195), 549, 351), (549, .return_, 550, 0)]
def pgB_260_5 : pg_Bk := [(550, pgb_260_5_b0)]
set_option maxRecDepth 20000 in
theorem pgc_260_5 : pgB_260_5.all (fun q => q.2.all (pg_ok (pg_cc 260))) = true := by decide +kernel
def pgB_260 : pg_Bk := pgB_260_0 ++ (pgB_260_1 ++ (pgB_260_2 ++ (pgB_260_3 ++ (pgB_260_4 ++ (pgB_260_5)))))
theorem pgc_260 : pgB_260.all (fun q => q.2.all (pg_ok (pg_cc 260))) = true := pg_all2 pgc_260_0 (pg_all2 pgc_260_1 (pg_all2 pgc_260_2 (pg_all2 pgc_260_3 (pg_all2 pgc_260_4 (pgc_260_5)))))
/-- MarkovDeskModel.lastChoice(I)I -/
def pgb_261_b0 : List pg_R := [(0, .aload_n 0, 1, 0), (1, .getfield 172, 4, 0), (4, .iload_n 1, 5, 0), (5, .iconst 1, 6, 0), (6, .iadd, 7, 0), (7, .iaload, 8, 0), (8, .ireturn, 9, 0)]
def pgB_261 : pg_Bk := [(9, pgb_261_b0)]
set_option maxRecDepth 20000 in
theorem pgc_261 : pgB_261.all (fun q => q.2.all (pg_ok (pg_cc 261))) = true := by decide +kernel
/-- MarkovDeskModel.goes(I[ZZ)Z -/
def pgb_262_b0 : List pg_R := [(0, .aload_n 0, 1, 0), (1, .getfield 175, 4, 0), (4, .iload_n 1, 5, 0), (5, .iaload, 6, 0), (6, .istore 4, 8, 0), (8, .iload 4, 10, 0), (10, .aload_n 0, 11, 0), (11, .getfield 175, 14, 0)]
def pgb_262_b1 : List pg_R := [(14, .iload_n 1, 15, 0), (15, .iconst 1, 16, 0), (16, .iadd, 17, 0), (17, .iaload, 18, 0), (18, .if_icmp .ge 32, 21, 50), (21, .aload_n 2, 22, 0), (22, .aload_n 0, 23, 0), (23, .getfield 178, 26, 0)]
def pgb_262_b2 : List pg_R := [(26, .iload 4, 28, 0), (28, .iaload, 29, 0), (29, .baload, 30, 0), (30, .iload_n 3, 31, 0), (31, .if_icmp .eq 13, 34, 44), (34, .iload_n 3, 35, 0), (35, .ifCond .ne 7, 38, 42), (38, .iconst 1, 39, 0)]
def pgb_262_b3 : List pg_R := [(39, .goto 4, 42, 43), (42, .iconst 0, 43, 0), (43, .ireturn, 44, 0), (44, .iinc 4 1, 47, 0), (47, .goto (-39), 50, 8), (50, .iload_n 3, 51, 0), (51, .ireturn, 52, 0)]
def pgB_262 : pg_Bk := [(14, pgb_262_b0), (26, pgb_262_b1), (39, pgb_262_b2), (52, pgb_262_b3)]
set_option maxRecDepth 20000 in
theorem pgc_262 : pgB_262.all (fun q => q.2.all (pg_ok (pg_cc 262))) = true := by decide +kernel
/-- MarkovDeskModel.values(I)V -/
def pgb_263_0_b0 : List pg_R := [(0, .iconst 0, 1, 0), (1, .istore_n 2, 2, 0), (2, .iconst 0, 3, 0), (3, .istore_n 3, 4, 0), (4, .iload_n 3, 5, 0), (5, .aload_n 0, 6, 0), (6, .getfield 555, 9, 0), (9, .if_icmp .ge 59, 12, 68)]
def pgb_263_0_b1 : List pg_R := [(12, .aload_n 0, 13, 0), (13, .getfield 193, 16, 0), (16, .iload_n 3, 17, 0), (17, .baload, 18, 0), (18, .ifCond .ne 37, 21, 55), (21, .aload_n 0, 22, 0), (22, .getfield 248, 25, 0), (25, .iload_n 1, 26, 0)]
def pgb_263_0_b2 : List pg_R := [(26, .bipush 24, 28, 0), (28, .imul, 29, 0), (29, .iload_n 3, 30, 0), (30, .iadd, 31, 0), (31, .baload, 32, 0), (32, .ifCond .ne 23, 35, 55), (35, .aload_n 0, 36, 0), (36, .getfield 260, 39, 0)]
def pgb_263_0_b3 : List pg_R := [(39, .iload_n 3, 40, 0), (40, .iload_n 2, 41, 0), (41, .iastore, 42, 0), (42, .aload_n 0, 43, 0), (43, .getfield 257, 46, 0), (46, .iload_n 2, 47, 0), (47, .iinc 2 1, 50, 0), (50, .iload_n 3, 51, 0)]
def pgb_263_0_b4 : List pg_R := [(51, .iastore, 52, 0), (52, .goto 10, 55, 62), (55, .aload_n 0, 56, 0), (56, .getfield 260, 59, 0), (59, .iload_n 3, 60, 0), (60, .iconst (-1), 61, 0), (61, .iastore, 62, 0), (62, .iinc 3 1, 65, 0)]
def pgb_263_0_b5 : List pg_R := [(65, .goto (-61), 68, 4), (68, .iconst 0, 69, 0), (69, .istore_n 3, 70, 0), (70, .iload_n 3, 71, 0), (71, .iload_n 2, 72, 0), (72, .if_icmp .ge 227, 75, 299), (75, .aload_n 0, 76, 0), (76, .getfield 257, 79, 0)]
def pgb_263_0_b6 : List pg_R := [(79, .iload_n 3, 80, 0), (80, .iaload, 81, 0), (81, .istore 4, 83, 0), (83, .aload_n 0, 84, 0), (84, .getfield 172, 87, 0), (87, .iload 4, 89, 0), (89, .iaload, 90, 0), (90, .aload_n 0, 91, 0)]
def pgb_263_0_b7 : List pg_R := [(91, .getfield 251, 94, 0), (94, .iload_n 1, 95, 0), (95, .bipush 24, 97, 0), (97, .imul, 98, 0)]
def pgB_263_0 : pg_Bk := [(12, pgb_263_0_b0), (26, pgb_263_0_b1), (39, pgb_263_0_b2), (51, pgb_263_0_b3), (65, pgb_263_0_b4), (79, pgb_263_0_b5), (91, pgb_263_0_b6), (98, pgb_263_0_b7)]
set_option maxRecDepth 20000 in
theorem pgc_263_0 : pgB_263_0.all (fun q => q.2.all (pg_ok (pg_cc 263))) = true := by decide +kernel
/-- MarkovDeskModel.values(I)V -/
def pgb_263_1_b0 : List pg_R := [(98, .iload 4, 100, 0), (100, .iadd, 101, 0), (101, .iaload, 102, 0), (102, .iadd, 103, 0), (103, .istore 5, 105, 0), (105, .aload_n 0, 106, 0), (106, .iload 5, 108, 0), (108, .invokevirtual 635, 111, 0)]
def pgb_263_1_b1 : List pg_R := [(111, .aload_n 0, 112, 0), (112, .getfield 276, 115, 0), (115, .iload_n 3, 116, 0), (116, .aaload, 117, 0), (117, .iconst 0, 118, 0), (118, .putfield 570, 121, 0), (121, .iconst 0, 122, 0), (122, .istore 6, 124, 0)]
def pgb_263_1_b2 : List pg_R := [(124, .iload 6, 126, 0), (126, .iload_n 2, 127, 0), (127, .if_icmp .ge 25, 130, 152), (130, .aload_n 0, 131, 0), (131, .getfield 273, 134, 0), (134, .bipush 24, 136, 0), (136, .iload_n 3, 137, 0), (137, .imul, 138, 0)]
def pgb_263_1_b3 : List pg_R := [(138, .iload 6, 140, 0), (140, .iadd, 141, 0), (141, .aaload, 142, 0), (142, .iconst 0, 143, 0), (143, .putfield 570, 146, 0), (146, .iinc 6 1, 149, 0), (149, .goto (-25), 152, 124), (152, .aload_n 0, 153, 0)]
def pgb_263_1_b4 : List pg_R := [(153, .getfield 175, 156, 0), (156, .iload 5, 158, 0), (158, .iaload, 159, 0), (159, .istore 6, 161, 0), (161, .iload 6, 163, 0), (163, .aload_n 0, 164, 0), (164, .getfield 175, 167, 0), (167, .iload 5, 169, 0)]
def pgb_263_1_b5 : List pg_R := [(169, .iconst 1, 170, 0), (170, .iadd, 171, 0), (171, .iaload, 172, 0), (172, .if_icmp .ge 88, 175, 260), (175, .aload_n 0, 176, 0), (176, .iload 6, 178, 0), (178, .aload_n 0, 179, 0), (179, .getfield 239, 182, 0)]
def pgb_263_1_b6 : List pg_R := [(182, .invokevirtual 638, 185, 0), (185, .aload_n 0, 186, 0), (186, .getfield 178, 189, 0), (189, .iload 6, 191, 0), (191, .iaload, 192, 0), (192, .istore 7, 194, 0), (194, .aload_n 0, 195, 0), (195, .getfield 193, 198, 0)]
def pgb_263_1_b7 : List pg_R := [(198, .iload 7, 200, 0), (200, .baload, 201, 0), (201, .ifCond .eq 19, 204, 220), (204, .aload_n 0, 205, 0)]
def pgB_263_1 : pg_Bk := [(111, pgb_263_1_b0), (124, pgb_263_1_b1), (138, pgb_263_1_b2), (153, pgb_263_1_b3), (169, pgb_263_1_b4), (182, pgb_263_1_b5), (198, pgb_263_1_b6), (205, pgb_263_1_b7)]
set_option maxRecDepth 20000 in
theorem pgc_263_1 : pgB_263_1.all (fun q => q.2.all (pg_ok (pg_cc 263))) = true := by decide +kernel
/-- MarkovDeskModel.values(I)V -/
def pgb_263_2_b0 : List pg_R := [(205, .getfield 276, 208, 0), (208, .iload_n 3, 209, 0), (209, .aaload, 210, 0), (210, .aload_n 0, 211, 0), (211, .getfield 239, 214, 0), (214, .invokevirtual 611, 217, 0), (217, .goto 37, 220, 254), (220, .aload_n 0, 221, 0)]
def pgb_263_2_b1 : List pg_R := [(221, .getfield 260, 224, 0), (224, .iload 7, 226, 0), (226, .iaload, 227, 0), (227, .ifCond .lt 27, 230, 254), (230, .aload_n 0, 231, 0), (231, .getfield 273, 234, 0), (234, .bipush 24, 236, 0), (236, .iload_n 3, 237, 0)]
def pgb_263_2_b2 : List pg_R := [(237, .imul, 238, 0), (238, .aload_n 0, 239, 0), (239, .getfield 260, 242, 0), (242, .iload 7, 244, 0), (244, .iaload, 245, 0), (245, .iadd, 246, 0), (246, .aaload, 247, 0), (247, .aload_n 0, 248, 0)]
def pgb_263_2_b3 : List pg_R := [(248, .getfield 239, 251, 0), (251, .invokevirtual 611, 254, 0), (254, .iinc 6 1, 257, 0), (257, .goto (-96), 260, 161), (260, .aload_n 0, 261, 0), (261, .getfield 279, 264, 0), (264, .iload_n 3, 265, 0), (265, .aaload, 266, 0)]
def pgb_263_2_b4 : List pg_R := [(266, .aload_n 0, 267, 0), (267, .getfield 300, 270, 0), (270, .invokevirtual 615, 273, 0), (273, .aload_n 0, 274, 0), (274, .getfield 279, 277, 0), (277, .iload_n 3, 278, 0), (278, .aaload, 279, 0), (279, .aload_n 0, 280, 0)]
def pgb_263_2_b5 : List pg_R := [(280, .getfield 273, 283, 0), (283, .bipush 24, 285, 0), (285, .iload_n 3, 286, 0), (286, .imul, 287, 0), (287, .iload_n 3, 288, 0), (288, .iadd, 289, 0), (289, .aaload, 290, 0), (290, .invokevirtual 642, 293, 0)]
def pgb_263_2_b6 : List pg_R := [(293, .iinc 3 1, 296, 0), (296, .goto (-226), 299, 70), (299, .aload_n 0, 300, 0), (300, .getfield 321, 303, 0), (303, .invokevirtual 573, 306, 0), (306, .iconst 0, 307, 0), (307, .istore_n 3, 308, 0), (308, .iload_n 3, 309, 0)]
def pgb_263_2_b7 : List pg_R := [(309, .iload_n 2, 310, 0), (310, .if_icmp .ge 175, 313, 485), (313, .iconst 0, 314, 0), (314, .istore 4, 316, 0)]
def pgB_263_2 : pg_Bk := [(221, pgb_263_2_b0), (237, pgb_263_2_b1), (248, pgb_263_2_b2), (266, pgb_263_2_b3), (280, pgb_263_2_b4), (293, pgb_263_2_b5), (309, pgb_263_2_b6), (315, pgb_263_2_b7)]
set_option maxRecDepth 20000 in
theorem pgc_263_2 : pgB_263_2.all (fun q => q.2.all (pg_ok (pg_cc 263))) = true := by decide +kernel
/-- MarkovDeskModel.values(I)V -/
def pgb_263_3_b0 : List pg_R := [(316, .iload 4, 318, 0), (318, .iload_n 2, 319, 0), (319, .if_icmp .ge 147, 322, 466), (322, .iload 4, 324, 0), (324, .iload_n 3, 325, 0), (325, .if_icmp .ne 6, 328, 331), (328, .goto 132, 331, 460), (331, .aload_n 0, 332, 0)]
def pgb_263_3_b1 : List pg_R := [(332, .getfield 273, 335, 0), (335, .bipush 24, 337, 0), (337, .iload 4, 339, 0), (339, .imul, 340, 0), (340, .iload_n 3, 341, 0), (341, .iadd, 342, 0), (342, .aaload, 343, 0), (343, .astore 5, 345, 0)]
def pgb_263_3_b2 : List pg_R := [(345, .aload_n 0, 346, 0), (346, .aload_n 0, 347, 0), (347, .getfield 276, 350, 0), (350, .iload 4, 352, 0), (352, .aaload, 353, 0), (353, .aload_n 0, 354, 0), (354, .getfield 276, 357, 0), (357, .iload_n 3, 358, 0)]
def pgb_263_3_b3 : List pg_R := [(358, .aaload, 359, 0), (359, .aload 5, 361, 0), (361, .iload_n 3, 362, 0), (362, .iconst 0, 363, 0), (363, .invokevirtual 645, 366, 0), (366, .aload_n 0, 367, 0), (367, .aload_n 0, 368, 0), (368, .getfield 279, 371, 0)]
def pgb_263_3_b4 : List pg_R := [(371, .iload 4, 373, 0), (373, .aaload, 374, 0), (374, .aload_n 0, 375, 0), (375, .getfield 273, 378, 0), (378, .bipush 24, 380, 0), (380, .iload_n 3, 381, 0), (381, .imul, 382, 0), (382, .iload 4, 384, 0)]
def pgb_263_3_b5 : List pg_R := [(384, .iadd, 385, 0), (385, .aaload, 386, 0), (386, .aload 5, 388, 0), (388, .iload_n 3, 389, 0), (389, .iconst 1, 390, 0), (390, .invokevirtual 645, 393, 0), (393, .iconst 0, 394, 0), (394, .istore 6, 396, 0)]
def pgb_263_3_b6 : List pg_R := [(396, .iload 6, 398, 0), (398, .iload_n 2, 399, 0), (399, .if_icmp .ge 55, 402, 454), (402, .iload 6, 404, 0), (404, .iload_n 3, 405, 0), (405, .if_icmp .eq 43, 408, 448), (408, .iload 6, 410, 0), (410, .iload 4, 412, 0)]
def pgb_263_3_b7 : List pg_R := [(412, .if_icmp .eq 36, 415, 448), (415, .aload_n 0, 416, 0), (416, .aload_n 0, 417, 0), (417, .getfield 273, 420, 0)]
def pgB_263_3 : pg_Bk := [(332, pgb_263_3_b0), (345, pgb_263_3_b1), (358, pgb_263_3_b2), (371, pgb_263_3_b3), (384, pgb_263_3_b4), (396, pgb_263_3_b5), (412, pgb_263_3_b6), (418, pgb_263_3_b7)]
set_option maxRecDepth 20000 in
theorem pgc_263_3 : pgB_263_3.all (fun q => q.2.all (pg_ok (pg_cc 263))) = true := by decide +kernel
/-- MarkovDeskModel.values(I)V -/
def pgb_263_4_b0 : List pg_R := [(420, .bipush 24, 422, 0), (422, .iload 4, 424, 0), (424, .imul, 425, 0), (425, .iload 6, 427, 0), (427, .iadd, 428, 0), (428, .aaload, 429, 0), (429, .aload_n 0, 430, 0), (430, .getfield 273, 433, 0)]
def pgb_263_4_b1 : List pg_R := [(433, .bipush 24, 435, 0), (435, .iload_n 3, 436, 0), (436, .imul, 437, 0), (437, .iload 6, 439, 0), (439, .iadd, 440, 0), (440, .aaload, 441, 0), (441, .aload 5, 443, 0), (443, .iload_n 3, 444, 0)]
def pgb_263_4_b2 : List pg_R := [(444, .iconst 0, 445, 0), (445, .invokevirtual 645, 448, 0), (448, .iinc 6 1, 451, 0), (451, .goto (-55), 454, 396), (454, .aload 5, 456, 0), (456, .iconst 0, 457, 0), (457, .putfield 570, 460, 0), (460, .iinc 4 1, 463, 0)]
def pgb_263_4_b3 : List pg_R := [(463, .goto (-147), 466, 316), (466, .aload_n 0, 467, 0), (467, .getfield 321, 470, 0), (470, .aload_n 0, 471, 0), (471, .getfield 279, 474, 0), (474, .iload_n 3, 475, 0), (475, .aaload, 476, 0), (476, .invokevirtual 615, 479, 0)]
def pgb_263_4_b4 : List pg_R := [(479, .iinc 3 1, 482, 0), (482, .goto (-174), 485, 308), (485, .aload_n 0, 486, 0), (486, .getfield 270, 489, 0), (489, .iload_n 1, 490, 0), (490, .aaload, 491, 0), (491, .aload_n 0, 492, 0), (492, .getfield 321, 495, 0)]
def pgb_263_4_b5 : List pg_R := [(495, .invokevirtual 615, 498, 0), (498, .iconst 0, 499, 0), (499, .istore_n 3, 500, 0), (500, .iload_n 3, 501, 0), (501, .aload_n 0, 502, 0), (502, .getfield 555, 505, 0), (505, .if_icmp .ge 77, 508, 582), (508, .aload_n 0, 509, 0)]
def pgb_263_4_b6 : List pg_R := [(509, .getfield 266, 512, 0), (512, .iload_n 1, 513, 0), (513, .bipush 24, 515, 0), (515, .imul, 516, 0), (516, .iload_n 3, 517, 0), (517, .iadd, 518, 0), (518, .aaload, 519, 0), (519, .astore 4, 521, 0)]
def pgb_263_4_b7 : List pg_R := [(521, .aload_n 0, 522, 0), (522, .getfield 193, 525, 0), (525, .iload_n 3, 526, 0), (526, .baload, 527, 0)]
def pgB_263_4 : pg_Bk := [(433, pgb_263_4_b0), (444, pgb_263_4_b1), (463, pgb_263_4_b2), (479, pgb_263_4_b3), (495, pgb_263_4_b4), (509, pgb_263_4_b5), (521, pgb_263_4_b6), (527, pgb_263_4_b7)]
set_option maxRecDepth 20000 in
theorem pgc_263_4 : pgB_263_4.all (fun q => q.2.all (pg_ok (pg_cc 263))) = true := by decide +kernel
/-- MarkovDeskModel.values(I)V -/
def pgb_263_5_b0 : List pg_R := [(527, .ifCond .eq 15, 530, 542), (530, .aload 4, 532, 0), (532, .aload_n 0, 533, 0), (533, .getfield 321, 536, 0), (536, .invokevirtual 615, 539, 0), (539, .goto 37, 542, 576), (542, .aload_n 0, 543, 0), (543, .getfield 260, 546, 0)]
def pgb_263_5_b1 : List pg_R := [(546, .iload_n 3, 547, 0), (547, .iaload, 548, 0), (548, .ifCond .ge 12, 551, 560), (551, .aload 4, 553, 0), (553, .iconst 0, 554, 0), (554, .putfield 570, 557, 0), (557, .goto 19, 560, 576), (560, .aload 4, 562, 0)]
def pgb_263_5_b2 : List pg_R := [(562, .aload_n 0, 563, 0), (563, .getfield 276, 566, 0), (566, .aload_n 0, 567, 0), (567, .getfield 260, 570, 0), (570, .iload_n 3, 571, 0), (571, .iaload, 572, 0), (572, .aaload, 573, 0), (573, .invokevirtual 615, 576, 0)]
def pgb_263_5_b3 : List pg_R := [(576, .iinc 3 1, 579, 0), (579, .goto (-79), 582, 500), (582, .return_, 583, 0)]
def pgB_263_5 : pg_Bk := [(546, pgb_263_5_b0), (562, pgb_263_5_b1), (576, pgb_263_5_b2), (583, pgb_263_5_b3)]
set_option maxRecDepth 20000 in
theorem pgc_263_5 : pgB_263_5.all (fun q => q.2.all (pg_ok (pg_cc 263))) = true := by decide +kernel
def pgB_263 : pg_Bk := pgB_263_0 ++ (pgB_263_1 ++ (pgB_263_2 ++ (pgB_263_3 ++ (pgB_263_4 ++ (pgB_263_5)))))
theorem pgc_263 : pgB_263.all (fun q => q.2.all (pg_ok (pg_cc 263))) = true := pg_all2 pgc_263_0 (pg_all2 pgc_263_1 (pg_all2 pgc_263_2 (pg_all2 pgc_263_3 (pg_all2 pgc_263_4 (pgc_263_5)))))
