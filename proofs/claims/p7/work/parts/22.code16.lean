/-- MarkovDeskModel.outcome(III)I -/
def pgb_276_0_b0 : List pg_R := [(0, .aload_n 0, 1, 0), (1, .iconst 0, 2, 0), (2, .putfield 339, 5, 0), (5, .aload_n 0, 6, 0), (6, .aload_n 0, 7, 0), (7, .getfield 353, 10, 0), (10, .ifCond .ne 7, 13, 17), (13, .iconst 1, 14, 0)]
def pgb_276_0_b1 : List pg_R := [(14, .goto 4, 17, 18), (17, .iconst 0, 18, 0), (18, .iconst 1, 19, 0), (19, .invokevirtual 345, 22, 0), (22, .ifCond .ne 65, 25, 87), (25, .aload_n 0, 26, 0), (26, .iload_n 1, 27, 0), (27, .iconst 0, 28, 0)]
def pgb_276_0_b2 : List pg_R := [(28, .aload_n 0, 29, 0), (29, .getfield 555, 32, 0), (32, .iconst 1, 33, 0), (33, .isub, 34, 0), (34, .invokestatic 359, 37, 0), (37, .ifCond .ne 7, 40, 44), (40, .iconst 1, 41, 0), (41, .goto 4, 44, 45)]
def pgb_276_0_b3 : List pg_R := [(44, .iconst 0, 45, 0), (45, .iconst 2, 46, 0), (46, .invokevirtual 345, 49, 0), (49, .ifCond .ne 38, 52, 87), (52, .aload_n 0, 53, 0), (53, .iload_n 2, 54, 0), (54, .iconst 0, 55, 0), (55, .aload_n 0, 56, 0)]
def pgb_276_0_b4 : List pg_R := [(56, .iload_n 1, 57, 0), (57, .invokevirtual 628, 60, 0), (60, .aload_n 0, 61, 0), (61, .getfield 172, 64, 0), (64, .iload_n 1, 65, 0), (65, .iaload, 66, 0), (66, .isub, 67, 0), (67, .iconst 1, 68, 0)]
def pgb_276_0_b5 : List pg_R := [(68, .isub, 69, 0), (69, .invokestatic 359, 72, 0), (72, .ifCond .ne 7, 75, 79), (75, .iconst 1, 76, 0), (76, .goto 4, 79, 80), (79, .iconst 0, 80, 0), (80, .iconst 2, 81, 0), (81, .invokevirtual 345, 84, 0)]
def pgb_276_0_b6 : List pg_R := [(84, .ifCond .eq 5, 87, 89), (87, .iconst 0, 88, 0), (88, .ireturn, 89, 0), (89, .aload_n 0, 90, 0), (90, .getfield 175, 93, 0), (93, .aload_n 0, 94, 0), (94, .getfield 172, 97, 0), (97, .iload_n 1, 98, 0)]
def pgb_276_0_b7 : List pg_R := [(98, .iaload, 99, 0), (99, .iload_n 2, 100, 0), (100, .iadd, 101, 0), (101, .iaload, 102, 0)]
def pgB_276_0 : pg_Bk := [(14, pgb_276_0_b0), (28, pgb_276_0_b1), (44, pgb_276_0_b2), (56, pgb_276_0_b3), (68, pgb_276_0_b4), (84, pgb_276_0_b5), (98, pgb_276_0_b6), (102, pgb_276_0_b7)]
set_option maxRecDepth 20000 in
theorem pgc_276_0 : pgB_276_0.all (fun q => q.2.all (pg_ok (pg_cc 276))) = true := by decide +kernel
/-- MarkovDeskModel.outcome(III)I -/
def pgb_276_1_b0 : List pg_R := [(102, .iload_n 3, 103, 0), (103, .iadd, 104, 0), (104, .istore 4, 106, 0), (106, .aload_n 0, 107, 0), (107, .iload_n 3, 108, 0), (108, .ifCond .lt 28, 111, 136), (111, .iload 4, 113, 0), (113, .ifCond .lt 23, 116, 136)]
def pgb_276_1_b1 : List pg_R := [(116, .iload 4, 118, 0), (118, .aload_n 0, 119, 0), (119, .getfield 175, 122, 0), (122, .aload_n 0, 123, 0), (123, .getfield 172, 126, 0), (126, .iload_n 1, 127, 0), (127, .iaload, 128, 0), (128, .iload_n 2, 129, 0)]
def pgb_276_1_b2 : List pg_R := [(129, .iadd, 130, 0), (130, .iconst 1, 131, 0), (131, .iadd, 132, 0), (132, .iaload, 133, 0), (133, .if_icmp .lt 7, 136, 140), (136, .iconst 1, 137, 0), (137, .goto 4, 140, 141), (140, .iconst 0, 141, 0)]
def pgb_276_1_b3 : List pg_R := [(141, .iconst 2, 142, 0), (142, .invokevirtual 345, 145, 0), (145, .ifCond .eq 5, 148, 150), (148, .iconst 0, 149, 0), (149, .ireturn, 150, 0), (150, .aload_n 0, 151, 0), (151, .getfield 324, 154, 0), (154, .aload_n 0, 155, 0)]
def pgb_276_1_b4 : List pg_R := [(155, .getfield 200, 158, 0), (158, .iload 4, 160, 0), (160, .bipush 20, 162, 0), (162, .imul, 163, 0), (163, .bipush 20, 165, 0), (165, .invokevirtual 604, 168, 0), (168, .aload_n 0, 169, 0), (169, .getfield 327, 172, 0)]
def pgb_276_1_b5 : List pg_R := [(172, .aload_n 0, 173, 0), (173, .getfield 203, 176, 0), (176, .iload 4, 178, 0), (178, .bipush 20, 180, 0), (180, .imul, 181, 0), (181, .bipush 20, 183, 0), (183, .invokevirtual 604, 186, 0), (186, .aload_n 0, 187, 0)]
def pgb_276_1_b6 : List pg_R := [(187, .getfield 178, 190, 0), (190, .iload 4, 192, 0), (192, .iaload, 193, 0), (193, .ireturn, 194, 0)]
def pgB_276_1 : pg_Bk := [(116, pgb_276_1_b0), (129, pgb_276_1_b1), (141, pgb_276_1_b2), (155, pgb_276_1_b3), (172, pgb_276_1_b4), (187, pgb_276_1_b5), (194, pgb_276_1_b6)]
set_option maxRecDepth 20000 in
theorem pgc_276_1 : pgB_276_1.all (fun q => q.2.all (pg_ok (pg_cc 276))) = true := by decide +kernel
def pgB_276 : pg_Bk := pgB_276_0 ++ (pgB_276_1)
theorem pgc_276 : pgB_276.all (fun q => q.2.all (pg_ok (pg_cc 276))) = true := pg_all2 pgc_276_0 (pgc_276_1)
/-- MarkovDeskModel.bits(Z)I -/
def pgb_277_b0 : List pg_R := [(0, .aload_n 0, 1, 0), (1, .iconst 0, 2, 0), (2, .putfield 339, 5, 0), (5, .iload_n 1, 6, 0), (6, .ifCond .eq 10, 9, 16), (9, .aload_n 0, 10, 0), (10, .getfield 327, 13, 0), (13, .goto 7, 16, 20)]
def pgb_277_b1 : List pg_R := [(16, .aload_n 0, 17, 0), (17, .getfield 324, 20, 0), (20, .invokevirtual 663, 23, 0), (23, .ireturn, 24, 0)]
def pgB_277 : pg_Bk := [(16, pgb_277_b0), (24, pgb_277_b1)]
set_option maxRecDepth 20000 in
theorem pgc_277 : pgB_277.all (fun q => q.2.all (pg_ok (pg_cc 277))) = true := by decide +kernel
/-- MarkovDeskModel.part(ZI)I -/
def pgb_278_b0 : List pg_R := [(0, .aload_n 0, 1, 0), (1, .iconst 0, 2, 0), (2, .putfield 339, 5, 0), (5, .aload_n 0, 6, 0), (6, .iload_n 2, 7, 0), (7, .ifCond .ge 7, 10, 14), (10, .iconst 1, 11, 0), (11, .goto 4, 14, 15)]
def pgb_278_b1 : List pg_R := [(14, .iconst 0, 15, 0), (15, .iconst 1, 16, 0), (16, .invokevirtual 345, 19, 0), (19, .ifCond .eq 5, 22, 24), (22, .iconst 0, 23, 0), (23, .ireturn, 24, 0), (24, .iload_n 1, 25, 0), (25, .ifCond .eq 10, 28, 35)]
def pgb_278_b2 : List pg_R := [(28, .aload_n 0, 29, 0), (29, .getfield 327, 32, 0), (32, .goto 7, 35, 39), (35, .aload_n 0, 36, 0), (36, .getfield 324, 39, 0), (39, .astore_n 3, 40, 0), (40, .iconst 0, 41, 0), (41, .istore 4, 43, 0)]
def pgb_278_b3 : List pg_R := [(43, .bipush 30, 45, 0), (45, .istore 5, 47, 0), (47, .iload 5, 49, 0), (49, .ifCond .lt 30, 52, 79), (52, .iload 4, 54, 0), (54, .iconst 1, 55, 0), (55, .ishl, 56, 0), (56, .aload_n 3, 57, 0)]
def pgb_278_b4 : List pg_R := [(57, .ldc2_w 666, 60, 0), (60, .iload_n 2, 61, 0), (61, .i2l, 62, 0), (62, .lmul, 63, 0), (63, .iload 5, 65, 0), (65, .i2l, 66, 0), (66, .ladd, 67, 0), (67, .invokevirtual 668, 70, 0)]
def pgb_278_b5 : List pg_R := [(70, .ior, 71, 0), (71, .istore 4, 73, 0), (73, .iinc 5 (-1), 76, 0), (76, .goto (-29), 79, 47), (79, .iload 4, 81, 0), (81, .ireturn, 82, 0)]
def pgB_278 : pg_Bk := [(14, pgb_278_b0), (28, pgb_278_b1), (43, pgb_278_b2), (57, pgb_278_b3), (70, pgb_278_b4), (82, pgb_278_b5)]
set_option maxRecDepth 20000 in
theorem pgc_278 : pgB_278.all (fun q => q.2.all (pg_ok (pg_cc 278))) = true := by decide +kernel
/-- MarkovDeskModel$Whole.bit(J)I -/
def pgb_279_b0 : List pg_R := [(0, .lload_n 1, 1, 0), (1, .ldc2_w 27, 4, 0), (4, .aload_n 0, 5, 0), (5, .getfield 13, 8, 0), (8, .i2l, 9, 0), (9, .lmul, 10, 0), (10, .lcmp, 11, 0), (11, .ifCond .lt 7, 14, 18)]
def pgb_279_b1 : List pg_R := [(14, .iconst 0, 15, 0), (15, .goto 21, 18, 36), (18, .aload_n 0, 19, 0), (19, .getfield 7, 22, 0), (22, .lload_n 1, 23, 0), (23, .iconst 4, 24, 0), (24, .lshr, 25, 0), (25, .l2i, 26, 0)]
def pgb_279_b2 : List pg_R := [(26, .iaload, 27, 0), (27, .lload_n 1, 28, 0), (28, .ldc2_w 29, 31, 0), (31, .land, 32, 0), (32, .l2i, 33, 0), (33, .ishr, 34, 0), (34, .iconst 1, 35, 0), (35, .iand, 36, 0)]
def pgb_279_b3 : List pg_R := [(36, .ireturn, 37, 0)]
def pgB_279 : pg_Bk := [(14, pgb_279_b0), (26, pgb_279_b1), (36, pgb_279_b2), (37, pgb_279_b3)]
set_option maxRecDepth 20000 in
theorem pgc_279 : pgB_279.all (fun q => q.2.all (pg_ok (pg_cc 279))) = true := by decide +kernel
/-- MarkovDeskModel.count(I)I -/
def pgb_280_0_b0 : List pg_R := [(0, .aload_n 0, 1, 0), (1, .iconst 0, 2, 0), (2, .putfield 339, 5, 0), (5, .aload_n 0, 6, 0), (6, .iload_n 1, 7, 0), (7, .iconst 0, 8, 0), (8, .bipush 7, 10, 0), (10, .invokestatic 359, 13, 0)]
def pgb_280_0_b1 : List pg_R := [(13, .ifCond .ne 7, 16, 20), (16, .iconst 1, 17, 0), (17, .goto 4, 20, 21), (20, .iconst 0, 21, 0), (21, .iconst 1, 22, 0), (22, .invokevirtual 345, 25, 0), (25, .ifCond .eq 5, 28, 30), (28, .iconst 0, 29, 0)]
def pgb_280_0_b2 : List pg_R := [(29, .ireturn, 30, 0), (30, .iload_n 1, 31, 0), (31, .iconst 4, 32, 0), (32, .if_icmp .ge 54, 35, 86), (35, .aload_n 0, 36, 0), (36, .getfield 349, 39, 0), (39, .ifCond .ne 7, 42, 46), (42, .iconst 0, 43, 0)]
def pgb_280_0_b3 : List pg_R := [(43, .goto 42, 46, 85), (46, .iload_n 1, 47, 0), (47, .ifCond .ne 10, 50, 57), (50, .aload_n 0, 51, 0), (51, .getfield 493, 54, 0), (54, .goto 31, 57, 85), (57, .iload_n 1, 58, 0), (58, .iconst 1, 59, 0)]
def pgb_280_0_b4 : List pg_R := [(59, .if_icmp .ne 10, 62, 69), (62, .aload_n 0, 63, 0), (63, .getfield 496, 66, 0), (66, .goto 19, 69, 85), (69, .iload_n 1, 70, 0), (70, .iconst 2, 71, 0), (71, .if_icmp .ne 10, 74, 81), (74, .aload_n 0, 75, 0)]
def pgb_280_0_b5 : List pg_R := [(75, .getfield 499, 78, 0), (78, .goto 7, 81, 85), (81, .aload_n 0, 82, 0), (82, .getfield 502, 85, 0), (85, .ireturn, 86, 0), (86, .aload_n 0, 87, 0), (87, .getfield 353, 90, 0), (90, .ifCond .ne 5, 93, 95)]
def pgb_280_0_b6 : List pg_R := [(93, .iconst 0, 94, 0), (94, .ireturn, 95, 0), (95, .iconst 0, 96, 0), (96, .istore_n 2, 97, 0), (97, .iconst 0, 98, 0), (98, .istore_n 3, 99, 0), (99, .iload_n 3, 100, 0), (100, .aload_n 0, 101, 0)]
def pgb_280_0_b7 : List pg_R := [(101, .getfield 555, 104, 0), (104, .if_icmp .ge 21, 107, 125), (107, .aload_n 0, 108, 0), (108, .getfield 193, 111, 0)]
def pgB_280_0 : pg_Bk := [(13, pgb_280_0_b0), (29, pgb_280_0_b1), (43, pgb_280_0_b2), (59, pgb_280_0_b3), (75, pgb_280_0_b4), (93, pgb_280_0_b5), (101, pgb_280_0_b6), (109, pgb_280_0_b7)]
set_option maxRecDepth 20000 in
theorem pgc_280_0 : pgB_280_0.all (fun q => q.2.all (pg_ok (pg_cc 280))) = true := by decide +kernel
/-- MarkovDeskModel.count(I)I -/
def pgb_280_1_b0 : List pg_R := [(111, .iload_n 3, 112, 0), (112, .baload, 113, 0), (113, .ifCond .eq 6, 116, 119), (116, .iinc 2 1, 119, 0), (119, .iinc 3 1, 122, 0), (122, .goto (-23), 125, 99), (125, .iload_n 1, 126, 0), (126, .iconst 4, 127, 0)]
def pgb_280_1_b1 : List pg_R := [(127, .if_icmp .ne 10, 130, 137), (130, .aload_n 0, 131, 0), (131, .getfield 555, 134, 0), (134, .goto 29, 137, 163), (137, .iload_n 1, 138, 0), (138, .iconst 5, 139, 0), (139, .if_icmp .ne 10, 142, 149), (142, .aload_n 0, 143, 0)]
def pgb_280_1_b2 : List pg_R := [(143, .getfield 558, 146, 0), (146, .goto 17, 149, 163), (149, .iload_n 1, 150, 0), (150, .bipush 6, 152, 0), (152, .if_icmp .ne 10, 155, 162), (155, .aload_n 0, 156, 0), (156, .getfield 561, 159, 0), (159, .goto 4, 162, 163)]
def pgb_280_1_b3 : List pg_R := [(162, .iload_n 2, 163, 0), (163, .ireturn, 164, 0)]
def pgB_280_1 : pg_Bk := [(127, pgb_280_1_b0), (143, pgb_280_1_b1), (162, pgb_280_1_b2), (164, pgb_280_1_b3)]
set_option maxRecDepth 20000 in
theorem pgc_280_1 : pgB_280_1.all (fun q => q.2.all (pg_ok (pg_cc 280))) = true := by decide +kernel
def pgB_280 : pg_Bk := pgB_280_0 ++ (pgB_280_1)
theorem pgc_280 : pgB_280.all (fun q => q.2.all (pg_ok (pg_cc 280))) = true := pg_all2 pgc_280_0 (pgc_280_1)
/-- MarkovDeskLaw.law([I)Z -/
def pgb_281_0_b0 : List pg_R := [(0, .new 8, 3, 0), (3, .dup, 4, 0), (4, .invokespecial 69, 7, 0), (7, .astore_n 1, 8, 0), (8, .new 70, 11, 0), (11, .dup, 12, 0), (12, .invokespecial 72, 15, 0), (15, .astore_n 2, 16, 0)]
def pgb_281_0_b1 : List pg_R := [(16, .iconst 1, 17, 0), (17, .newarray .long, 19, 0), (19, .astore_n 3, 20, 0), (20, .iconst 0, 21, 0), (21, .istore 4, 23, 0), (23, .iload 4, 25, 0), (25, .aload_n 0, 26, 0), (26, .arraylength, 27, 0)]
def pgb_281_0_b2 : List pg_R := [(27, .bipush 6, 29, 0), (29, .isub, 30, 0), (30, .if_icmp .gt 832, 33, 862), (33, .aload_n 0, 34, 0), (34, .iload 4, 36, 0), (36, .iaload, 37, 0), (37, .bipush 15, 39, 0), (39, .iand, 40, 0)]
def pgb_281_0_b3 : List pg_R := [(40, .tableswitch 816 0 14 #[76, 152, 180, 193, 209, 261, 341, 385, 441, 509, 622, 647, 691, 732, 788], 116, 0), (116, .aload_n 1, 117, 0), (117, .aload_n 0, 118, 0), (118, .iload 4, 120, 0), (120, .iconst 1, 121, 0), (121, .iadd, 122, 0), (122, .iaload, 123, 0), (123, .aload_n 0, 124, 0)]
def pgb_281_0_b4 : List pg_R := [(124, .iload 4, 126, 0), (126, .iconst 2, 127, 0), (127, .iadd, 128, 0), (128, .iaload, 129, 0), (129, .aload_n 0, 130, 0), (130, .iload 4, 132, 0), (132, .iconst 3, 133, 0), (133, .iadd, 134, 0)]
def pgb_281_0_b5 : List pg_R := [(134, .iaload, 135, 0), (135, .aload_n 0, 136, 0), (136, .iload 4, 138, 0), (138, .iconst 4, 139, 0), (139, .iadd, 140, 0), (140, .iaload, 141, 0), (141, .aload_n 0, 142, 0), (142, .iload 4, 144, 0)]
def pgb_281_0_b6 : List pg_R := [(144, .iconst 5, 145, 0), (145, .iadd, 146, 0), (146, .iaload, 147, 0), (147, .aload_n 3, 148, 0), (148, .invokestatic 73, 151, 0), (151, .istore 5, 153, 0), (153, .aload_n 2, 154, 0), (154, .aload_n 0, 155, 0)]
def pgb_281_0_b7 : List pg_R := [(155, .iload 4, 157, 0), (157, .iconst 1, 158, 0), (158, .iadd, 159, 0), (159, .iaload, 160, 0)]
def pgB_281_0 : pg_Bk := [(16, pgb_281_0_b0), (27, pgb_281_0_b1), (40, pgb_281_0_b2), (124, pgb_281_0_b3), (134, pgb_281_0_b4), (144, pgb_281_0_b5), (155, pgb_281_0_b6), (160, pgb_281_0_b7)]
set_option maxRecDepth 20000 in
theorem pgc_281_0 : pgB_281_0.all (fun q => q.2.all (pg_ok (pg_cc 281))) = true := by decide +kernel
/-- MarkovDeskLaw.law([I)Z -/
def pgb_281_1_b0 : List pg_R := [(160, .aload_n 0, 161, 0), (161, .iload 4, 163, 0), (163, .iconst 2, 164, 0), (164, .iadd, 165, 0), (165, .iaload, 166, 0), (166, .aload_n 0, 167, 0), (167, .iload 4, 169, 0), (169, .iconst 3, 170, 0)]
def pgb_281_1_b1 : List pg_R := [(170, .iadd, 171, 0), (171, .iaload, 172, 0), (172, .aload_n 0, 173, 0), (173, .iload 4, 175, 0), (175, .iconst 4, 176, 0), (176, .iadd, 177, 0), (177, .iaload, 178, 0), (178, .aload_n 0, 179, 0)]
def pgb_281_1_b2 : List pg_R := [(179, .iload 4, 181, 0), (181, .iconst 5, 182, 0), (182, .iadd, 183, 0), (183, .iaload, 184, 0), (184, .invokevirtual 78, 187, 0), (187, .istore 6, 189, 0), (189, .goto 667, 192, 856), (192, .aload_n 1, 193, 0)]
def pgb_281_1_b3 : List pg_R := [(193, .aload_n 0, 194, 0), (194, .iload 4, 196, 0), (196, .iconst 1, 197, 0), (197, .iadd, 198, 0), (198, .iaload, 199, 0), (199, .aload_n 3, 200, 0), (200, .invokestatic 79, 203, 0), (203, .istore 5, 205, 0)]
def pgb_281_1_b4 : List pg_R := [(205, .aload_n 2, 206, 0), (206, .aload_n 0, 207, 0), (207, .iload 4, 209, 0), (209, .iconst 1, 210, 0), (210, .iadd, 211, 0), (211, .iaload, 212, 0), (212, .invokevirtual 82, 215, 0), (215, .istore 6, 217, 0)]
def pgb_281_1_b5 : List pg_R := [(217, .goto 639, 220, 856), (220, .aload_n 1, 221, 0), (221, .invokevirtual 83, 224, 0), (224, .pop, 225, 0), (225, .aload_n 2, 226, 0), (226, .invokevirtual 86, 229, 0), (229, .pop, 230, 0), (230, .goto 626, 233, 856)]
def pgb_281_1_b6 : List pg_R := [(233, .aload_n 1, 234, 0), (234, .aload_n 3, 235, 0), (235, .invokestatic 87, 238, 0), (238, .istore 5, 240, 0), (240, .aload_n 2, 241, 0), (241, .invokevirtual 90, 244, 0), (244, .istore 6, 246, 0), (246, .goto 610, 249, 856)]
def pgb_281_1_b7 : List pg_R := [(249, .aload_n 1, 250, 0), (250, .aload_n 0, 251, 0), (251, .iload 4, 253, 0), (253, .iconst 1, 254, 0)]
def pgB_281_1 : pg_Bk := [(170, pgb_281_1_b0), (179, pgb_281_1_b1), (193, pgb_281_1_b2), (205, pgb_281_1_b3), (217, pgb_281_1_b4), (233, pgb_281_1_b5), (249, pgb_281_1_b6), (254, pgb_281_1_b7)]
set_option maxRecDepth 20000 in
theorem pgc_281_1 : pgB_281_1.all (fun q => q.2.all (pg_ok (pg_cc 281))) = true := by decide +kernel
/-- MarkovDeskLaw.law([I)Z -/
def pgb_281_2_b0 : List pg_R := [(254, .iadd, 255, 0), (255, .iaload, 256, 0), (256, .aload_n 0, 257, 0), (257, .iload 4, 259, 0), (259, .iconst 2, 260, 0), (260, .iadd, 261, 0), (261, .iaload, 262, 0), (262, .aload_n 0, 263, 0)]
def pgb_281_2_b1 : List pg_R := [(263, .iload 4, 265, 0), (265, .iconst 3, 266, 0), (266, .iadd, 267, 0), (267, .iaload, 268, 0), (268, .aload_n 3, 269, 0), (269, .invokestatic 91, 272, 0), (272, .istore 5, 274, 0), (274, .aload_n 2, 275, 0)]
def pgb_281_2_b2 : List pg_R := [(275, .aload_n 0, 276, 0), (276, .iload 4, 278, 0), (278, .iconst 1, 279, 0), (279, .iadd, 280, 0), (280, .iaload, 281, 0), (281, .aload_n 0, 282, 0), (282, .iload 4, 284, 0), (284, .iconst 2, 285, 0)]
def pgb_281_2_b3 : List pg_R := [(285, .iadd, 286, 0), (286, .iaload, 287, 0), (287, .aload_n 0, 288, 0), (288, .iload 4, 290, 0), (290, .iconst 3, 291, 0), (291, .iadd, 292, 0), (292, .iaload, 293, 0), (293, .invokevirtual 94, 296, 0)]
def pgb_281_2_b4 : List pg_R := [(296, .istore 6, 298, 0), (298, .goto 558, 301, 856), (301, .aload_n 1, 302, 0), (302, .aload_n 0, 303, 0), (303, .iload 4, 305, 0), (305, .iconst 1, 306, 0), (306, .iadd, 307, 0), (307, .iaload, 308, 0)]
def pgb_281_2_b5 : List pg_R := [(308, .aload_n 0, 309, 0), (309, .iload 4, 311, 0), (311, .iconst 2, 312, 0), (312, .iadd, 313, 0), (313, .iaload, 314, 0), (314, .aload_n 0, 315, 0), (315, .iload 4, 317, 0), (317, .iconst 3, 318, 0)]
def pgb_281_2_b6 : List pg_R := [(318, .iadd, 319, 0), (319, .iaload, 320, 0), (320, .aload_n 3, 321, 0), (321, .invokestatic 95, 324, 0), (324, .istore 5, 326, 0), (326, .aload_n 2, 327, 0), (327, .aload_n 0, 328, 0), (328, .iload 4, 330, 0)]
def pgb_281_2_b7 : List pg_R := [(330, .iconst 1, 331, 0), (331, .iadd, 332, 0), (332, .iaload, 333, 0), (333, .aload_n 0, 334, 0)]
def pgB_281_2 : pg_Bk := [(263, pgb_281_2_b0), (275, pgb_281_2_b1), (285, pgb_281_2_b2), (296, pgb_281_2_b3), (308, pgb_281_2_b4), (318, pgb_281_2_b5), (330, pgb_281_2_b6), (334, pgb_281_2_b7)]
set_option maxRecDepth 20000 in
theorem pgc_281_2 : pgB_281_2.all (fun q => q.2.all (pg_ok (pg_cc 281))) = true := by decide +kernel
/-- MarkovDeskLaw.law([I)Z -/
def pgb_281_3_b0 : List pg_R := [(334, .iload 4, 336, 0), (336, .iconst 2, 337, 0), (337, .iadd, 338, 0), (338, .iaload, 339, 0), (339, .aload_n 0, 340, 0), (340, .iload 4, 342, 0), (342, .iconst 3, 343, 0), (343, .iadd, 344, 0)]
def pgb_281_3_b1 : List pg_R := [(344, .iaload, 345, 0), (345, .invokevirtual 97, 348, 0), (348, .istore 6, 350, 0), (350, .aload_n 2, 351, 0), (351, .invokevirtual 98, 354, 0), (354, .iload 5, 356, 0), (356, .if_icmp .eq 5, 359, 361), (359, .iconst 0, 360, 0)]
def pgb_281_3_b2 : List pg_R := [(360, .ireturn, 361, 0), (361, .iload 5, 363, 0), (363, .ifCond .ne 15, 366, 378), (366, .aload_n 3, 367, 0), (367, .iconst 0, 368, 0), (368, .laload, 369, 0), (369, .iload 6, 371, 0), (371, .i2l, 372, 0)]
def pgb_281_3_b3 : List pg_R := [(372, .lcmp, 373, 0), (373, .ifCond .eq 5, 376, 378), (376, .iconst 0, 377, 0), (377, .ireturn, 378, 0), (378, .goto 478, 381, 856), (381, .aload_n 1, 382, 0), (382, .aload_n 0, 383, 0), (383, .iload 4, 385, 0)]
def pgb_281_3_b4 : List pg_R := [(385, .iconst 1, 386, 0), (386, .iadd, 387, 0), (387, .iaload, 388, 0), (388, .ifCond .eq 7, 391, 395), (391, .iconst 1, 392, 0), (392, .goto 4, 395, 396), (395, .iconst 0, 396, 0), (396, .aload_n 3, 397, 0)]
def pgb_281_3_b5 : List pg_R := [(397, .invokestatic 101, 400, 0), (400, .istore 5, 402, 0), (402, .aload_n 2, 403, 0), (403, .aload_n 0, 404, 0), (404, .iload 4, 406, 0), (406, .iconst 1, 407, 0), (407, .iadd, 408, 0), (408, .iaload, 409, 0)]
def pgb_281_3_b6 : List pg_R := [(409, .ifCond .eq 7, 412, 416), (412, .iconst 1, 413, 0), (413, .goto 4, 416, 417), (416, .iconst 0, 417, 0), (417, .invokevirtual 104, 420, 0), (420, .istore 6, 422, 0), (422, .goto 434, 425, 856), (425, .aload_n 1, 426, 0)]
def pgb_281_3_b7 : List pg_R := [(426, .aload_n 0, 427, 0), (427, .iload 4, 429, 0), (429, .iconst 1, 430, 0), (430, .iadd, 431, 0)]
def pgB_281_3 : pg_Bk := [(344, pgb_281_3_b0), (360, pgb_281_3_b1), (372, pgb_281_3_b2), (385, pgb_281_3_b3), (397, pgb_281_3_b4), (409, pgb_281_3_b5), (426, pgb_281_3_b6), (431, pgb_281_3_b7)]
set_option maxRecDepth 20000 in
theorem pgc_281_3 : pgB_281_3.all (fun q => q.2.all (pg_ok (pg_cc 281))) = true := by decide +kernel
/-- MarkovDeskLaw.law([I)Z -/
def pgb_281_4_b0 : List pg_R := [(431, .iaload, 432, 0), (432, .ifCond .eq 7, 435, 439), (435, .iconst 1, 436, 0), (436, .goto 4, 439, 440), (439, .iconst 0, 440, 0), (440, .aload_n 0, 441, 0), (441, .iload 4, 443, 0), (443, .iconst 2, 444, 0)]
def pgb_281_4_b1 : List pg_R := [(444, .iadd, 445, 0), (445, .iaload, 446, 0), (446, .aload_n 3, 447, 0), (447, .invokestatic 105, 450, 0), (450, .istore 5, 452, 0), (452, .aload_n 2, 453, 0), (453, .aload_n 0, 454, 0), (454, .iload 4, 456, 0)]
def pgb_281_4_b2 : List pg_R := [(456, .iconst 1, 457, 0), (457, .iadd, 458, 0), (458, .iaload, 459, 0), (459, .ifCond .eq 7, 462, 466), (462, .iconst 1, 463, 0), (463, .goto 4, 466, 467), (466, .iconst 0, 467, 0), (467, .aload_n 0, 468, 0)]
def pgb_281_4_b3 : List pg_R := [(468, .iload 4, 470, 0), (470, .iconst 2, 471, 0), (471, .iadd, 472, 0), (472, .iaload, 473, 0), (473, .invokevirtual 108, 476, 0), (476, .istore 6, 478, 0), (478, .goto 378, 481, 856), (481, .aload_n 1, 482, 0)]
def pgb_281_4_b4 : List pg_R := [(482, .aload_n 0, 483, 0), (483, .iload 4, 485, 0), (485, .iconst 1, 486, 0), (486, .iadd, 487, 0), (487, .iaload, 488, 0), (488, .ifCond .eq 7, 491, 495), (491, .iconst 1, 492, 0), (492, .goto 4, 495, 496)]
def pgb_281_4_b5 : List pg_R := [(495, .iconst 0, 496, 0), (496, .aload_n 0, 497, 0), (497, .iload 4, 499, 0), (499, .iconst 2, 500, 0), (500, .iadd, 501, 0), (501, .iaload, 502, 0), (502, .aload_n 0, 503, 0), (503, .iload 4, 505, 0)]
def pgb_281_4_b6 : List pg_R := [(505, .iconst 3, 506, 0), (506, .iadd, 507, 0), (507, .iaload, 508, 0), (508, .aload_n 3, 509, 0), (509, .invokestatic 109, 512, 0), (512, .istore 5, 514, 0), (514, .aload_n 2, 515, 0), (515, .aload_n 0, 516, 0)]
def pgb_281_4_b7 : List pg_R := [(516, .iload 4, 518, 0), (518, .iconst 1, 519, 0), (519, .iadd, 520, 0), (520, .iaload, 521, 0)]
def pgB_281_4 : pg_Bk := [(444, pgb_281_4_b0), (456, pgb_281_4_b1), (468, pgb_281_4_b2), (482, pgb_281_4_b3), (495, pgb_281_4_b4), (505, pgb_281_4_b5), (516, pgb_281_4_b6), (521, pgb_281_4_b7)]
set_option maxRecDepth 20000 in
theorem pgc_281_4 : pgB_281_4.all (fun q => q.2.all (pg_ok (pg_cc 281))) = true := by decide +kernel
/-- MarkovDeskLaw.law([I)Z -/
def pgb_281_5_b0 : List pg_R := [(521, .ifCond .eq 7, 524, 528), (524, .iconst 1, 525, 0), (525, .goto 4, 528, 529), (528, .iconst 0, 529, 0), (529, .aload_n 0, 530, 0), (530, .iload 4, 532, 0), (532, .iconst 2, 533, 0), (533, .iadd, 534, 0)]
def pgb_281_5_b1 : List pg_R := [(534, .iaload, 535, 0), (535, .aload_n 0, 536, 0), (536, .iload 4, 538, 0), (538, .iconst 3, 539, 0), (539, .iadd, 540, 0), (540, .iaload, 541, 0), (541, .invokevirtual 112, 544, 0), (544, .istore 6, 546, 0)]
def pgb_281_5_b2 : List pg_R := [(546, .goto 310, 549, 856), (549, .aload_n 1, 550, 0), (550, .aload_n 0, 551, 0), (551, .iload 4, 553, 0), (553, .iconst 1, 554, 0), (554, .iadd, 555, 0), (555, .iaload, 556, 0), (556, .aload_n 0, 557, 0)]
def pgb_281_5_b3 : List pg_R := [(557, .iload 4, 559, 0), (559, .iconst 2, 560, 0), (560, .iadd, 561, 0), (561, .iaload, 562, 0), (562, .i2l, 563, 0), (563, .bipush 32, 565, 0), (565, .lshl, 566, 0), (566, .aload_n 0, 567, 0)]
def pgb_281_5_b4 : List pg_R := [(567, .iload 4, 569, 0), (569, .iconst 3, 570, 0), (570, .iadd, 571, 0), (571, .iaload, 572, 0), (572, .i2l, 573, 0), (573, .ldc2_w 113, 576, 0), (576, .land, 577, 0), (577, .lor, 578, 0)]
def pgb_281_5_b5 : List pg_R := [(578, .aload_n 0, 579, 0), (579, .iload 4, 581, 0), (581, .iconst 4, 582, 0), (582, .iadd, 583, 0), (583, .iaload, 584, 0), (584, .i2l, 585, 0), (585, .bipush 32, 587, 0), (587, .lshl, 588, 0)]
def pgb_281_5_b6 : List pg_R := [(588, .aload_n 0, 589, 0), (589, .iload 4, 591, 0), (591, .iconst 5, 592, 0), (592, .iadd, 593, 0), (593, .iaload, 594, 0), (594, .i2l, 595, 0), (595, .ldc2_w 113, 598, 0), (598, .land, 599, 0)]
def pgb_281_5_b7 : List pg_R := [(599, .lor, 600, 0), (600, .invokestatic 115, 603, 0), (603, .istore 5, 605, 0), (605, .aload_n 2, 606, 0)]
def pgB_281_5 : pg_Bk := [(534, pgb_281_5_b0), (546, pgb_281_5_b1), (557, pgb_281_5_b2), (567, pgb_281_5_b3), (578, pgb_281_5_b4), (588, pgb_281_5_b5), (599, pgb_281_5_b6), (606, pgb_281_5_b7)]
set_option maxRecDepth 20000 in
theorem pgc_281_5 : pgB_281_5.all (fun q => q.2.all (pg_ok (pg_cc 281))) = true := by decide +kernel
/-- MarkovDeskLaw.law([I)Z -/
def pgb_281_6_b0 : List pg_R := [(606, .aload_n 0, 607, 0), (607, .iload 4, 609, 0), (609, .iconst 1, 610, 0), (610, .iadd, 611, 0), (611, .iaload, 612, 0), (612, .aload_n 0, 613, 0), (613, .iload 4, 615, 0), (615, .iconst 2, 616, 0)]
def pgb_281_6_b1 : List pg_R := [(616, .iadd, 617, 0), (617, .iaload, 618, 0), (618, .i2l, 619, 0), (619, .bipush 32, 621, 0), (621, .lshl, 622, 0), (622, .aload_n 0, 623, 0), (623, .iload 4, 625, 0), (625, .iconst 3, 626, 0)]
def pgb_281_6_b2 : List pg_R := [(626, .iadd, 627, 0), (627, .iaload, 628, 0), (628, .i2l, 629, 0), (629, .ldc2_w 113, 632, 0), (632, .land, 633, 0), (633, .lor, 634, 0), (634, .aload_n 0, 635, 0), (635, .iload 4, 637, 0)]
def pgb_281_6_b3 : List pg_R := [(637, .iconst 4, 638, 0), (638, .iadd, 639, 0), (639, .iaload, 640, 0), (640, .i2l, 641, 0), (641, .bipush 32, 643, 0), (643, .lshl, 644, 0), (644, .aload_n 0, 645, 0), (645, .iload 4, 647, 0)]
def pgb_281_6_b4 : List pg_R := [(647, .iconst 5, 648, 0), (648, .iadd, 649, 0), (649, .iaload, 650, 0), (650, .i2l, 651, 0), (651, .ldc2_w 113, 654, 0), (654, .land, 655, 0), (655, .lor, 656, 0), (656, .invokevirtual 118, 659, 0)]
def pgb_281_6_b5 : List pg_R := [(659, .goto 197, 662, 856), (662, .aload_n 1, 663, 0), (663, .aload_n 0, 664, 0), (664, .iload 4, 666, 0), (666, .iconst 1, 667, 0), (667, .iadd, 668, 0), (668, .iaload, 669, 0), (669, .invokestatic 119, 672, 0)]
def pgb_281_6_b6 : List pg_R := [(672, .istore 5, 674, 0), (674, .aload_n 2, 675, 0), (675, .aload_n 0, 676, 0), (676, .iload 4, 678, 0), (678, .iconst 1, 679, 0), (679, .iadd, 680, 0), (680, .iaload, 681, 0), (681, .invokevirtual 122, 684, 0)]
def pgb_281_6_b7 : List pg_R := [(684, .goto 172, 687, 856), (687, .aload_n 1, 688, 0), (688, .aload_n 0, 689, 0), (689, .iload 4, 691, 0)]
def pgB_281_6 : pg_Bk := [(616, pgb_281_6_b0), (626, pgb_281_6_b1), (637, pgb_281_6_b2), (647, pgb_281_6_b3), (659, pgb_281_6_b4), (672, pgb_281_6_b5), (684, pgb_281_6_b6), (690, pgb_281_6_b7)]
set_option maxRecDepth 20000 in
theorem pgc_281_6 : pgB_281_6.all (fun q => q.2.all (pg_ok (pg_cc 281))) = true := by decide +kernel
/-- MarkovDeskLaw.law([I)Z -/
def pgb_281_7_b0 : List pg_R := [(691, .iconst 1, 692, 0), (692, .iadd, 693, 0), (693, .iaload, 694, 0), (694, .ifCond .eq 7, 697, 701), (697, .iconst 1, 698, 0), (698, .goto 4, 701, 702), (701, .iconst 0, 702, 0), (702, .aload_n 3, 703, 0)]
def pgb_281_7_b1 : List pg_R := [(703, .invokestatic 123, 706, 0), (706, .istore 5, 708, 0), (708, .aload_n 2, 709, 0), (709, .aload_n 0, 710, 0), (710, .iload 4, 712, 0), (712, .iconst 1, 713, 0), (713, .iadd, 714, 0), (714, .iaload, 715, 0)]
def pgb_281_7_b2 : List pg_R := [(715, .ifCond .eq 7, 718, 722), (718, .iconst 1, 719, 0), (719, .goto 4, 722, 723), (722, .iconst 0, 723, 0), (723, .invokevirtual 125, 726, 0), (726, .istore 6, 728, 0), (728, .goto 128, 731, 856), (731, .aload_n 1, 732, 0)]
def pgb_281_7_b3 : List pg_R := [(732, .aload_n 0, 733, 0), (733, .iload 4, 735, 0), (735, .iconst 1, 736, 0), (736, .iadd, 737, 0), (737, .iaload, 738, 0), (738, .ifCond .eq 7, 741, 745), (741, .iconst 1, 742, 0), (742, .goto 4, 745, 746)]
def pgb_281_7_b4 : List pg_R := [(745, .iconst 0, 746, 0), (746, .invokevirtual 126, 749, 0), (749, .pop, 750, 0), (750, .aload_n 2, 751, 0), (751, .aload_n 0, 752, 0), (752, .iload 4, 754, 0), (754, .iconst 1, 755, 0), (755, .iadd, 756, 0)]
def pgb_281_7_b5 : List pg_R := [(756, .iaload, 757, 0), (757, .ifCond .eq 7, 760, 764), (760, .iconst 1, 761, 0), (761, .goto 4, 764, 765), (764, .iconst 0, 765, 0), (765, .invokevirtual 129, 768, 0), (768, .pop, 769, 0), (769, .goto 87, 772, 856)]
def pgb_281_7_b6 : List pg_R := [(772, .aload_n 1, 773, 0), (773, .aload_n 0, 774, 0), (774, .iload 4, 776, 0), (776, .iconst 1, 777, 0), (777, .iadd, 778, 0), (778, .iaload, 779, 0), (779, .ifCond .eq 7, 782, 786), (782, .iconst 1, 783, 0)]
def pgb_281_7_b7 : List pg_R := [(783, .goto 4, 786, 787), (786, .iconst 0, 787, 0), (787, .aload_n 0, 788, 0), (788, .iload 4, 790, 0)]
def pgB_281_7 : pg_Bk := [(703, pgb_281_7_b0), (715, pgb_281_7_b1), (732, pgb_281_7_b2), (745, pgb_281_7_b3), (756, pgb_281_7_b4), (772, pgb_281_7_b5), (783, pgb_281_7_b6), (789, pgb_281_7_b7)]
set_option maxRecDepth 20000 in
theorem pgc_281_7 : pgB_281_7.all (fun q => q.2.all (pg_ok (pg_cc 281))) = true := by decide +kernel
/-- MarkovDeskLaw.law([I)Z -/
def pgb_281_8_b0 : List pg_R := [(790, .iconst 2, 791, 0), (791, .iadd, 792, 0), (792, .iaload, 793, 0), (793, .aload_n 3, 794, 0), (794, .invokestatic 130, 797, 0), (797, .istore 5, 799, 0), (799, .aload_n 2, 800, 0), (800, .aload_n 0, 801, 0)]
def pgb_281_8_b1 : List pg_R := [(801, .iload 4, 803, 0), (803, .iconst 1, 804, 0), (804, .iadd, 805, 0), (805, .iaload, 806, 0), (806, .ifCond .eq 7, 809, 813), (809, .iconst 1, 810, 0), (810, .goto 4, 813, 814), (813, .iconst 0, 814, 0)]
def pgb_281_8_b2 : List pg_R := [(814, .aload_n 0, 815, 0), (815, .iload 4, 817, 0), (817, .iconst 2, 818, 0), (818, .iadd, 819, 0), (819, .iaload, 820, 0), (820, .invokevirtual 132, 823, 0), (823, .istore 6, 825, 0), (825, .goto 31, 828, 856)]
def pgb_281_8_b3 : List pg_R := [(828, .aload_n 1, 829, 0), (829, .aload_n 0, 830, 0), (830, .iload 4, 832, 0), (832, .iconst 1, 833, 0), (833, .iadd, 834, 0), (834, .iaload, 835, 0), (835, .aload_n 3, 836, 0), (836, .invokestatic 133, 839, 0)]
def pgb_281_8_b4 : List pg_R := [(839, .istore 5, 841, 0), (841, .aload_n 2, 842, 0), (842, .aload_n 0, 843, 0), (843, .iload 4, 845, 0), (845, .iconst 1, 846, 0), (846, .iadd, 847, 0), (847, .iaload, 848, 0), (848, .invokevirtual 135, 851, 0)]
def pgb_281_8_b5 : List pg_R := [(851, .istore 6, 853, 0), (853, .goto 3, 856, 856), (856, .iinc 4 6, 859, 0), (859, .goto (-836), 862, 23), (862, .iconst 1, 863, 0), (863, .ireturn, 864, 0)]
def pgB_281_8 : pg_Bk := [(801, pgb_281_8_b0), (814, pgb_281_8_b1), (828, pgb_281_8_b2), (839, pgb_281_8_b3), (851, pgb_281_8_b4), (864, pgb_281_8_b5)]
set_option maxRecDepth 20000 in
theorem pgc_281_8 : pgB_281_8.all (fun q => q.2.all (pg_ok (pg_cc 281))) = true := by decide +kernel
def pgB_281 : pg_Bk := pgB_281_0 ++ (pgB_281_1 ++ (pgB_281_2 ++ (pgB_281_3 ++ (pgB_281_4 ++ (pgB_281_5 ++ (pgB_281_6 ++ (pgB_281_7 ++ (pgB_281_8))))))))
theorem pgc_281 : pgB_281.all (fun q => q.2.all (pg_ok (pg_cc 281))) = true := pg_all2 pgc_281_0 (pg_all2 pgc_281_1 (pg_all2 pgc_281_2 (pg_all2 pgc_281_3 (pg_all2 pgc_281_4 (pg_all2 pgc_281_5 (pg_all2 pgc_281_6 (pg_all2 pgc_281_7 (pgc_281_8))))))))
