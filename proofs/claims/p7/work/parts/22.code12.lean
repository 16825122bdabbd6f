/-- MarkovDeskModel.update(I)Z -/
def pgb_232_0_b0 : List pg_R := [(0, .iload_n 1, 1, 0), (1, .bipush 6, 3, 0), (3, .imul, 4, 0), (4, .aload_n 0, 5, 0), (5, .getfield 144, 8, 0), (8, .iload_n 1, 9, 0), (9, .iaload, 10, 0), (10, .iadd, 11, 0)]
def pgb_232_0_b1 : List pg_R := [(11, .bipush 8, 13, 0), (13, .imul, 14, 0), (14, .istore_n 2, 15, 0), (15, .iconst 0, 16, 0), (16, .istore_n 3, 17, 0), (17, .iload_n 3, 18, 0), (18, .bipush 8, 20, 0), (20, .if_icmp .ge 18, 23, 38)]
def pgb_232_0_b2 : List pg_R := [(23, .aload_n 0, 24, 0), (24, .getfield 153, 27, 0), (27, .iload_n 2, 28, 0), (28, .iload_n 3, 29, 0), (29, .iadd, 30, 0), (30, .iconst (-1), 31, 0), (31, .iastore, 32, 0), (32, .iinc 3 1, 35, 0)]
def pgb_232_0_b3 : List pg_R := [(35, .goto (-18), 38, 17), (38, .aload_n 0, 39, 0), (39, .getfield 144, 42, 0), (42, .iload_n 1, 43, 0), (43, .dup2, 44, 0), (44, .iaload, 45, 0), (45, .iconst 1, 46, 0), (46, .iadd, 47, 0)]
def pgb_232_0_b4 : List pg_R := [(47, .iastore, 48, 0), (48, .aload_n 0, 49, 0), (49, .ldc 25, 51, 0), (51, .invokevirtual 417, 54, 0), (54, .ifCond .eq 8, 57, 62), (57, .aload_n 0, 58, 0), (58, .invokevirtual 377, 61, 0), (61, .ireturn, 62, 0)]
def pgb_232_0_b5 : List pg_R := [(62, .iconst 0, 63, 0), (63, .istore_n 3, 64, 0), (64, .iload_n 3, 65, 0), (65, .ifCond .eq 12, 68, 77), (68, .aload_n 0, 69, 0), (69, .invokevirtual 377, 72, 0), (72, .ifCond .ne 5, 75, 77), (75, .iconst 0, 76, 0)]
def pgb_232_0_b6 : List pg_R := [(76, .ireturn, 77, 0), (77, .iconst 1, 78, 0), (78, .istore_n 3, 79, 0), (79, .aload_n 0, 80, 0), (80, .ldc 83, 82, 0), (82, .invokevirtual 448, 85, 0), (85, .ifCond .ne 5, 88, 90), (88, .iconst 0, 89, 0)]
def pgb_232_0_b7 : List pg_R := [(89, .ireturn, 90, 0), (90, .aload_n 0, 91, 0), (91, .getfield 386, 94, 0), (94, .ifCond .ne 10, 97, 104)]
def pgB_232_0 : pg_Bk := [(11, pgb_232_0_b0), (23, pgb_232_0_b1), (35, pgb_232_0_b2), (47, pgb_232_0_b3), (62, pgb_232_0_b4), (76, pgb_232_0_b5), (89, pgb_232_0_b6), (95, pgb_232_0_b7)]
set_option maxRecDepth 20000 in
theorem pgc_232_0 : pgB_232_0.all (fun q => q.2.all (pg_ok (pg_cc 232))) = true := by decide +kernel
/-- MarkovDeskModel.update(I)Z -/
def pgb_232_1_b0 : List pg_R := [(97, .aload_n 0, 98, 0), (98, .invokevirtual 476, 101, 0), (101, .goto 4, 104, 105), (104, .iconst (-1), 105, 0), (105, .istore 4, 107, 0), (107, .iload 4, 109, 0), (109, .ifCond .lt 14, 112, 123), (112, .aload_n 0, 113, 0)]
def pgb_232_1_b1 : List pg_R := [(113, .getfield 111, 116, 0), (116, .iload 4, 118, 0), (118, .iaload, 119, 0), (119, .iconst 1, 120, 0), (120, .if_icmp .eq 7, 123, 127), (123, .iconst (-1), 124, 0), (124, .goto 10, 127, 134), (127, .aload_n 0, 128, 0)]
def pgb_232_1_b2 : List pg_R := [(128, .getfield 114, 131, 0), (131, .iload 4, 133, 0), (133, .iaload, 134, 0), (134, .istore 5, 136, 0), (136, .iload 5, 138, 0), (138, .ifCond .lt 29, 141, 167), (141, .aload_n 0, 142, 0), (142, .getfield 123, 145, 0)]
def pgb_232_1_b3 : List pg_R := [(145, .iload 5, 147, 0), (147, .iaload, 148, 0), (148, .aload_n 0, 149, 0), (149, .getfield 496, 152, 0), (152, .if_icmp .ne 15, 155, 167), (155, .aload_n 0, 156, 0), (156, .getfield 153, 159, 0), (159, .iload_n 2, 160, 0)]
def pgb_232_1_b4 : List pg_R := [(160, .iload 5, 162, 0), (162, .iadd, 163, 0), (163, .iaload, 164, 0), (164, .ifCond .lt 12, 167, 176), (167, .aload_n 0, 168, 0), (168, .aload_n 0, 169, 0), (169, .getfield 383, 172, 0), (172, .invokevirtual 363, 175, 0)]
def pgb_232_1_b5 : List pg_R := [(175, .ireturn, 176, 0), (176, .aload_n 0, 177, 0), (177, .invokevirtual 377, 180, 0), (180, .ifCond .eq 21, 183, 201), (183, .aload_n 0, 184, 0), (184, .ldc 81, 186, 0), (186, .invokevirtual 448, 189, 0), (189, .ifCond .eq 12, 192, 201)]
def pgb_232_1_b6 : List pg_R := [(192, .aload_n 0, 193, 0), (193, .ldc 53, 195, 0), (195, .invokevirtual 448, 198, 0), (198, .ifCond .ne 5, 201, 203), (201, .iconst 0, 202, 0), (202, .ireturn, 203, 0), (203, .aload_n 0, 204, 0), (204, .aload_n 0, 205, 0)]
def pgb_232_1_b7 : List pg_R := [(205, .getfield 156, 208, 0), (208, .iload 5, 210, 0), (210, .baload, 211, 0), (211, .invokevirtual 513, 214, 0)]
def pgB_232_1 : pg_Bk := [(113, pgb_232_1_b0), (128, pgb_232_1_b1), (145, pgb_232_1_b2), (160, pgb_232_1_b3), (175, pgb_232_1_b4), (192, pgb_232_1_b5), (205, pgb_232_1_b6), (212, pgb_232_1_b7)]
set_option maxRecDepth 20000 in
theorem pgc_232_1 : pgB_232_1.all (fun q => q.2.all (pg_ok (pg_cc 232))) = true := by decide +kernel
/-- MarkovDeskModel.update(I)Z -/
def pgb_232_2_b0 : List pg_R := [(214, .istore 6, 216, 0), (216, .iload 6, 218, 0), (218, .ifCond .lt 12, 221, 230), (221, .aload_n 0, 222, 0), (222, .ldc 85, 224, 0), (224, .invokevirtual 448, 227, 0), (227, .ifCond .ne 5, 230, 232), (230, .iconst 0, 231, 0)]
def pgb_232_2_b1 : List pg_R := [(231, .ireturn, 232, 0), (232, .aload_n 0, 233, 0), (233, .getfield 153, 236, 0), (236, .iload_n 2, 237, 0), (237, .iload 5, 239, 0), (239, .iadd, 240, 0), (240, .iload 6, 242, 0), (242, .iastore, 243, 0)]
def pgb_232_2_b2 : List pg_R := [(243, .aload_n 0, 244, 0), (244, .ldc 69, 246, 0), (246, .invokevirtual 417, 249, 0), (249, .ifCond .ne (-185), 252, 64), (252, .iconst 1, 253, 0), (253, .ireturn, 254, 0)]
def pgB_232_2 : pg_Bk := [(231, pgb_232_2_b0), (243, pgb_232_2_b1), (254, pgb_232_2_b2)]
set_option maxRecDepth 20000 in
theorem pgc_232_2 : pgB_232_2.all (fun q => q.2.all (pg_ok (pg_cc 232))) = true := by decide +kernel
def pgB_232 : pg_Bk := pgB_232_0 ++ (pgB_232_1 ++ (pgB_232_2))
theorem pgc_232 : pgB_232.all (fun q => q.2.all (pg_ok (pg_cc 232))) = true := pg_all2 pgc_232_0 (pg_all2 pgc_232_1 (pgc_232_2))
/-- MarkovDeskModel.chances(I)Z -/
def pgb_233_b0 : List pg_R := [(0, .aload_n 0, 1, 0), (1, .getfield 144, 4, 0), (4, .iload_n 1, 5, 0), (5, .iaload, 6, 0), (6, .ifCond .le 12, 9, 18), (9, .aload_n 0, 10, 0), (10, .invokevirtual 377, 13, 0), (13, .ifCond .ne 5, 16, 18)]
def pgb_233_b1 : List pg_R := [(16, .iconst 0, 17, 0), (17, .ireturn, 18, 0), (18, .aload_n 0, 19, 0), (19, .getfield 144, 22, 0), (22, .iload_n 1, 23, 0), (23, .iaload, 24, 0), (24, .bipush 6, 26, 0), (26, .if_icmp .eq 28, 29, 54)]
def pgb_233_b2 : List pg_R := [(29, .aload_n 0, 30, 0), (30, .iload_n 1, 31, 0), (31, .invokevirtual 546, 34, 0), (34, .ifCond .eq 20, 37, 54), (37, .aload_n 0, 38, 0), (38, .ldc 75, 40, 0), (40, .invokevirtual 448, 43, 0), (43, .ifCond .eq 11, 46, 54)]
def pgb_233_b3 : List pg_R := [(46, .aload_n 0, 47, 0), (47, .iload_n 1, 48, 0), (48, .invokevirtual 540, 51, 0), (51, .ifCond .ne 12, 54, 63), (54, .aload_n 0, 55, 0), (55, .aload_n 0, 56, 0), (56, .getfield 383, 59, 0), (59, .invokevirtual 363, 62, 0)]
def pgb_233_b4 : List pg_R := [(62, .ireturn, 63, 0), (63, .aload_n 0, 64, 0), (64, .ldc 59, 66, 0), (66, .invokevirtual 417, 69, 0), (69, .ifCond .ne (-69), 72, 0), (72, .aload_n 0, 73, 0), (73, .ldc 77, 75, 0), (75, .invokevirtual 417, 78, 0)]
def pgb_233_b5 : List pg_R := [(78, .ifCond .ne 12, 81, 90), (81, .aload_n 0, 82, 0), (82, .aload_n 0, 83, 0), (83, .getfield 383, 86, 0), (86, .invokevirtual 363, 89, 0), (89, .ireturn, 90, 0), (90, .aload_n 0, 91, 0), (91, .iload_n 1, 92, 0)]
def pgb_233_b6 : List pg_R := [(92, .invokevirtual 549, 95, 0), (95, .ifCond .ne 14, 98, 109), (98, .aload_n 0, 99, 0), (99, .aload_n 0, 100, 0), (100, .getfield 383, 103, 0), (103, .invokevirtual 363, 106, 0), (106, .ifCond .eq 7, 109, 113), (109, .iconst 1, 110, 0)]
def pgb_233_b7 : List pg_R := [(110, .goto 4, 113, 114), (113, .iconst 0, 114, 0), (114, .ireturn, 115, 0)]
def pgB_233 : pg_Bk := [(16, pgb_233_b0), (29, pgb_233_b1), (46, pgb_233_b2), (62, pgb_233_b3), (78, pgb_233_b4), (92, pgb_233_b5), (110, pgb_233_b6), (115, pgb_233_b7)]
set_option maxRecDepth 20000 in
theorem pgc_233 : pgB_233.all (fun q => q.2.all (pg_ok (pg_cc 233))) = true := by decide +kernel
/-- MarkovDeskModel.chance(I)Z -/
def pgb_234_0_b0 : List pg_R := [(0, .iload_n 1, 1, 0), (1, .bipush 6, 3, 0), (3, .imul, 4, 0), (4, .aload_n 0, 5, 0), (5, .getfield 144, 8, 0), (8, .iload_n 1, 9, 0), (9, .iaload, 10, 0), (10, .iadd, 11, 0)]
def pgb_234_0_b1 : List pg_R := [(11, .istore_n 2, 12, 0), (12, .aload_n 0, 13, 0), (13, .getfield 383, 16, 0), (16, .istore_n 3, 17, 0), (17, .aload_n 0, 18, 0), (18, .getfield 383, 21, 0), (21, .istore 4, 23, 0), (23, .aload_n 0, 24, 0)]
def pgb_234_0_b2 : List pg_R := [(24, .getfield 374, 27, 0), (27, .istore 5, 29, 0), (29, .aload_n 0, 30, 0), (30, .getfield 386, 33, 0), (33, .iconst 1, 34, 0), (34, .if_icmp .eq 20, 37, 54), (37, .aload_n 0, 38, 0), (38, .getfield 386, 41, 0)]
def pgb_234_0_b3 : List pg_R := [(41, .iconst 2, 42, 0), (42, .if_icmp .eq 12, 45, 54), (45, .aload_n 0, 46, 0), (46, .aload_n 0, 47, 0), (47, .getfield 383, 50, 0), (50, .invokevirtual 363, 53, 0), (53, .ireturn, 54, 0), (54, .aload_n 0, 55, 0)]
def pgb_234_0_b4 : List pg_R := [(55, .getfield 386, 58, 0), (58, .iconst 2, 59, 0), (59, .if_icmp .ne 102, 62, 161), (62, .iload 4, 64, 0), (64, .istore 6, 66, 0), (66, .aload_n 0, 67, 0), (67, .getfield 102, 70, 0), (70, .iload 6, 72, 0)]
def pgb_234_0_b5 : List pg_R := [(72, .iaload, 73, 0), (73, .bipush 46, 75, 0), (75, .if_icmp .eq 9, 78, 84), (78, .iinc 6 1, 81, 0), (81, .goto (-15), 84, 66), (84, .iconst 1, 85, 0), (85, .istore 7, 87, 0), (87, .iload 6, 89, 0)]
def pgb_234_0_b6 : List pg_R := [(89, .iconst 1, 90, 0), (90, .iadd, 91, 0), (91, .istore 8, 93, 0), (93, .iload 8, 95, 0), (95, .iload 5, 97, 0), (97, .if_icmp .ge 16, 100, 113), (100, .iload 7, 102, 0), (102, .bipush 10, 104, 0)]
def pgb_234_0_b7 : List pg_R := [(104, .imul, 105, 0), (105, .istore 7, 107, 0), (107, .iinc 8 1, 110, 0), (110, .goto (-17), 113, 93)]
def pgB_234_0 : pg_Bk := [(11, pgb_234_0_b0), (24, pgb_234_0_b1), (41, pgb_234_0_b2), (55, pgb_234_0_b3), (72, pgb_234_0_b4), (89, pgb_234_0_b5), (104, pgb_234_0_b6), (111, pgb_234_0_b7)]
set_option maxRecDepth 20000 in
theorem pgc_234_0 : pgB_234_0.all (fun q => q.2.all (pg_ok (pg_cc 234))) = true := by decide +kernel
/-- MarkovDeskModel.chance(I)Z -/
def pgb_234_1_b0 : List pg_R := [(113, .aload_n 0, 114, 0), (114, .getfield 147, 117, 0), (117, .iload_n 2, 118, 0), (118, .aload_n 0, 119, 0), (119, .iload 4, 121, 0), (121, .iload 6, 123, 0), (123, .invokevirtual 473, 126, 0), (126, .iload 7, 128, 0)]
def pgb_234_1_b1 : List pg_R := [(128, .imul, 129, 0), (129, .aload_n 0, 130, 0), (130, .iload 6, 132, 0), (132, .iconst 1, 133, 0), (133, .iadd, 134, 0), (134, .iload 5, 136, 0), (136, .invokevirtual 473, 139, 0), (139, .iadd, 140, 0)]
def pgb_234_1_b2 : List pg_R := [(140, .iastore, 141, 0), (141, .aload_n 0, 142, 0), (142, .getfield 150, 145, 0), (145, .iload_n 2, 146, 0), (146, .iload 7, 148, 0), (148, .iastore, 149, 0), (149, .aload_n 0, 150, 0), (150, .invokevirtual 377, 153, 0)]
def pgb_234_1_b3 : List pg_R := [(153, .ifCond .ne 5, 156, 158), (156, .iconst 0, 157, 0), (157, .ireturn, 158, 0), (158, .goto 130, 161, 288), (161, .aload_n 0, 162, 0), (162, .getfield 147, 165, 0), (165, .iload_n 2, 166, 0), (166, .aload_n 0, 167, 0)]
def pgb_234_1_b4 : List pg_R := [(167, .iload 4, 169, 0), (169, .iload 5, 171, 0), (171, .invokevirtual 473, 174, 0), (174, .iastore, 175, 0), (175, .aload_n 0, 176, 0), (176, .getfield 150, 179, 0), (179, .iload_n 2, 180, 0), (180, .iconst 1, 181, 0)]
def pgb_234_1_b5 : List pg_R := [(181, .iastore, 182, 0), (182, .aload_n 0, 183, 0), (183, .invokevirtual 377, 186, 0), (186, .ifCond .ne 5, 189, 191), (189, .iconst 0, 190, 0), (190, .ireturn, 191, 0), (191, .aload_n 0, 192, 0), (192, .ldc 65, 194, 0)]
def pgb_234_1_b6 : List pg_R := [(194, .invokevirtual 417, 197, 0), (197, .ifCond .eq 61, 200, 258), (200, .aload_n 0, 201, 0), (201, .invokevirtual 377, 204, 0), (204, .ifCond .ne 5, 207, 209), (207, .iconst 0, 208, 0), (208, .ireturn, 209, 0), (209, .aload_n 0, 210, 0)]
def pgb_234_1_b7 : List pg_R := [(210, .getfield 383, 213, 0), (213, .istore_n 3, 214, 0), (214, .aload_n 0, 215, 0), (215, .getfield 386, 218, 0)]
def pgB_234_1 : pg_Bk := [(128, pgb_234_1_b0), (140, pgb_234_1_b1), (153, pgb_234_1_b2), (167, pgb_234_1_b3), (181, pgb_234_1_b4), (194, pgb_234_1_b5), (210, pgb_234_1_b6), (216, pgb_234_1_b7)]
set_option maxRecDepth 20000 in
theorem pgc_234_1 : pgB_234_1.all (fun q => q.2.all (pg_ok (pg_cc 234))) = true := by decide +kernel
/-- MarkovDeskModel.chance(I)Z -/
def pgb_234_2_b0 : List pg_R := [(218, .iconst 1, 219, 0), (219, .if_icmp .eq 12, 222, 231), (222, .aload_n 0, 223, 0), (223, .aload_n 0, 224, 0), (224, .getfield 383, 227, 0), (227, .invokevirtual 363, 230, 0), (230, .ireturn, 231, 0), (231, .aload_n 0, 232, 0)]
def pgb_234_2_b1 : List pg_R := [(232, .getfield 150, 235, 0), (235, .iload_n 2, 236, 0), (236, .aload_n 0, 237, 0), (237, .aload_n 0, 238, 0), (238, .getfield 383, 241, 0), (241, .aload_n 0, 242, 0), (242, .getfield 374, 245, 0), (245, .invokevirtual 473, 248, 0)]
def pgb_234_2_b2 : List pg_R := [(248, .iastore, 249, 0), (249, .aload_n 0, 250, 0), (250, .invokevirtual 377, 253, 0), (253, .ifCond .ne 5, 256, 258), (256, .iconst 0, 257, 0), (257, .ireturn, 258, 0), (258, .aload_n 0, 259, 0), (259, .getfield 147, 262, 0)]
def pgb_234_2_b3 : List pg_R := [(262, .iload_n 2, 263, 0), (263, .iaload, 264, 0), (264, .sipush 999, 267, 0), (267, .if_icmp .gt 15, 270, 282), (270, .aload_n 0, 271, 0), (271, .getfield 150, 274, 0), (274, .iload_n 2, 275, 0), (275, .iaload, 276, 0)]
def pgb_234_2_b4 : List pg_R := [(276, .sipush 999, 279, 0), (279, .if_icmp .le 9, 282, 288), (282, .aload_n 0, 283, 0), (283, .iload_n 3, 284, 0), (284, .invokevirtual 363, 287, 0), (287, .ireturn, 288, 0), (288, .aload_n 0, 289, 0), (289, .getfield 147, 292, 0)]
def pgb_234_2_b5 : List pg_R := [(292, .iload_n 2, 293, 0), (293, .iaload, 294, 0), (294, .ifCond .le 18, 297, 312), (297, .aload_n 0, 298, 0), (298, .getfield 147, 301, 0), (301, .iload_n 2, 302, 0), (302, .iaload, 303, 0), (303, .aload_n 0, 304, 0)]
def pgb_234_2_b6 : List pg_R := [(304, .getfield 150, 307, 0), (307, .iload_n 2, 308, 0), (308, .iaload, 309, 0), (309, .if_icmp .le 11, 312, 320), (312, .aload_n 0, 313, 0), (313, .iload_n 3, 314, 0), (314, .invokevirtual 363, 317, 0), (317, .ifCond .eq 7, 320, 324)]
def pgb_234_2_b7 : List pg_R := [(320, .iconst 1, 321, 0), (321, .goto 4, 324, 325), (324, .iconst 0, 325, 0), (325, .ireturn, 326, 0)]
def pgB_234_2 : pg_Bk := [(232, pgb_234_2_b0), (248, pgb_234_2_b1), (262, pgb_234_2_b2), (276, pgb_234_2_b3), (292, pgb_234_2_b4), (304, pgb_234_2_b5), (320, pgb_234_2_b6), (326, pgb_234_2_b7)]
set_option maxRecDepth 20000 in
theorem pgc_234_2 : pgB_234_2.all (fun q => q.2.all (pg_ok (pg_cc 234))) = true := by decide +kernel
def pgB_234 : pg_Bk := pgB_234_0 ++ (pgB_234_1 ++ (pgB_234_2))
theorem pgc_234 : pgB_234.all (fun q => q.2.all (pg_ok (pg_cc 234))) = true := pg_all2 pgc_234_0 (pg_all2 pgc_234_1 (pgc_234_2))
/-- MarkovDeskModel.isOne(I)Z -/
def pgb_235_0_b0 : List pg_R := [(0, .iconst 0, 1, 0), (1, .istore_n 2, 2, 0), (2, .iload_n 2, 3, 0), (3, .aload_n 0, 4, 0), (4, .getfield 144, 7, 0), (7, .iload_n 1, 8, 0), (8, .iaload, 9, 0), (9, .if_icmp .ge 55, 12, 64)]
def pgb_235_0_b1 : List pg_R := [(12, .iload_n 1, 13, 0), (13, .bipush 6, 15, 0), (15, .imul, 16, 0), (16, .iload_n 2, 17, 0), (17, .iadd, 18, 0), (18, .istore_n 3, 19, 0), (19, .aload_n 0, 20, 0), (20, .getfield 147, 23, 0)]
def pgb_235_0_b2 : List pg_R := [(23, .iload_n 3, 24, 0), (24, .iaload, 25, 0), (25, .aload_n 0, 26, 0), (26, .getfield 150, 29, 0), (29, .iload_n 3, 30, 0), (30, .iaload, 31, 0), (31, .invokestatic 552, 34, 0), (34, .istore 4, 36, 0)]
def pgb_235_0_b3 : List pg_R := [(36, .aload_n 0, 37, 0), (37, .getfield 147, 40, 0), (40, .iload_n 3, 41, 0), (41, .dup2, 42, 0), (42, .iaload, 43, 0), (43, .iload 4, 45, 0), (45, .idiv, 46, 0), (46, .iastore, 47, 0)]
def pgb_235_0_b4 : List pg_R := [(47, .aload_n 0, 48, 0), (48, .getfield 150, 51, 0), (51, .iload_n 3, 52, 0), (52, .dup2, 53, 0), (53, .iaload, 54, 0), (54, .iload 4, 56, 0), (56, .idiv, 57, 0), (57, .iastore, 58, 0)]
def pgb_235_0_b5 : List pg_R := [(58, .iinc 2 1, 61, 0), (61, .goto (-59), 64, 2), (64, .lconst 1, 65, 0), (65, .lstore_n 2, 66, 0), (66, .lconst 0, 67, 0), (67, .lstore 4, 69, 0), (69, .iconst 0, 70, 0), (70, .istore 6, 72, 0)]
def pgb_235_0_b6 : List pg_R := [(72, .iload 6, 74, 0), (74, .aload_n 0, 75, 0), (75, .getfield 144, 78, 0), (78, .iload_n 1, 79, 0), (79, .iaload, 80, 0), (80, .if_icmp .ge 25, 83, 105), (83, .lload_n 2, 84, 0), (84, .aload_n 0, 85, 0)]
def pgb_235_0_b7 : List pg_R := [(85, .getfield 150, 88, 0), (88, .iload_n 1, 89, 0), (89, .bipush 6, 91, 0), (91, .imul, 92, 0)]
def pgB_235_0 : pg_Bk := [(12, pgb_235_0_b0), (23, pgb_235_0_b1), (36, pgb_235_0_b2), (47, pgb_235_0_b3), (58, pgb_235_0_b4), (72, pgb_235_0_b5), (85, pgb_235_0_b6), (92, pgb_235_0_b7)]
set_option maxRecDepth 20000 in
theorem pgc_235_0 : pgB_235_0.all (fun q => q.2.all (pg_ok (pg_cc 235))) = true := by decide +kernel
/-- MarkovDeskModel.isOne(I)Z -/
def pgb_235_1_b0 : List pg_R := [(92, .iload 6, 94, 0), (94, .iadd, 95, 0), (95, .iaload, 96, 0), (96, .i2l, 97, 0), (97, .lmul, 98, 0), (98, .lstore_n 2, 99, 0), (99, .iinc 6 1, 102, 0), (102, .goto (-30), 105, 72)]
def pgb_235_1_b1 : List pg_R := [(105, .iconst 0, 106, 0), (106, .istore 6, 108, 0), (108, .iload 6, 110, 0), (110, .aload_n 0, 111, 0), (111, .getfield 144, 114, 0), (114, .iload_n 1, 115, 0), (115, .iaload, 116, 0), (116, .if_icmp .ge 43, 119, 159)]
def pgb_235_1_b2 : List pg_R := [(119, .lload 4, 121, 0), (121, .lload_n 2, 122, 0), (122, .aload_n 0, 123, 0), (123, .getfield 150, 126, 0), (126, .iload_n 1, 127, 0), (127, .bipush 6, 129, 0), (129, .imul, 130, 0), (130, .iload 6, 132, 0)]
def pgb_235_1_b3 : List pg_R := [(132, .iadd, 133, 0), (133, .iaload, 134, 0), (134, .i2l, 135, 0), (135, .ldiv, 136, 0), (136, .aload_n 0, 137, 0), (137, .getfield 147, 140, 0), (140, .iload_n 1, 141, 0), (141, .bipush 6, 143, 0)]
def pgb_235_1_b4 : List pg_R := [(143, .imul, 144, 0), (144, .iload 6, 146, 0), (146, .iadd, 147, 0), (147, .iaload, 148, 0), (148, .i2l, 149, 0), (149, .lmul, 150, 0), (150, .ladd, 151, 0), (151, .lstore 4, 153, 0)]
def pgb_235_1_b5 : List pg_R := [(153, .iinc 6 1, 156, 0), (156, .goto (-48), 159, 108), (159, .lload 4, 161, 0), (161, .lload_n 2, 162, 0), (162, .lcmp, 163, 0), (163, .ifCond .ne 7, 166, 170), (166, .iconst 1, 167, 0), (167, .goto 4, 170, 171)]
def pgb_235_1_b6 : List pg_R := [(170, .iconst 0, 171, 0), (171, .ireturn, 172, 0)]
def pgB_235_1 : pg_Bk := [(105, pgb_235_1_b0), (119, pgb_235_1_b1), (132, pgb_235_1_b2), (143, pgb_235_1_b3), (153, pgb_235_1_b4), (170, pgb_235_1_b5), (172, pgb_235_1_b6)]
set_option maxRecDepth 20000 in
theorem pgc_235_1 : pgB_235_1.all (fun q => q.2.all (pg_ok (pg_cc 235))) = true := by decide +kernel
def pgB_235 : pg_Bk := pgB_235_0 ++ (pgB_235_1)
theorem pgc_235 : pgB_235.all (fun q => q.2.all (pg_ok (pg_cc 235))) = true := pg_all2 pgc_235_0 (pgc_235_1)
/-- MarkovDeskModel.divisor(II)I -/
def pgb_236_b0 : List pg_R := [(0, .iload_n 0, 1, 0), (1, .istore_n 2, 2, 0), (2, .iload_n 1, 3, 0), (3, .istore_n 3, 4, 0), (4, .iload_n 3, 5, 0), (5, .ifCond .eq 16, 8, 21), (8, .iload_n 2, 9, 0), (9, .iload_n 3, 10, 0)]
def pgb_236_b1 : List pg_R := [(10, .irem, 11, 0), (11, .istore 4, 13, 0), (13, .iload_n 3, 14, 0), (14, .istore_n 2, 15, 0), (15, .iload 4, 17, 0), (17, .istore_n 3, 18, 0), (18, .goto (-14), 21, 4), (21, .iload_n 2, 22, 0)]
def pgb_236_b2 : List pg_R := [(22, .ireturn, 23, 0)]
def pgB_236 : pg_Bk := [(10, pgb_236_b0), (22, pgb_236_b1), (23, pgb_236_b2)]
set_option maxRecDepth 20000 in
theorem pgc_236 : pgB_236.all (fun q => q.2.all (pg_ok (pg_cc 236))) = true := by decide +kernel
/-- MarkovDeskModel.explore()I -/
def pgb_237_0_b0 : List pg_R := [(0, .aload_n 0, 1, 0), (1, .iconst 0, 2, 0), (2, .putfield 339, 5, 0), (5, .aload_n 0, 6, 0), (6, .aload_n 0, 7, 0), (7, .getfield 349, 10, 0), (10, .ifCond .ne 7, 13, 17), (13, .iconst 1, 14, 0)]
def pgb_237_0_b1 : List pg_R := [(14, .goto 4, 17, 18), (17, .iconst 0, 18, 0), (18, .iconst 1, 19, 0), (19, .invokevirtual 345, 22, 0), (22, .ifCond .eq 5, 25, 27), (25, .iconst 0, 26, 0), (26, .ireturn, 27, 0), (27, .aload_n 0, 28, 0)]
def pgb_237_0_b2 : List pg_R := [(28, .iconst 0, 29, 0), (29, .putfield 353, 32, 0), (32, .aload_n 0, 33, 0), (33, .iconst 1, 34, 0), (34, .putfield 555, 37, 0), (37, .aload_n 0, 38, 0), (38, .iconst 0, 39, 0), (39, .putfield 558, 42, 0)]
def pgb_237_0_b3 : List pg_R := [(42, .aload_n 0, 43, 0), (43, .iconst 0, 44, 0), (44, .putfield 561, 47, 0), (47, .aload_n 0, 48, 0), (48, .iconst 0, 49, 0), (49, .putfield 564, 52, 0), (52, .iconst 0, 53, 0), (53, .istore_n 1, 54, 0)]
def pgb_237_0_b4 : List pg_R := [(54, .iload_n 1, 55, 0), (55, .aload_n 0, 56, 0), (56, .getfield 493, 59, 0), (59, .if_icmp .ge 21, 62, 80), (62, .aload_n 0, 63, 0), (63, .getfield 169, 66, 0), (66, .iload_n 1, 67, 0), (67, .aload_n 0, 68, 0)]
def pgb_237_0_b5 : List pg_R := [(68, .getfield 132, 71, 0), (71, .iload_n 1, 72, 0), (72, .iaload, 73, 0), (73, .iastore, 74, 0), (74, .iinc 1 1, 77, 0), (77, .goto (-23), 80, 54), (80, .iconst 0, 81, 0), (81, .istore_n 1, 82, 0)]
def pgb_237_0_b6 : List pg_R := [(82, .iload_n 1, 83, 0), (83, .aload_n 0, 84, 0), (84, .getfield 555, 87, 0), (87, .if_icmp .ge 21, 90, 108), (90, .aload_n 0, 91, 0), (91, .getfield 564, 94, 0), (94, .ifCond .ne 14, 97, 108), (97, .aload_n 0, 98, 0)]
def pgb_237_0_b7 : List pg_R := [(98, .iload_n 1, 99, 0), (99, .invokevirtual 567, 102, 0), (102, .iinc 1 1, 105, 0), (105, .goto (-23), 108, 82)]
def pgB_237_0 : pg_Bk := [(14, pgb_237_0_b0), (28, pgb_237_0_b1), (42, pgb_237_0_b2), (54, pgb_237_0_b3), (68, pgb_237_0_b4), (82, pgb_237_0_b5), (98, pgb_237_0_b6), (106, pgb_237_0_b7)]
set_option maxRecDepth 20000 in
theorem pgc_237_0 : pgB_237_0.all (fun q => q.2.all (pg_ok (pg_cc 237))) = true := by decide +kernel
/-- MarkovDeskModel.explore()I -/
def pgb_237_1_b0 : List pg_R := [(108, .aload_n 0, 109, 0), (109, .aload_n 0, 110, 0), (110, .getfield 564, 113, 0), (113, .ifCond .le 7, 116, 120), (116, .iconst 1, 117, 0), (117, .goto 4, 120, 121), (120, .iconst 0, 121, 0), (121, .aload_n 0, 122, 0)]
def pgb_237_1_b1 : List pg_R := [(122, .getfield 564, 125, 0), (125, .invokevirtual 345, 128, 0), (128, .ifCond .eq 5, 131, 133), (131, .iconst 0, 132, 0), (132, .ireturn, 133, 0), (133, .aload_n 0, 134, 0), (134, .getfield 172, 137, 0), (137, .aload_n 0, 138, 0)]
def pgb_237_1_b2 : List pg_R := [(138, .getfield 555, 141, 0), (141, .aload_n 0, 142, 0), (142, .getfield 558, 145, 0), (145, .iastore, 146, 0), (146, .aload_n 0, 147, 0), (147, .getfield 175, 150, 0), (150, .aload_n 0, 151, 0), (151, .getfield 558, 154, 0)]
def pgb_237_1_b3 : List pg_R := [(154, .aload_n 0, 155, 0), (155, .getfield 561, 158, 0), (158, .iastore, 159, 0), (159, .aload_n 0, 160, 0), (160, .iconst 1, 161, 0), (161, .putfield 353, 164, 0), (164, .iconst 0, 165, 0), (165, .istore_n 1, 166, 0)]
def pgb_237_1_b4 : List pg_R := [(166, .iload_n 1, 167, 0), (167, .iconst 2, 168, 0), (168, .if_icmp .ge 23, 171, 191), (171, .aload_n 0, 172, 0), (172, .getfield 242, 175, 0), (175, .iload_n 1, 176, 0), (176, .iconst 0, 177, 0), (177, .bastore, 178, 0)]
def pgb_237_1_b5 : List pg_R := [(178, .aload_n 0, 179, 0), (179, .getfield 245, 182, 0), (182, .iload_n 1, 183, 0), (183, .iconst 0, 184, 0), (184, .bastore, 185, 0), (185, .iinc 1 1, 188, 0), (188, .goto (-22), 191, 166), (191, .iconst 0, 192, 0)]
def pgb_237_1_b6 : List pg_R := [(192, .istore_n 1, 193, 0), (193, .iload_n 1, 194, 0), (194, .bipush 24, 196, 0), (196, .if_icmp .ge 28, 199, 224), (199, .aload_n 0, 200, 0), (200, .getfield 282, 203, 0), (203, .iload_n 1, 204, 0), (204, .aaload, 205, 0)]
def pgb_237_1_b7 : List pg_R := [(205, .iconst 0, 206, 0), (206, .putfield 570, 209, 0), (209, .aload_n 0, 210, 0), (210, .getfield 285, 213, 0)]
def pgB_237_1 : pg_Bk := [(122, pgb_237_1_b0), (138, pgb_237_1_b1), (154, pgb_237_1_b2), (166, pgb_237_1_b3), (178, pgb_237_1_b4), (192, pgb_237_1_b5), (205, pgb_237_1_b6), (211, pgb_237_1_b7)]
set_option maxRecDepth 20000 in
theorem pgc_237_1 : pgB_237_1.all (fun q => q.2.all (pg_ok (pg_cc 237))) = true := by decide +kernel
/-- MarkovDeskModel.explore()I -/
def pgb_237_2_b0 : List pg_R := [(213, .iload_n 1, 214, 0), (214, .aaload, 215, 0), (215, .invokevirtual 573, 218, 0), (218, .iinc 1 1, 221, 0), (221, .goto (-28), 224, 193), (224, .aload_n 0, 225, 0), (225, .getfield 555, 228, 0), (228, .ireturn, 229, 0)]
def pgB_237_2 : pg_Bk := [(229, pgb_237_2_b0)]
set_option maxRecDepth 20000 in
theorem pgc_237_2 : pgB_237_2.all (fun q => q.2.all (pg_ok (pg_cc 237))) = true := by decide +kernel
def pgB_237 : pg_Bk := pgB_237_0 ++ (pgB_237_1 ++ (pgB_237_2))
theorem pgc_237 : pgB_237.all (fun q => q.2.all (pg_ok (pg_cc 237))) = true := pg_all2 pgc_237_0 (pg_all2 pgc_237_1 (pgc_237_2))
/-- MarkovDeskModel.lookAt(I)V -/
def pgb_238_0_b0 : List pg_R := [(0, .iconst 0, 1, 0), (1, .istore_n 2, 2, 0), (2, .iload_n 2, 3, 0), (3, .aload_n 0, 4, 0), (4, .getfield 493, 7, 0), (7, .if_icmp .ge 26, 10, 33), (10, .aload_n 0, 11, 0), (11, .getfield 166, 14, 0)]
def pgb_238_0_b1 : List pg_R := [(14, .iload_n 2, 15, 0), (15, .aload_n 0, 16, 0), (16, .getfield 169, 19, 0), (19, .bipush 8, 21, 0), (21, .iload_n 1, 22, 0), (22, .imul, 23, 0), (23, .iload_n 2, 24, 0), (24, .iadd, 25, 0)]
def pgb_238_0_b2 : List pg_R := [(25, .iaload, 26, 0), (26, .iastore, 27, 0), (27, .iinc 2 1, 30, 0), (30, .goto (-28), 33, 2), (33, .iconst 0, 34, 0), (34, .istore_n 2, 35, 0), (35, .iload_n 2, 36, 0), (36, .aload_n 0, 37, 0)]
def pgb_238_0_b3 : List pg_R := [(37, .getfield 499, 40, 0), (40, .if_icmp .ge 53, 43, 93), (43, .aload_n 0, 44, 0), (44, .getfield 564, 47, 0), (47, .ifCond .ne 46, 50, 93), (50, .aload_n 0, 51, 0), (51, .getfield 196, 54, 0), (54, .iload_n 2, 55, 0)]
def pgb_238_0_b4 : List pg_R := [(55, .aload_n 0, 56, 0), (56, .aload_n 0, 57, 0), (57, .getfield 141, 60, 0), (60, .iload_n 2, 61, 0), (61, .iaload, 62, 0), (62, .invokevirtual 522, 65, 0), (65, .iconst 1, 66, 0), (66, .if_icmp .ne 7, 69, 73)]
def pgb_238_0_b5 : List pg_R := [(69, .iconst 1, 70, 0), (70, .goto 4, 73, 74), (73, .iconst 0, 74, 0), (74, .bastore, 75, 0), (75, .aload_n 0, 76, 0), (76, .getfield 482, 79, 0), (79, .ifCond .eq 8, 82, 87), (82, .aload_n 0, 83, 0)]
def pgb_238_0_b6 : List pg_R := [(83, .iconst 2, 84, 0), (84, .putfield 564, 87, 0), (87, .iinc 2 1, 90, 0), (90, .goto (-55), 93, 35), (93, .aload_n 0, 94, 0), (94, .getfield 564, 97, 0), (97, .ifCond .le 4, 100, 101), (100, .return_, 101, 0)]
def pgb_238_0_b7 : List pg_R := [(101, .aload_n 0, 102, 0), (102, .getfield 193, 105, 0), (105, .iload_n 1, 106, 0), (106, .aload_n 0, 107, 0)]
def pgB_238_0 : pg_Bk := [(14, pgb_238_0_b0), (25, pgb_238_0_b1), (37, pgb_238_0_b2), (55, pgb_238_0_b3), (69, pgb_238_0_b4), (83, pgb_238_0_b5), (101, pgb_238_0_b6), (107, pgb_238_0_b7)]
set_option maxRecDepth 20000 in
theorem pgc_238_0 : pgB_238_0.all (fun q => q.2.all (pg_ok (pg_cc 238))) = true := by decide +kernel
/-- MarkovDeskModel.lookAt(I)V -/
def pgb_238_1_b0 : List pg_R := [(107, .aload_n 0, 108, 0), (108, .getfield 517, 111, 0), (111, .invokevirtual 522, 114, 0), (114, .iconst 1, 115, 0), (115, .if_icmp .ne 7, 118, 122), (118, .iconst 1, 119, 0), (119, .goto 4, 122, 123), (122, .iconst 0, 123, 0)]
def pgb_238_1_b1 : List pg_R := [(123, .bastore, 124, 0), (124, .aload_n 0, 125, 0), (125, .getfield 482, 128, 0), (128, .ifCond .eq 9, 131, 137), (131, .aload_n 0, 132, 0), (132, .iconst 2, 133, 0), (133, .putfield 564, 136, 0), (136, .return_, 137, 0)]
def pgb_238_1_b2 : List pg_R := [(137, .aload_n 0, 138, 0), (138, .getfield 172, 141, 0), (141, .iload_n 1, 142, 0), (142, .aload_n 0, 143, 0), (143, .getfield 558, 146, 0), (146, .iastore, 147, 0), (147, .iconst 0, 148, 0), (148, .istore_n 2, 149, 0)]
def pgb_238_1_b3 : List pg_R := [(149, .iload_n 2, 150, 0), (150, .aload_n 0, 151, 0), (151, .getfield 499, 154, 0), (154, .if_icmp .ge 49, 157, 203), (157, .aload_n 0, 158, 0), (158, .getfield 564, 161, 0), (161, .ifCond .ne 42, 164, 203), (164, .aload_n 0, 165, 0)]
def pgb_238_1_b4 : List pg_R := [(165, .getfield 196, 168, 0), (168, .iload_n 2, 169, 0), (169, .baload, 170, 0), (170, .ifCond .eq 27, 173, 197), (173, .aload_n 0, 174, 0), (174, .getfield 138, 177, 0), (177, .iload_n 2, 178, 0), (178, .iaload, 179, 0)]
def pgb_238_1_b5 : List pg_R := [(179, .ifCond .lt 6, 182, 185), (182, .goto 15, 185, 197), (185, .aload_n 0, 186, 0), (186, .getfield 184, 189, 0), (189, .iconst 0, 190, 0), (190, .iload_n 2, 191, 0), (191, .iastore, 192, 0), (192, .aload_n 0, 193, 0)]
def pgb_238_1_b6 : List pg_R := [(193, .iconst 1, 194, 0), (194, .invokevirtual 576, 197, 0), (197, .iinc 2 1, 200, 0), (200, .goto (-51), 203, 149), (203, .iconst 0, 204, 0), (204, .istore_n 2, 205, 0), (205, .iload_n 2, 206, 0), (206, .aload_n 0, 207, 0)]
def pgb_238_1_b7 : List pg_R := [(207, .getfield 502, 210, 0), (210, .if_icmp .ge 21, 213, 231), (213, .aload_n 0, 214, 0), (214, .getfield 564, 217, 0)]
def pgB_238_1 : pg_Bk := [(123, pgb_238_1_b0), (137, pgb_238_1_b1), (149, pgb_238_1_b2), (165, pgb_238_1_b3), (179, pgb_238_1_b4), (193, pgb_238_1_b5), (207, pgb_238_1_b6), (215, pgb_238_1_b7)]
set_option maxRecDepth 20000 in
theorem pgc_238_1 : pgB_238_1.all (fun q => q.2.all (pg_ok (pg_cc 238))) = true := by decide +kernel
/-- MarkovDeskModel.lookAt(I)V -/
def pgb_238_2_b0 : List pg_R := [(217, .ifCond .ne 14, 220, 231), (220, .aload_n 0, 221, 0), (221, .iload_n 2, 222, 0), (222, .invokevirtual 579, 225, 0), (225, .iinc 2 1, 228, 0), (228, .goto (-23), 231, 205), (231, .aload_n 0, 232, 0), (232, .getfield 564, 235, 0)]
def pgb_238_2_b1 : List pg_R := [(235, .ifCond .gt 16, 238, 251), (238, .aload_n 0, 239, 0), (239, .getfield 558, 242, 0), (242, .aload_n 0, 243, 0), (243, .getfield 172, 246, 0), (246, .iload_n 1, 247, 0), (247, .iaload, 248, 0), (248, .if_icmp .le 4, 251, 252)]
def pgb_238_2_b2 : List pg_R := [(251, .return_, 252, 0), (252, .aload_n 0, 253, 0), (253, .invokevirtual 582, 256, 0), (256, .ifCond .ne 4, 259, 260), (259, .return_, 260, 0), (260, .aload_n 0, 261, 0), (261, .getfield 178, 264, 0), (264, .aload_n 0, 265, 0)]
def pgb_238_2_b3 : List pg_R := [(265, .getfield 561, 268, 0), (268, .iload_n 1, 269, 0), (269, .iastore, 270, 0), (270, .iconst 0, 271, 0), (271, .istore_n 2, 272, 0), (272, .iload_n 2, 273, 0), (273, .bipush 20, 275, 0), (275, .if_icmp .ge 55, 278, 330)]
def pgb_238_2_b4 : List pg_R := [(278, .aload_n 0, 279, 0), (279, .getfield 200, 282, 0), (282, .aload_n 0, 283, 0), (283, .getfield 561, 286, 0), (286, .bipush 20, 288, 0), (288, .imul, 289, 0), (289, .iload_n 2, 290, 0), (290, .iadd, 291, 0)]
def pgb_238_2_b5 : List pg_R := [(291, .iload_n 2, 292, 0), (292, .ifCond .ne 7, 295, 299), (295, .iconst 1, 296, 0), (296, .goto 4, 299, 300), (299, .iconst 0, 300, 0), (300, .iastore, 301, 0), (301, .aload_n 0, 302, 0), (302, .getfield 203, 305, 0)]
def pgb_238_2_b6 : List pg_R := [(305, .aload_n 0, 306, 0), (306, .getfield 561, 309, 0), (309, .bipush 20, 311, 0), (311, .imul, 312, 0), (312, .iload_n 2, 313, 0), (313, .iadd, 314, 0), (314, .iload_n 2, 315, 0), (315, .ifCond .ne 7, 318, 322)]
def pgb_238_2_b7 : List pg_R := [(318, .iconst 1, 319, 0), (319, .goto 4, 322, 323), (322, .iconst 0, 323, 0), (323, .iastore, 324, 0)]
def pgB_238_2 : pg_Bk := [(235, pgb_238_2_b0), (251, pgb_238_2_b1), (265, pgb_238_2_b2), (278, pgb_238_2_b3), (291, pgb_238_2_b4), (305, pgb_238_2_b5), (318, pgb_238_2_b6), (324, pgb_238_2_b7)]
set_option maxRecDepth 20000 in
theorem pgc_238_2 : pgB_238_2.all (fun q => q.2.all (pg_ok (pg_cc 238))) = true := by decide +kernel
/-- MarkovDeskModel.lookAt(I)V -/
def pgb_238_3_b0 : List pg_R := [(324, .iinc 2 1, 327, 0), (327, .goto (-55), 330, 272), (330, .aload_n 0, 331, 0), (331, .dup, 332, 0), (332, .getfield 561, 335, 0), (335, .iconst 1, 336, 0), (336, .iadd, 337, 0), (337, .putfield 561, 340, 0)]
def pgb_238_3_b1 : List pg_R := [(340, .return_, 341, 0)]
def pgB_238_3 : pg_Bk := [(340, pgb_238_3_b0), (341, pgb_238_3_b1)]
set_option maxRecDepth 20000 in
theorem pgc_238_3 : pgB_238_3.all (fun q => q.2.all (pg_ok (pg_cc 238))) = true := by decide +kernel
def pgB_238 : pg_Bk := pgB_238_0 ++ (pgB_238_1 ++ (pgB_238_2 ++ (pgB_238_3)))
theorem pgc_238 : pgB_238.all (fun q => q.2.all (pg_ok (pg_cc 238))) = true := pg_all2 pgc_238_0 (pg_all2 pgc_238_1 (pg_all2 pgc_238_2 (pgc_238_3)))
/-- MarkovDeskModel.choice(I)V -/
def pgb_239_0_b0 : List pg_R := [(0, .aload_n 0, 1, 0), (1, .invokevirtual 582, 4, 0), (4, .ifCond .ne 4, 7, 8), (7, .return_, 8, 0), (8, .iconst 1, 9, 0), (9, .istore_n 2, 10, 0), (10, .iconst 0, 11, 0), (11, .istore_n 3, 12, 0)]
def pgb_239_0_b1 : List pg_R := [(12, .iload_n 3, 13, 0), (13, .iload_n 1, 14, 0), (14, .if_icmp .ge 30, 17, 44), (17, .iload_n 2, 18, 0), (18, .aload_n 0, 19, 0), (19, .getfield 144, 22, 0), (22, .aload_n 0, 23, 0), (23, .getfield 184, 26, 0)]
def pgb_239_0_b2 : List pg_R := [(26, .iload_n 3, 27, 0), (27, .iaload, 28, 0), (28, .iaload, 29, 0), (29, .imul, 30, 0), (30, .istore_n 2, 31, 0), (31, .aload_n 0, 32, 0), (32, .getfield 190, 35, 0), (35, .iload_n 3, 36, 0)]
def pgb_239_0_b3 : List pg_R := [(36, .iconst 0, 37, 0), (37, .iastore, 38, 0), (38, .iinc 3 1, 41, 0), (41, .goto (-29), 44, 12), (44, .iload_n 2, 45, 0), (45, .bipush 16, 47, 0), (47, .if_icmp .le 9, 50, 56), (50, .aload_n 0, 51, 0)]
def pgb_239_0_b4 : List pg_R := [(51, .iconst 3, 52, 0), (52, .putfield 564, 55, 0), (55, .return_, 56, 0), (56, .aload_n 0, 57, 0), (57, .getfield 561, 60, 0), (60, .istore_n 3, 61, 0), (61, .iconst 0, 62, 0), (62, .istore 4, 64, 0)]
def pgb_239_0_b5 : List pg_R := [(64, .iload 4, 66, 0), (66, .iload_n 2, 67, 0), (67, .if_icmp .ge 73, 70, 140), (70, .aload_n 0, 71, 0), (71, .getfield 564, 74, 0), (74, .ifCond .ne 66, 77, 140), (77, .aload_n 0, 78, 0), (78, .iload_n 1, 79, 0)]
def pgb_239_0_b6 : List pg_R := [(79, .iload_n 3, 80, 0), (80, .invokevirtual 588, 83, 0), (83, .iload_n 1, 84, 0), (84, .iconst 1, 85, 0), (85, .isub, 86, 0), (86, .istore 5, 88, 0), (88, .iload 5, 90, 0), (90, .ifCond .lt 44, 93, 134)]
def pgb_239_0_b7 : List pg_R := [(93, .aload_n 0, 94, 0), (94, .getfield 190, 97, 0), (97, .iload 5, 99, 0), (99, .dup2, 100, 0)]
def pgB_239_0 : pg_Bk := [(12, pgb_239_0_b0), (26, pgb_239_0_b1), (36, pgb_239_0_b2), (51, pgb_239_0_b3), (64, pgb_239_0_b4), (79, pgb_239_0_b5), (93, pgb_239_0_b6), (100, pgb_239_0_b7)]
set_option maxRecDepth 20000 in
theorem pgc_239_0 : pgB_239_0.all (fun q => q.2.all (pg_ok (pg_cc 239))) = true := by decide +kernel
/-- MarkovDeskModel.choice(I)V -/
def pgb_239_1_b0 : List pg_R := [(100, .iaload, 101, 0), (101, .iconst 1, 102, 0), (102, .iadd, 103, 0), (103, .dup_x2, 104, 0), (104, .iastore, 105, 0), (105, .aload_n 0, 106, 0), (106, .getfield 144, 109, 0), (109, .aload_n 0, 110, 0)]
def pgb_239_1_b1 : List pg_R := [(110, .getfield 184, 113, 0), (113, .iload 5, 115, 0), (115, .iaload, 116, 0), (116, .iaload, 117, 0), (117, .if_icmp .ne 17, 120, 134), (120, .aload_n 0, 121, 0), (121, .getfield 190, 124, 0), (124, .iload 5, 126, 0)]
def pgb_239_1_b2 : List pg_R := [(126, .iconst 0, 127, 0), (127, .iastore, 128, 0), (128, .iinc 5 (-1), 131, 0), (131, .goto (-43), 134, 88), (134, .iinc 4 1, 137, 0), (137, .goto (-73), 140, 64), (140, .return_, 141, 0)]
def pgB_239_1 : pg_Bk := [(110, pgb_239_1_b0), (126, pgb_239_1_b1), (141, pgb_239_1_b2)]
set_option maxRecDepth 20000 in
theorem pgc_239_1 : pgB_239_1.all (fun q => q.2.all (pg_ok (pg_cc 239))) = true := by decide +kernel
def pgB_239 : pg_Bk := pgB_239_0 ++ (pgB_239_1)
theorem pgc_239 : pgB_239.all (fun q => q.2.all (pg_ok (pg_cc 239))) = true := pg_all2 pgc_239_0 (pgc_239_1)
