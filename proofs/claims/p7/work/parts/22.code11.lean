/-- MarkovDeskModel.emit(II)I -/
def pgb_221_b0 : List pg_R := [(0, .aload_n 0, 1, 0), (1, .getfield 160, 4, 0), (4, .aload_n 0, 5, 0), (5, .dup, 6, 0), (6, .getfield 427, 9, 0), (9, .dup_x1, 10, 0), (10, .iconst 1, 11, 0), (11, .iadd, 12, 0)]
def pgb_221_b1 : List pg_R := [(12, .putfield 427, 15, 0), (15, .iload_n 1, 16, 0), (16, .iastore, 17, 0), (17, .aload_n 0, 18, 0), (18, .getfield 160, 21, 0), (21, .aload_n 0, 22, 0), (22, .dup, 23, 0), (23, .getfield 427, 26, 0)]
def pgb_221_b2 : List pg_R := [(26, .dup_x1, 27, 0), (27, .iconst 1, 28, 0), (28, .iadd, 29, 0), (29, .putfield 427, 32, 0), (32, .iload_n 2, 33, 0), (33, .iastore, 34, 0), (34, .aload_n 0, 35, 0), (35, .getfield 427, 38, 0)]
def pgb_221_b3 : List pg_R := [(38, .iconst 1, 39, 0), (39, .isub, 40, 0), (40, .ireturn, 41, 0)]
def pgB_221 : pg_Bk := [(12, pgb_221_b0), (26, pgb_221_b1), (38, pgb_221_b2), (41, pgb_221_b3)]
set_option maxRecDepth 20000 in
theorem pgc_221 : pgB_221.all (fun q => q.2.all (pg_ok (pg_cc 221))) = true := by decide +kernel
/-- MarkovDeskModel.intOf(II)I -/
def pgb_222_b0 : List pg_R := [(0, .iconst 0, 1, 0), (1, .istore_n 3, 2, 0), (2, .iload_n 1, 3, 0), (3, .istore 4, 5, 0), (5, .iload 4, 7, 0), (7, .iload_n 2, 8, 0), (8, .if_icmp .ge 25, 11, 33), (11, .bipush 10, 13, 0)]
def pgb_222_b1 : List pg_R := [(13, .iload_n 3, 14, 0), (14, .imul, 15, 0), (15, .aload_n 0, 16, 0), (16, .getfield 102, 19, 0), (19, .iload 4, 21, 0), (21, .iaload, 22, 0), (22, .iadd, 23, 0), (23, .bipush 48, 25, 0)]
def pgb_222_b2 : List pg_R := [(25, .isub, 26, 0), (26, .istore_n 3, 27, 0), (27, .iinc 4 1, 30, 0), (30, .goto (-25), 33, 5), (33, .iload_n 3, 34, 0), (34, .ireturn, 35, 0)]
def pgB_222 : pg_Bk := [(13, pgb_222_b0), (25, pgb_222_b1), (35, pgb_222_b2)]
set_option maxRecDepth 20000 in
theorem pgc_222 : pgB_222.all (fun q => q.2.all (pg_ok (pg_cc 222))) = true := by decide +kernel
/-- MarkovDeskModel.comparison()I -/
def pgb_223_b0 : List pg_R := [(0, .aload_n 0, 1, 0), (1, .ldc 53, 3, 0), (3, .invokevirtual 417, 6, 0), (6, .ifCond .eq 8, 9, 14), (9, .bipush 8, 11, 0), (11, .goto 74, 14, 85), (14, .aload_n 0, 15, 0), (15, .ldc 47, 17, 0)]
def pgb_223_b1 : List pg_R := [(17, .invokevirtual 417, 20, 0), (20, .ifCond .eq 8, 23, 28), (23, .bipush 9, 25, 0), (25, .goto 60, 28, 85), (28, .aload_n 0, 29, 0), (29, .ldc 55, 31, 0), (31, .invokevirtual 417, 34, 0), (34, .ifCond .eq 8, 37, 42)]
def pgb_223_b2 : List pg_R := [(37, .bipush 10, 39, 0), (39, .goto 46, 42, 85), (42, .aload_n 0, 43, 0), (43, .ldc 49, 45, 0), (45, .invokevirtual 417, 48, 0), (48, .ifCond .eq 8, 51, 56), (51, .bipush 11, 53, 0), (53, .goto 32, 56, 85)]
def pgb_223_b3 : List pg_R := [(56, .aload_n 0, 57, 0), (57, .ldc 57, 59, 0), (59, .invokevirtual 417, 62, 0), (62, .ifCond .eq 8, 65, 70), (65, .bipush 12, 67, 0), (67, .goto 18, 70, 85), (70, .aload_n 0, 71, 0), (71, .ldc 51, 73, 0)]
def pgb_223_b4 : List pg_R := [(73, .invokevirtual 417, 76, 0), (76, .ifCond .eq 8, 79, 84), (79, .bipush 13, 81, 0), (81, .goto 4, 84, 85), (84, .iconst (-1), 85, 0), (85, .ireturn, 86, 0)]
def pgB_223 : pg_Bk := [(17, pgb_223_b0), (37, pgb_223_b1), (56, pgb_223_b2), (73, pgb_223_b3), (86, pgb_223_b4)]
set_option maxRecDepth 20000 in
theorem pgc_223 : pgB_223.all (fun q => q.2.all (pg_ok (pg_cc 223))) = true := by decide +kernel
/-- MarkovDeskModel.tell(I)I -/
def pgb_224_0_b0 : List pg_R := [(0, .iload_n 1, 1, 0), (1, .istore_n 2, 2, 0), (2, .iconst 0, 3, 0), (3, .istore_n 3, 4, 0), (4, .aload_n 0, 5, 0), (5, .iconst 0, 6, 0), (6, .putfield 482, 9, 0), (9, .aload_n 0, 10, 0)]
def pgb_224_0_b1 : List pg_R := [(10, .getfield 160, 13, 0), (13, .iload_n 2, 14, 0), (14, .iaload, 15, 0), (15, .bipush 21, 17, 0), (17, .if_icmp .eq 307, 20, 324), (20, .aload_n 0, 21, 0), (21, .getfield 482, 24, 0), (24, .ifCond .ne 300, 27, 324)]
def pgb_224_0_b2 : List pg_R := [(27, .aload_n 0, 28, 0), (28, .getfield 160, 31, 0), (31, .iload_n 2, 32, 0), (32, .iaload, 33, 0), (33, .istore 4, 35, 0), (35, .aload_n 0, 36, 0), (36, .getfield 160, 39, 0), (39, .iload_n 2, 40, 0)]
def pgb_224_0_b3 : List pg_R := [(40, .iconst 1, 41, 0), (41, .iadd, 42, 0), (42, .iaload, 43, 0), (43, .istore 5, 45, 0), (45, .iinc 2 2, 48, 0), (48, .iload 4, 50, 0), (50, .ifCond .ne 17, 53, 67), (53, .aload_n 0, 54, 0)]
def pgb_224_0_b4 : List pg_R := [(54, .getfield 163, 57, 0), (57, .iload_n 3, 58, 0), (58, .iinc 3 1, 61, 0), (61, .iload 5, 63, 0), (63, .iastore, 64, 0), (64, .goto 257, 67, 321), (67, .iload 4, 69, 0), (69, .iconst 1, 70, 0)]
def pgb_224_0_b5 : List pg_R := [(70, .if_icmp .ne 22, 73, 92), (73, .aload_n 0, 74, 0), (74, .getfield 163, 77, 0), (77, .iload_n 3, 78, 0), (78, .iinc 3 1, 81, 0), (81, .aload_n 0, 82, 0), (82, .getfield 166, 85, 0), (85, .iload 5, 87, 0)]
def pgb_224_0_b6 : List pg_R := [(87, .iaload, 88, 0), (88, .iastore, 89, 0), (89, .goto 232, 92, 321), (92, .iload 4, 94, 0), (94, .bipush 14, 96, 0), (96, .if_icmp .ne 24, 99, 120), (99, .aload_n 0, 100, 0), (100, .getfield 163, 103, 0)]
def pgb_224_0_b7 : List pg_R := [(103, .iload_n 3, 104, 0), (104, .iconst 1, 105, 0), (105, .isub, 106, 0), (106, .iconst 1, 107, 0)]
def pgB_224_0 : pg_Bk := [(10, pgb_224_0_b0), (27, pgb_224_0_b1), (40, pgb_224_0_b2), (54, pgb_224_0_b3), (70, pgb_224_0_b4), (87, pgb_224_0_b5), (103, pgb_224_0_b6), (107, pgb_224_0_b7)]
set_option maxRecDepth 20000 in
theorem pgc_224_0 : pgB_224_0.all (fun q => q.2.all (pg_ok (pg_cc 224))) = true := by decide +kernel
/-- MarkovDeskModel.tell(I)I -/
def pgb_224_1_b0 : List pg_R := [(107, .aload_n 0, 108, 0), (108, .getfield 163, 111, 0), (111, .iload_n 3, 112, 0), (112, .iconst 1, 113, 0), (113, .isub, 114, 0), (114, .iaload, 115, 0), (115, .isub, 116, 0), (116, .iastore, 117, 0)]
def pgb_224_1_b1 : List pg_R := [(117, .goto 204, 120, 321), (120, .iload 4, 122, 0), (122, .bipush 15, 124, 0), (124, .if_icmp .ne 28, 127, 152), (127, .aload_n 0, 128, 0), (128, .getfield 163, 131, 0), (131, .iload_n 3, 132, 0), (132, .iconst 1, 133, 0)]
def pgb_224_1_b2 : List pg_R := [(133, .isub, 134, 0), (134, .aload_n 0, 135, 0), (135, .aload_n 0, 136, 0), (136, .getfield 163, 139, 0), (139, .iload_n 3, 140, 0), (140, .iconst 1, 141, 0), (141, .isub, 142, 0), (142, .iaload, 143, 0)]
def pgb_224_1_b3 : List pg_R := [(143, .i2l, 144, 0), (144, .lneg, 145, 0), (145, .invokevirtual 485, 148, 0), (148, .iastore, 149, 0), (149, .goto 172, 152, 321), (152, .iload 4, 154, 0), (154, .bipush 20, 156, 0), (156, .if_icmp .ne 9, 159, 165)]
def pgb_224_1_b4 : List pg_R := [(159, .iload 5, 161, 0), (161, .istore_n 2, 162, 0), (162, .goto 159, 165, 321), (165, .iload 4, 167, 0), (167, .bipush 16, 169, 0), (169, .if_icmp .ne 21, 172, 190), (172, .aload_n 0, 173, 0), (173, .getfield 163, 176, 0)]
def pgb_224_1_b5 : List pg_R := [(176, .iinc 3 (-1), 179, 0), (179, .iload_n 3, 180, 0), (180, .iaload, 181, 0), (181, .ifCond .ne 140, 184, 321), (184, .iload 5, 186, 0), (186, .istore_n 2, 187, 0), (187, .goto 134, 190, 321), (190, .iload 4, 192, 0)]
def pgb_224_1_b6 : List pg_R := [(192, .bipush 17, 194, 0), (194, .if_icmp .ne 26, 197, 220), (197, .aload_n 0, 198, 0), (198, .getfield 163, 201, 0), (201, .iload_n 3, 202, 0), (202, .iconst 1, 203, 0), (203, .isub, 204, 0), (204, .iaload, 205, 0)]
def pgb_224_1_b7 : List pg_R := [(205, .ifCond .ne 9, 208, 214), (208, .iload 5, 210, 0), (210, .istore_n 2, 211, 0), (211, .goto 110, 214, 321)]
def pgB_224_1 : pg_Bk := [(117, pgb_224_1_b0), (133, pgb_224_1_b1), (143, pgb_224_1_b2), (159, pgb_224_1_b3), (176, pgb_224_1_b4), (192, pgb_224_1_b5), (205, pgb_224_1_b6), (212, pgb_224_1_b7)]
set_option maxRecDepth 20000 in
theorem pgc_224_1 : pgB_224_1.all (fun q => q.2.all (pg_ok (pg_cc 224))) = true := by decide +kernel
/-- MarkovDeskModel.tell(I)I -/
def pgb_224_2_b0 : List pg_R := [(214, .iinc 3 (-1), 217, 0), (217, .goto 104, 220, 321), (220, .iload 4, 222, 0), (222, .bipush 18, 224, 0), (224, .if_icmp .ne 27, 227, 251), (227, .aload_n 0, 228, 0), (228, .getfield 163, 231, 0), (231, .iload_n 3, 232, 0)]
def pgb_224_2_b1 : List pg_R := [(232, .iconst 1, 233, 0), (233, .isub, 234, 0), (234, .iaload, 235, 0), (235, .iconst 1, 236, 0), (236, .if_icmp .ne 9, 239, 245), (239, .iload 5, 241, 0), (241, .istore_n 2, 242, 0), (242, .goto 79, 245, 321)]
def pgb_224_2_b2 : List pg_R := [(245, .iinc 3 (-1), 248, 0), (248, .goto 73, 251, 321), (251, .iload 4, 253, 0), (253, .bipush 19, 255, 0), (255, .if_icmp .ne 35, 258, 290), (258, .aload_n 0, 259, 0), (259, .getfield 163, 262, 0), (262, .iload_n 3, 263, 0)]
def pgb_224_2_b3 : List pg_R := [(263, .iconst 1, 264, 0), (264, .isub, 265, 0), (265, .iaload, 266, 0), (266, .ifCond .ne 18, 269, 284), (269, .aload_n 0, 270, 0), (270, .getfield 163, 273, 0), (273, .iload_n 3, 274, 0), (274, .iconst 1, 275, 0)]
def pgb_224_2_b4 : List pg_R := [(275, .isub, 276, 0), (276, .iconst 1, 277, 0), (277, .iastore, 278, 0), (278, .iload 5, 280, 0), (280, .istore_n 2, 281, 0), (281, .goto 40, 284, 321), (284, .iinc 3 (-1), 287, 0), (287, .goto 34, 290, 321)]
def pgb_224_2_b5 : List pg_R := [(290, .iinc 3 (-1), 293, 0), (293, .aload_n 0, 294, 0), (294, .getfield 163, 297, 0), (297, .iload_n 3, 298, 0), (298, .iconst 1, 299, 0), (299, .isub, 300, 0), (300, .aload_n 0, 301, 0), (301, .iload 4, 303, 0)]
def pgb_224_2_b6 : List pg_R := [(303, .aload_n 0, 304, 0), (304, .getfield 163, 307, 0), (307, .iload_n 3, 308, 0), (308, .iconst 1, 309, 0), (309, .isub, 310, 0), (310, .iaload, 311, 0), (311, .aload_n 0, 312, 0), (312, .getfield 163, 315, 0)]
def pgb_224_2_b7 : List pg_R := [(315, .iload_n 3, 316, 0), (316, .iaload, 317, 0), (317, .invokevirtual 489, 320, 0), (320, .iastore, 321, 0)]
def pgB_224_2 : pg_Bk := [(232, pgb_224_2_b0), (245, pgb_224_2_b1), (263, pgb_224_2_b2), (275, pgb_224_2_b3), (290, pgb_224_2_b4), (303, pgb_224_2_b5), (315, pgb_224_2_b6), (321, pgb_224_2_b7)]
set_option maxRecDepth 20000 in
theorem pgc_224_2 : pgB_224_2.all (fun q => q.2.all (pg_ok (pg_cc 224))) = true := by decide +kernel
/-- MarkovDeskModel.tell(I)I -/
def pgb_224_3_b0 : List pg_R := [(321, .goto (-312), 324, 9), (324, .aload_n 0, 325, 0), (325, .getfield 482, 328, 0), (328, .ifCond .eq 7, 331, 335), (331, .iconst 0, 332, 0), (332, .goto 9, 335, 341), (335, .aload_n 0, 336, 0), (336, .getfield 163, 339, 0)]
def pgb_224_3_b1 : List pg_R := [(339, .iconst 0, 340, 0), (340, .iaload, 341, 0), (341, .ireturn, 342, 0)]
def pgB_224_3 : pg_Bk := [(339, pgb_224_3_b0), (342, pgb_224_3_b1)]
set_option maxRecDepth 20000 in
theorem pgc_224_3 : pgB_224_3.all (fun q => q.2.all (pg_ok (pg_cc 224))) = true := by decide +kernel
def pgB_224 : pg_Bk := pgB_224_0 ++ (pgB_224_1 ++ (pgB_224_2 ++ (pgB_224_3)))
theorem pgc_224 : pgB_224.all (fun q => q.2.all (pg_ok (pg_cc 224))) = true := pg_all2 pgc_224_0 (pg_all2 pgc_224_1 (pg_all2 pgc_224_2 (pgc_224_3)))
/-- MarkovDeskModel.fit(J)I -/
def pgb_225_b0 : List pg_R := [(0, .lload_n 1, 1, 0), (1, .lload_n 1, 2, 0), (2, .l2i, 3, 0), (3, .i2l, 4, 0), (4, .lcmp, 5, 0), (5, .ifCond .eq 8, 8, 13), (8, .aload_n 0, 9, 0), (9, .iconst 1, 10, 0)]
def pgb_225_b1 : List pg_R := [(10, .putfield 482, 13, 0), (13, .lload_n 1, 14, 0), (14, .l2i, 15, 0), (15, .ireturn, 16, 0)]
def pgB_225 : pg_Bk := [(10, pgb_225_b0), (16, pgb_225_b1)]
set_option maxRecDepth 20000 in
theorem pgc_225 : pgB_225.all (fun q => q.2.all (pg_ok (pg_cc 225))) = true := by decide +kernel
/-- MarkovDeskModel.two(III)I -/
def pgb_226_0_b0 : List pg_R := [(0, .iload_n 1, 1, 0), (1, .tableswitch 197 2 12 #[59, 69, 79, 89, 100, 111, 142, 153, 164, 175, 186], 60, 0), (60, .aload_n 0, 61, 0), (61, .iload_n 2, 62, 0), (62, .i2l, 63, 0), (63, .iload_n 3, 64, 0), (64, .i2l, 65, 0), (65, .ladd, 66, 0)]
def pgb_226_0_b1 : List pg_R := [(66, .invokevirtual 485, 69, 0), (69, .ireturn, 70, 0), (70, .aload_n 0, 71, 0), (71, .iload_n 2, 72, 0), (72, .i2l, 73, 0), (73, .iload_n 3, 74, 0), (74, .i2l, 75, 0), (75, .lsub, 76, 0)]
def pgb_226_0_b2 : List pg_R := [(76, .invokevirtual 485, 79, 0), (79, .ireturn, 80, 0), (80, .aload_n 0, 81, 0), (81, .iload_n 2, 82, 0), (82, .i2l, 83, 0), (83, .iload_n 3, 84, 0), (84, .i2l, 85, 0), (85, .lmul, 86, 0)]
def pgb_226_0_b3 : List pg_R := [(86, .invokevirtual 485, 89, 0), (89, .ireturn, 90, 0), (90, .iload_n 2, 91, 0), (91, .iload_n 3, 92, 0), (92, .if_icmp .ge 7, 95, 99), (95, .iload_n 2, 96, 0), (96, .goto 4, 99, 100), (99, .iload_n 3, 100, 0)]
def pgb_226_0_b4 : List pg_R := [(100, .ireturn, 101, 0), (101, .iload_n 2, 102, 0), (102, .iload_n 3, 103, 0), (103, .if_icmp .le 7, 106, 110), (106, .iload_n 2, 107, 0), (107, .goto 4, 110, 111), (110, .iload_n 3, 111, 0), (111, .ireturn, 112, 0)]
def pgb_226_0_b5 : List pg_R := [(112, .iload_n 3, 113, 0), (113, .ifCond .gt 10, 116, 123), (116, .aload_n 0, 117, 0), (117, .iconst 1, 118, 0), (118, .putfield 482, 121, 0), (121, .iconst 0, 122, 0), (122, .ireturn, 123, 0), (123, .iload_n 2, 124, 0)]
def pgb_226_0_b6 : List pg_R := [(124, .iload_n 3, 125, 0), (125, .irem, 126, 0), (126, .istore 4, 128, 0), (128, .iload 4, 130, 0), (130, .ifCond .ge 10, 133, 140), (133, .iload 4, 135, 0), (135, .iload_n 3, 136, 0), (136, .iadd, 137, 0)]
def pgb_226_0_b7 : List pg_R := [(137, .goto 5, 140, 142), (140, .iload 4, 142, 0), (142, .ireturn, 143, 0), (143, .iload_n 2, 144, 0)]
def pgB_226_0 : pg_Bk := [(66, pgb_226_0_b0), (76, pgb_226_0_b1), (86, pgb_226_0_b2), (100, pgb_226_0_b3), (112, pgb_226_0_b4), (124, pgb_226_0_b5), (137, pgb_226_0_b6), (144, pgb_226_0_b7)]
set_option maxRecDepth 20000 in
theorem pgc_226_0 : pgB_226_0.all (fun q => q.2.all (pg_ok (pg_cc 226))) = true := by decide +kernel
/-- MarkovDeskModel.two(III)I -/
def pgb_226_1_b0 : List pg_R := [(144, .iload_n 3, 145, 0), (145, .if_icmp .ne 7, 148, 152), (148, .iconst 1, 149, 0), (149, .goto 4, 152, 153), (152, .iconst 0, 153, 0), (153, .ireturn, 154, 0), (154, .iload_n 2, 155, 0), (155, .iload_n 3, 156, 0)]
def pgb_226_1_b1 : List pg_R := [(156, .if_icmp .eq 7, 159, 163), (159, .iconst 1, 160, 0), (160, .goto 4, 163, 164), (163, .iconst 0, 164, 0), (164, .ireturn, 165, 0), (165, .iload_n 2, 166, 0), (166, .iload_n 3, 167, 0), (167, .if_icmp .ge 7, 170, 174)]
def pgb_226_1_b2 : List pg_R := [(170, .iconst 1, 171, 0), (171, .goto 4, 174, 175), (174, .iconst 0, 175, 0), (175, .ireturn, 176, 0), (176, .iload_n 2, 177, 0), (177, .iload_n 3, 178, 0), (178, .if_icmp .gt 7, 181, 185), (181, .iconst 1, 182, 0)]
def pgb_226_1_b3 : List pg_R := [(182, .goto 4, 185, 186), (185, .iconst 0, 186, 0), (186, .ireturn, 187, 0), (187, .iload_n 2, 188, 0), (188, .iload_n 3, 189, 0), (189, .if_icmp .le 7, 192, 196), (192, .iconst 1, 193, 0), (193, .goto 4, 196, 197)]
def pgb_226_1_b4 : List pg_R := [(196, .iconst 0, 197, 0), (197, .ireturn, 198, 0), (198, .iload_n 2, 199, 0), (199, .iload_n 3, 200, 0), (200, .if_icmp .lt 7, 203, 207), (203, .iconst 1, 204, 0), (204, .goto 4, 207, 208), (207, .iconst 0, 208, 0)]
def pgb_226_1_b5 : List pg_R := [(208, .ireturn, 209, 0)]
def pgB_226_1 : pg_Bk := [(156, pgb_226_1_b0), (170, pgb_226_1_b1), (182, pgb_226_1_b2), (196, pgb_226_1_b3), (208, pgb_226_1_b4), (209, pgb_226_1_b5)]
set_option maxRecDepth 20000 in
theorem pgc_226_1 : pgB_226_1.all (fun q => q.2.all (pg_ok (pg_cc 226))) = true := by decide +kernel
def pgB_226 : pg_Bk := pgB_226_0 ++ (pgB_226_1)
theorem pgc_226 : pgB_226.all (fun q => q.2.all (pg_ok (pg_cc 226))) = true := pg_all2 pgc_226_0 (pgc_226_1)
/-- MarkovDeskModel.module()Z -/
def pgb_227_b0 : List pg_R := [(0, .aload_n 0, 1, 0), (1, .invokevirtual 377, 4, 0), (4, .ifCond .eq 10, 7, 14), (7, .aload_n 0, 8, 0), (8, .invokevirtual 519, 11, 0), (11, .ifCond .ne 5, 14, 16), (14, .iconst 0, 15, 0), (15, .ireturn, 16, 0)]
def pgb_227_b1 : List pg_R := [(16, .aload_n 0, 17, 0), (17, .iconst 2, 18, 0), (18, .aload_n 0, 19, 0), (19, .getfield 496, 22, 0), (22, .invokevirtual 525, 25, 0), (25, .aload_n 0, 26, 0), (26, .invokevirtual 377, 29, 0), (29, .ifCond .ne 5, 32, 34)]
def pgb_227_b2 : List pg_R := [(32, .iconst 0, 33, 0), (33, .ireturn, 34, 0), (34, .aload_n 0, 35, 0), (35, .iconst 0, 36, 0), (36, .putfield 479, 39, 0), (39, .aload_n 0, 40, 0), (40, .getfield 386, 43, 0), (43, .ifCond .ne 12, 46, 55)]
def pgb_227_b3 : List pg_R := [(46, .aload_n 0, 47, 0), (47, .invokevirtual 529, 50, 0), (50, .ifCond .ne (-11), 53, 39), (53, .iconst 0, 54, 0), (54, .ireturn, 55, 0), (55, .aload_n 0, 56, 0), (56, .iconst 1, 57, 0), (57, .putfield 479, 60, 0)]
def pgb_227_b4 : List pg_R := [(60, .aload_n 0, 61, 0), (61, .ldc 87, 63, 0), (63, .invokevirtual 417, 66, 0), (66, .ifCond .eq 12, 69, 78), (69, .aload_n 0, 70, 0), (70, .invokevirtual 532, 73, 0), (73, .ifCond .ne (-13), 76, 60), (76, .iconst 0, 77, 0)]
def pgb_227_b5 : List pg_R := [(77, .ireturn, 78, 0), (78, .aload_n 0, 79, 0), (79, .iconst 0, 80, 0), (80, .putfield 479, 83, 0), (83, .aload_n 0, 84, 0), (84, .dup, 85, 0), (85, .getfield 496, 88, 0), (88, .iconst 1, 89, 0)]
def pgb_227_b6 : List pg_R := [(89, .iadd, 90, 0), (90, .putfield 496, 93, 0), (93, .aload_n 0, 94, 0), (94, .ldc 19, 96, 0), (96, .invokevirtual 448, 99, 0), (99, .ireturn, 100, 0)]
def pgB_227 : pg_Bk := [(16, pgb_227_b0), (32, pgb_227_b1), (46, pgb_227_b2), (60, pgb_227_b3), (77, pgb_227_b4), (89, pgb_227_b5), (100, pgb_227_b6)]
set_option maxRecDepth 20000 in
theorem pgc_227 : pgB_227.all (fun q => q.2.all (pg_ok (pg_cc 227))) = true := by decide +kernel
/-- MarkovDeskModel.name(II)V -/
def pgb_228_b0 : List pg_R := [(0, .aload_n 0, 1, 0), (1, .getfield 105, 4, 0), (4, .aload_n 0, 5, 0), (5, .getfield 420, 8, 0), (8, .aload_n 0, 9, 0), (9, .getfield 383, 12, 0), (12, .iastore, 13, 0), (13, .aload_n 0, 14, 0)]
def pgb_228_b1 : List pg_R := [(14, .getfield 108, 17, 0), (17, .aload_n 0, 18, 0), (18, .getfield 420, 21, 0), (21, .aload_n 0, 22, 0), (22, .getfield 374, 25, 0), (25, .aload_n 0, 26, 0), (26, .getfield 383, 29, 0), (29, .isub, 30, 0)]
def pgb_228_b2 : List pg_R := [(30, .iastore, 31, 0), (31, .aload_n 0, 32, 0), (32, .getfield 111, 35, 0), (35, .aload_n 0, 36, 0), (36, .getfield 420, 39, 0), (39, .iload_n 1, 40, 0), (40, .iastore, 41, 0), (41, .aload_n 0, 42, 0)]
def pgb_228_b3 : List pg_R := [(42, .getfield 114, 45, 0), (45, .aload_n 0, 46, 0), (46, .dup, 47, 0), (47, .getfield 420, 50, 0), (50, .dup_x1, 51, 0), (51, .iconst 1, 52, 0), (52, .iadd, 53, 0), (53, .putfield 420, 56, 0)]
def pgb_228_b4 : List pg_R := [(56, .iload_n 2, 57, 0), (57, .iastore, 58, 0), (58, .return_, 59, 0)]
def pgB_228 : pg_Bk := [(14, pgb_228_b0), (30, pgb_228_b1), (42, pgb_228_b2), (56, pgb_228_b3), (59, pgb_228_b4)]
set_option maxRecDepth 20000 in
theorem pgc_228 : pgB_228.all (fun q => q.2.all (pg_ok (pg_cc 228))) = true := by decide +kernel
/-- MarkovDeskModel.variable()Z -/
def pgb_229_0_b0 : List pg_R := [(0, .aload_n 0, 1, 0), (1, .getfield 493, 4, 0), (4, .bipush 8, 6, 0), (6, .if_icmp .eq 10, 9, 16), (9, .aload_n 0, 10, 0), (10, .invokevirtual 519, 13, 0), (13, .ifCond .ne 12, 16, 25), (16, .aload_n 0, 17, 0)]
def pgb_229_0_b1 : List pg_R := [(17, .aload_n 0, 18, 0), (18, .getfield 383, 21, 0), (21, .invokevirtual 363, 24, 0), (24, .ireturn, 25, 0), (25, .aload_n 0, 26, 0), (26, .getfield 493, 29, 0), (29, .istore_n 1, 30, 0), (30, .aload_n 0, 31, 0)]
def pgb_229_0_b2 : List pg_R := [(31, .getfield 383, 34, 0), (34, .istore_n 2, 35, 0), (35, .aload_n 0, 36, 0), (36, .getfield 374, 39, 0), (39, .istore_n 3, 40, 0), (40, .aload_n 0, 41, 0), (41, .invokevirtual 377, 44, 0), (44, .ifCond .eq 12, 47, 56)]
def pgb_229_0_b3 : List pg_R := [(47, .aload_n 0, 48, 0), (48, .ldc 75, 50, 0), (50, .invokevirtual 448, 53, 0), (53, .ifCond .ne 5, 56, 58), (56, .iconst 0, 57, 0), (57, .ireturn, 58, 0), (58, .aload_n 0, 59, 0), (59, .getfield 123, 62, 0)]
def pgb_229_0_b4 : List pg_R := [(62, .iload_n 1, 63, 0), (63, .aload_n 0, 64, 0), (64, .getfield 496, 67, 0), (67, .iastore, 68, 0), (68, .aload_n 0, 69, 0), (69, .getfield 156, 72, 0), (72, .iload_n 1, 73, 0), (73, .aload_n 0, 74, 0)]
def pgb_229_0_b5 : List pg_R := [(74, .ldc 15, 76, 0), (76, .invokevirtual 417, 79, 0), (79, .bastore, 80, 0), (80, .aload_n 0, 81, 0), (81, .getfield 126, 84, 0), (84, .iload_n 1, 85, 0), (85, .iconst 0, 86, 0), (86, .iastore, 87, 0)]
def pgb_229_0_b6 : List pg_R := [(87, .aload_n 0, 88, 0), (88, .getfield 129, 91, 0), (91, .iload_n 1, 92, 0), (92, .iconst 1, 93, 0), (93, .iastore, 94, 0), (94, .aload_n 0, 95, 0), (95, .getfield 156, 98, 0), (98, .iload_n 1, 99, 0)]
def pgb_229_0_b7 : List pg_R := [(99, .baload, 100, 0), (100, .ifCond .eq 12, 103, 112), (103, .aload_n 0, 104, 0), (104, .invokevirtual 377, 107, 0)]
def pgB_229_0 : pg_Bk := [(17, pgb_229_0_b0), (31, pgb_229_0_b1), (47, pgb_229_0_b2), (62, pgb_229_0_b3), (74, pgb_229_0_b4), (87, pgb_229_0_b5), (99, pgb_229_0_b6), (105, pgb_229_0_b7)]
set_option maxRecDepth 20000 in
theorem pgc_229_0 : pgB_229_0.all (fun q => q.2.all (pg_ok (pg_cc 229))) = true := by decide +kernel
/-- MarkovDeskModel.variable()Z -/
def pgb_229_1_b0 : List pg_R := [(107, .ifCond .ne 15, 110, 122), (110, .iconst 0, 111, 0), (111, .ireturn, 112, 0), (112, .aload_n 0, 113, 0), (113, .iload_n 1, 114, 0), (114, .invokevirtual 535, 117, 0), (117, .ifCond .ne 5, 120, 122), (120, .iconst 0, 121, 0)]
def pgb_229_1_b1 : List pg_R := [(121, .ireturn, 122, 0), (122, .aload_n 0, 123, 0), (123, .getfield 132, 126, 0), (126, .iload_n 1, 127, 0), (127, .aload_n 0, 128, 0), (128, .getfield 126, 131, 0), (131, .iload_n 1, 132, 0), (132, .iaload, 133, 0)]
def pgb_229_1_b2 : List pg_R := [(133, .iastore, 134, 0), (134, .aload_n 0, 135, 0), (135, .ldc 21, 137, 0), (137, .invokevirtual 417, 140, 0), (140, .ifCond .eq 105, 143, 245), (143, .aload_n 0, 144, 0), (144, .invokevirtual 377, 147, 0), (147, .ifCond .ne 5, 150, 152)]
def pgb_229_1_b3 : List pg_R := [(150, .iconst 0, 151, 0), (151, .ireturn, 152, 0), (152, .aload_n 0, 153, 0), (153, .aload_n 0, 154, 0), (154, .getfield 156, 157, 0), (157, .iload_n 1, 158, 0), (158, .baload, 159, 0), (159, .invokevirtual 513, 162, 0)]
def pgb_229_1_b4 : List pg_R := [(162, .istore 4, 164, 0), (164, .iload 4, 166, 0), (166, .ifCond .lt 12, 169, 178), (169, .aload_n 0, 170, 0), (170, .ldc 77, 172, 0), (172, .invokevirtual 417, 175, 0), (175, .ifCond .ne 12, 178, 187), (178, .aload_n 0, 179, 0)]
def pgb_229_1_b5 : List pg_R := [(179, .aload_n 0, 180, 0), (180, .getfield 383, 183, 0), (183, .invokevirtual 363, 186, 0), (186, .ireturn, 187, 0), (187, .aload_n 0, 188, 0), (188, .getfield 132, 191, 0), (191, .iload_n 1, 192, 0), (192, .aload_n 0, 193, 0)]
def pgb_229_1_b6 : List pg_R := [(193, .iload 4, 195, 0), (195, .invokevirtual 522, 198, 0), (198, .iastore, 199, 0), (199, .aload_n 0, 200, 0), (200, .getfield 482, 203, 0), (203, .ifCond .ne 33, 206, 236), (206, .aload_n 0, 207, 0), (207, .getfield 132, 210, 0)]
def pgb_229_1_b7 : List pg_R := [(210, .iload_n 1, 211, 0), (211, .iaload, 212, 0), (212, .aload_n 0, 213, 0), (213, .getfield 126, 216, 0)]
def pgB_229_1 : pg_Bk := [(121, pgb_229_1_b0), (133, pgb_229_1_b1), (150, pgb_229_1_b2), (162, pgb_229_1_b3), (179, pgb_229_1_b4), (193, pgb_229_1_b5), (210, pgb_229_1_b6), (214, pgb_229_1_b7)]
set_option maxRecDepth 20000 in
theorem pgc_229_1 : pgB_229_1.all (fun q => q.2.all (pg_ok (pg_cc 229))) = true := by decide +kernel
/-- MarkovDeskModel.variable()Z -/
def pgb_229_2_b0 : List pg_R := [(216, .iload_n 1, 217, 0), (217, .iaload, 218, 0), (218, .if_icmp .lt 18, 221, 236), (221, .aload_n 0, 222, 0), (222, .getfield 132, 225, 0), (225, .iload_n 1, 226, 0), (226, .iaload, 227, 0), (227, .aload_n 0, 228, 0)]
def pgb_229_2_b1 : List pg_R := [(228, .getfield 129, 231, 0), (231, .iload_n 1, 232, 0), (232, .iaload, 233, 0), (233, .if_icmp .le 12, 236, 245), (236, .aload_n 0, 237, 0), (237, .aload_n 0, 238, 0), (238, .getfield 383, 241, 0), (241, .invokevirtual 363, 244, 0)]
def pgb_229_2_b2 : List pg_R := [(244, .ireturn, 245, 0), (245, .aload_n 0, 246, 0), (246, .ldc 77, 248, 0), (248, .invokevirtual 417, 251, 0), (251, .ifCond .ne 12, 254, 263), (254, .aload_n 0, 255, 0), (255, .aload_n 0, 256, 0), (256, .getfield 383, 259, 0)]
def pgb_229_2_b3 : List pg_R := [(259, .invokevirtual 363, 262, 0), (262, .ireturn, 263, 0), (263, .aload_n 0, 264, 0), (264, .getfield 105, 267, 0), (267, .aload_n 0, 268, 0), (268, .getfield 420, 271, 0), (271, .iload_n 2, 272, 0), (272, .iastore, 273, 0)]
def pgb_229_2_b4 : List pg_R := [(273, .aload_n 0, 274, 0), (274, .getfield 108, 277, 0), (277, .aload_n 0, 278, 0), (278, .getfield 420, 281, 0), (281, .iload_n 3, 282, 0), (282, .iload_n 2, 283, 0), (283, .isub, 284, 0), (284, .iastore, 285, 0)]
def pgb_229_2_b5 : List pg_R := [(285, .aload_n 0, 286, 0), (286, .getfield 111, 289, 0), (289, .aload_n 0, 290, 0), (290, .getfield 420, 293, 0), (293, .iconst 1, 294, 0), (294, .iastore, 295, 0), (295, .aload_n 0, 296, 0), (296, .getfield 114, 299, 0)]
def pgb_229_2_b6 : List pg_R := [(299, .aload_n 0, 300, 0), (300, .dup, 301, 0), (301, .getfield 420, 304, 0), (304, .dup_x1, 305, 0), (305, .iconst 1, 306, 0), (306, .iadd, 307, 0), (307, .putfield 420, 310, 0), (310, .iload_n 1, 311, 0)]
def pgb_229_2_b7 : List pg_R := [(311, .iastore, 312, 0), (312, .aload_n 0, 313, 0), (313, .dup, 314, 0), (314, .getfield 493, 317, 0)]
def pgB_229_2 : pg_Bk := [(228, pgb_229_2_b0), (244, pgb_229_2_b1), (259, pgb_229_2_b2), (273, pgb_229_2_b3), (285, pgb_229_2_b4), (299, pgb_229_2_b5), (311, pgb_229_2_b6), (315, pgb_229_2_b7)]
set_option maxRecDepth 20000 in
theorem pgc_229_2 : pgB_229_2.all (fun q => q.2.all (pg_ok (pg_cc 229))) = true := by decide +kernel
/-- MarkovDeskModel.variable()Z -/
def pgb_229_3_b0 : List pg_R := [(317, .iconst 1, 318, 0), (318, .iadd, 319, 0), (319, .putfield 493, 322, 0), (322, .aload_n 0, 323, 0), (323, .invokevirtual 377, 326, 0), (326, .ireturn, 327, 0)]
def pgB_229_3 : pg_Bk := [(327, pgb_229_3_b0)]
set_option maxRecDepth 20000 in
theorem pgc_229_3 : pgB_229_3.all (fun q => q.2.all (pg_ok (pg_cc 229))) = true := by decide +kernel
def pgB_229 : pg_Bk := pgB_229_0 ++ (pgB_229_1 ++ (pgB_229_2 ++ (pgB_229_3)))
theorem pgc_229 : pgB_229.all (fun q => q.2.all (pg_ok (pg_cc 229))) = true := pg_all2 pgc_229_0 (pg_all2 pgc_229_1 (pg_all2 pgc_229_2 (pgc_229_3)))
/-- MarkovDeskModel.bounds(I)Z -/
def pgb_230_0_b0 : List pg_R := [(0, .aload_n 0, 1, 0), (1, .ldc 87, 3, 0), (3, .invokevirtual 448, 6, 0), (6, .ifCond .ne 5, 9, 11), (9, .iconst 0, 10, 0), (10, .ireturn, 11, 0), (11, .aload_n 0, 12, 0), (12, .iconst 0, 13, 0)]
def pgb_230_0_b1 : List pg_R := [(13, .invokevirtual 513, 16, 0), (16, .istore_n 2, 17, 0), (17, .iload_n 2, 18, 0), (18, .ifCond .lt 12, 21, 30), (21, .aload_n 0, 22, 0), (22, .ldc 43, 24, 0), (24, .invokevirtual 448, 27, 0), (27, .ifCond .ne 5, 30, 32)]
def pgb_230_0_b2 : List pg_R := [(30, .iconst 0, 31, 0), (31, .ireturn, 32, 0), (32, .aload_n 0, 33, 0), (33, .iconst 0, 34, 0), (34, .invokevirtual 513, 37, 0), (37, .istore_n 3, 38, 0), (38, .iload_n 3, 39, 0), (39, .ifCond .lt 12, 42, 51)]
def pgb_230_0_b3 : List pg_R := [(42, .aload_n 0, 43, 0), (43, .ldc 89, 45, 0), (45, .invokevirtual 417, 48, 0), (48, .ifCond .ne 12, 51, 60), (51, .aload_n 0, 52, 0), (52, .aload_n 0, 53, 0), (53, .getfield 383, 56, 0), (56, .invokevirtual 363, 59, 0)]
def pgb_230_0_b4 : List pg_R := [(59, .ireturn, 60, 0), (60, .aload_n 0, 61, 0), (61, .getfield 126, 64, 0), (64, .iload_n 1, 65, 0), (65, .aload_n 0, 66, 0), (66, .iload_n 2, 67, 0), (67, .invokevirtual 522, 70, 0), (70, .iastore, 71, 0)]
def pgb_230_0_b5 : List pg_R := [(71, .aload_n 0, 72, 0), (72, .getfield 482, 75, 0), (75, .ifCond .eq 12, 78, 87), (78, .aload_n 0, 79, 0), (79, .aload_n 0, 80, 0), (80, .getfield 383, 83, 0), (83, .invokevirtual 363, 86, 0), (86, .ireturn, 87, 0)]
def pgb_230_0_b6 : List pg_R := [(87, .aload_n 0, 88, 0), (88, .getfield 129, 91, 0), (91, .iload_n 1, 92, 0), (92, .aload_n 0, 93, 0), (93, .iload_n 3, 94, 0), (94, .invokevirtual 522, 97, 0), (97, .iastore, 98, 0), (98, .aload_n 0, 99, 0)]
def pgb_230_0_b7 : List pg_R := [(99, .getfield 482, 102, 0), (102, .ifCond .ne 40, 105, 142), (105, .aload_n 0, 106, 0), (106, .getfield 126, 109, 0)]
def pgB_230_0 : pg_Bk := [(13, pgb_230_0_b0), (30, pgb_230_0_b1), (42, pgb_230_0_b2), (59, pgb_230_0_b3), (71, pgb_230_0_b4), (87, pgb_230_0_b5), (99, pgb_230_0_b6), (107, pgb_230_0_b7)]
set_option maxRecDepth 20000 in
theorem pgc_230_0 : pgB_230_0.all (fun q => q.2.all (pg_ok (pg_cc 230))) = true := by decide +kernel
/-- MarkovDeskModel.bounds(I)Z -/
def pgb_230_1_b0 : List pg_R := [(109, .iload_n 1, 110, 0), (110, .iaload, 111, 0), (111, .aload_n 0, 112, 0), (112, .getfield 129, 115, 0), (115, .iload_n 1, 116, 0), (116, .iaload, 117, 0), (117, .if_icmp .gt 25, 120, 142), (120, .aload_n 0, 121, 0)]
def pgb_230_1_b1 : List pg_R := [(121, .getfield 129, 124, 0), (124, .iload_n 1, 125, 0), (125, .iaload, 126, 0), (126, .i2l, 127, 0), (127, .aload_n 0, 128, 0), (128, .getfield 126, 131, 0), (131, .iload_n 1, 132, 0), (132, .iaload, 133, 0)]
def pgb_230_1_b2 : List pg_R := [(133, .i2l, 134, 0), (134, .lsub, 135, 0), (135, .ldc2_w 538, 138, 0), (138, .lcmp, 139, 0), (139, .ifCond .lt 12, 142, 151), (142, .aload_n 0, 143, 0), (143, .aload_n 0, 144, 0), (144, .getfield 383, 147, 0)]
def pgb_230_1_b3 : List pg_R := [(147, .invokevirtual 363, 150, 0), (150, .ireturn, 151, 0), (151, .aload_n 0, 152, 0), (152, .invokevirtual 377, 155, 0), (155, .ireturn, 156, 0)]
def pgB_230_1 : pg_Bk := [(121, pgb_230_1_b0), (133, pgb_230_1_b1), (147, pgb_230_1_b2), (156, pgb_230_1_b3)]
set_option maxRecDepth 20000 in
theorem pgc_230_1 : pgB_230_1.all (fun q => q.2.all (pg_ok (pg_cc 230))) = true := by decide +kernel
def pgB_230 : pg_Bk := pgB_230_0 ++ (pgB_230_1)
theorem pgc_230 : pgB_230.all (fun q => q.2.all (pg_ok (pg_cc 230))) = true := pg_all2 pgc_230_0 (pgc_230_1)
/-- MarkovDeskModel.command()Z -/
def pgb_231_0_b0 : List pg_R := [(0, .aload_n 0, 1, 0), (1, .getfield 499, 4, 0), (4, .bipush 40, 6, 0), (6, .if_icmp .ne 12, 9, 18), (9, .aload_n 0, 10, 0), (10, .aload_n 0, 11, 0), (11, .getfield 383, 14, 0), (14, .invokevirtual 363, 17, 0)]
def pgb_231_0_b1 : List pg_R := [(17, .ireturn, 18, 0), (18, .aload_n 0, 19, 0), (19, .getfield 499, 22, 0), (22, .istore_n 1, 23, 0), (23, .aload_n 0, 24, 0), (24, .invokevirtual 377, 27, 0), (27, .ifCond .ne 5, 30, 32), (30, .iconst 0, 31, 0)]
def pgb_231_0_b2 : List pg_R := [(31, .ireturn, 32, 0), (32, .aload_n 0, 33, 0), (33, .getfield 135, 36, 0), (36, .iload_n 1, 37, 0), (37, .aload_n 0, 38, 0), (38, .getfield 496, 41, 0), (41, .iastore, 42, 0), (42, .aload_n 0, 43, 0)]
def pgb_231_0_b3 : List pg_R := [(43, .getfield 138, 46, 0), (46, .iload_n 1, 47, 0), (47, .iconst (-1), 48, 0), (48, .iastore, 49, 0), (49, .aload_n 0, 50, 0), (50, .getfield 386, 53, 0), (53, .ifCond .ne 113, 56, 166), (56, .iconst 0, 57, 0)]
def pgb_231_0_b4 : List pg_R := [(57, .istore_n 2, 58, 0), (58, .iload_n 2, 59, 0), (59, .aload_n 0, 60, 0), (60, .getfield 502, 63, 0), (63, .if_icmp .ge 41, 66, 104), (66, .aload_n 0, 67, 0), (67, .aload_n 0, 68, 0), (68, .getfield 117, 71, 0)]
def pgb_231_0_b5 : List pg_R := [(71, .iload_n 2, 72, 0), (72, .iaload, 73, 0), (73, .aload_n 0, 74, 0), (74, .getfield 120, 77, 0), (77, .iload_n 2, 78, 0), (78, .iaload, 79, 0), (79, .aload_n 0, 80, 0), (80, .getfield 383, 83, 0)]
def pgb_231_0_b6 : List pg_R := [(83, .aload_n 0, 84, 0), (84, .getfield 374, 87, 0), (87, .aload_n 0, 88, 0), (88, .getfield 383, 91, 0), (91, .isub, 92, 0), (92, .invokevirtual 423, 95, 0), (95, .ifCond .ne 9, 98, 104), (98, .iinc 2 1, 101, 0)]
def pgb_231_0_b7 : List pg_R := [(101, .goto (-43), 104, 58), (104, .iload_n 2, 105, 0), (105, .aload_n 0, 106, 0), (106, .getfield 502, 109, 0)]
def pgB_231_0 : pg_Bk := [(17, pgb_231_0_b0), (31, pgb_231_0_b1), (43, pgb_231_0_b2), (57, pgb_231_0_b3), (71, pgb_231_0_b4), (83, pgb_231_0_b5), (101, pgb_231_0_b6), (107, pgb_231_0_b7)]
set_option maxRecDepth 20000 in
theorem pgc_231_0 : pgB_231_0.all (fun q => q.2.all (pg_ok (pg_cc 231))) = true := by decide +kernel
/-- MarkovDeskModel.command()Z -/
def pgb_231_1_b0 : List pg_R := [(109, .if_icmp .ne 41, 112, 150), (112, .aload_n 0, 113, 0), (113, .getfield 117, 116, 0), (116, .aload_n 0, 117, 0), (117, .getfield 502, 120, 0), (120, .aload_n 0, 121, 0), (121, .getfield 383, 124, 0), (124, .iastore, 125, 0)]
def pgb_231_1_b1 : List pg_R := [(125, .aload_n 0, 126, 0), (126, .getfield 120, 129, 0), (129, .aload_n 0, 130, 0), (130, .dup, 131, 0), (131, .getfield 502, 134, 0), (134, .dup_x1, 135, 0), (135, .iconst 1, 136, 0), (136, .iadd, 137, 0)]
def pgb_231_1_b2 : List pg_R := [(137, .putfield 502, 140, 0), (140, .aload_n 0, 141, 0), (141, .getfield 374, 144, 0), (144, .aload_n 0, 145, 0), (145, .getfield 383, 148, 0), (148, .isub, 149, 0), (149, .iastore, 150, 0), (150, .aload_n 0, 151, 0)]
def pgb_231_1_b3 : List pg_R := [(151, .getfield 138, 154, 0), (154, .iload_n 1, 155, 0), (155, .iload_n 2, 156, 0), (156, .iastore, 157, 0), (157, .aload_n 0, 158, 0), (158, .invokevirtual 377, 161, 0), (161, .ifCond .ne 5, 164, 166), (164, .iconst 0, 165, 0)]
def pgb_231_1_b4 : List pg_R := [(165, .ireturn, 166, 0), (166, .aload_n 0, 167, 0), (167, .ldc 89, 169, 0), (169, .invokevirtual 448, 172, 0), (172, .ifCond .ne 5, 175, 177), (175, .iconst 0, 176, 0), (176, .ireturn, 177, 0), (177, .aload_n 0, 178, 0)]
def pgb_231_1_b5 : List pg_R := [(178, .getfield 141, 181, 0), (181, .iload_n 1, 182, 0), (182, .aload_n 0, 183, 0), (183, .iconst 1, 184, 0), (184, .invokevirtual 513, 187, 0), (187, .iastore, 188, 0), (188, .aload_n 0, 189, 0), (189, .getfield 141, 192, 0)]
def pgb_231_1_b6 : List pg_R := [(192, .iload_n 1, 193, 0), (193, .iaload, 194, 0), (194, .ifCond .lt 12, 197, 206), (197, .aload_n 0, 198, 0), (198, .ldc 41, 200, 0), (200, .invokevirtual 448, 203, 0), (203, .ifCond .ne 5, 206, 208), (206, .iconst 0, 207, 0)]
def pgb_231_1_b7 : List pg_R := [(207, .ireturn, 208, 0), (208, .aload_n 0, 209, 0), (209, .getfield 144, 212, 0), (212, .iload_n 1, 213, 0)]
def pgB_231_1 : pg_Bk := [(125, pgb_231_1_b0), (137, pgb_231_1_b1), (151, pgb_231_1_b2), (165, pgb_231_1_b3), (178, pgb_231_1_b4), (192, pgb_231_1_b5), (207, pgb_231_1_b6), (213, pgb_231_1_b7)]
set_option maxRecDepth 20000 in
theorem pgc_231_1 : pgB_231_1.all (fun q => q.2.all (pg_ok (pg_cc 231))) = true := by decide +kernel
/-- MarkovDeskModel.command()Z -/
def pgb_231_2_b0 : List pg_R := [(213, .iconst 0, 214, 0), (214, .iastore, 215, 0), (215, .aload_n 0, 216, 0), (216, .ldc 25, 218, 0), (218, .invokevirtual 417, 221, 0), (221, .ifCond .ne 12, 224, 233), (224, .aload_n 0, 225, 0), (225, .ldc 83, 227, 0)]
def pgb_231_2_b1 : List pg_R := [(227, .invokevirtual 417, 230, 0), (230, .ifCond .eq 33, 233, 263), (233, .aload_n 0, 234, 0), (234, .getfield 147, 237, 0), (237, .iload_n 1, 238, 0), (238, .bipush 6, 240, 0), (240, .imul, 241, 0), (241, .iconst 1, 242, 0)]
def pgb_231_2_b2 : List pg_R := [(242, .iastore, 243, 0), (243, .aload_n 0, 244, 0), (244, .getfield 150, 247, 0), (247, .iload_n 1, 248, 0), (248, .bipush 6, 250, 0), (250, .imul, 251, 0), (251, .iconst 1, 252, 0), (252, .iastore, 253, 0)]
def pgb_231_2_b3 : List pg_R := [(253, .aload_n 0, 254, 0), (254, .iload_n 1, 255, 0), (255, .invokevirtual 540, 258, 0), (258, .ifCond .ne 15, 261, 273), (261, .iconst 0, 262, 0), (262, .ireturn, 263, 0), (263, .aload_n 0, 264, 0), (264, .iload_n 1, 265, 0)]
def pgb_231_2_b4 : List pg_R := [(265, .invokevirtual 543, 268, 0), (268, .ifCond .ne 5, 271, 273), (271, .iconst 0, 272, 0), (272, .ireturn, 273, 0), (273, .aload_n 0, 274, 0), (274, .dup, 275, 0), (275, .getfield 499, 278, 0), (278, .iconst 1, 279, 0)]
def pgb_231_2_b5 : List pg_R := [(279, .iadd, 280, 0), (280, .putfield 499, 283, 0), (283, .aload_n 0, 284, 0), (284, .ldc 77, 286, 0), (286, .invokevirtual 448, 289, 0), (289, .ireturn, 290, 0)]
def pgB_231_2 : pg_Bk := [(227, pgb_231_2_b0), (242, pgb_231_2_b1), (253, pgb_231_2_b2), (265, pgb_231_2_b3), (279, pgb_231_2_b4), (290, pgb_231_2_b5)]
set_option maxRecDepth 20000 in
theorem pgc_231_2 : pgB_231_2.all (fun q => q.2.all (pg_ok (pg_cc 231))) = true := by decide +kernel
def pgB_231 : pg_Bk := pgB_231_0 ++ (pgB_231_1 ++ (pgB_231_2))
theorem pgc_231 : pgB_231.all (fun q => q.2.all (pg_ok (pg_cc 231))) = true := pg_all2 pgc_231_0 (pg_all2 pgc_231_1 (pgc_231_2))
