/-- MarkovDeskLaw.check(LMarkovDesk;Z[J)I -/
def pgb_175_b0 : List pg_R := [(0, .aload_n 2, 1, 0), (1, .iconst 0, 2, 0), (2, .aload_n 0, 3, 0), (3, .iload_n 1, 4, 0), (4, .invokevirtual 58, 7, 0), (7, .ifCond .eq 7, 10, 14), (10, .lconst 1, 11, 0), (11, .goto 4, 14, 15)]
def pgb_175_b1 : List pg_R := [(14, .lconst 0, 15, 0), (15, .lastore, 16, 0), (16, .goto 6, 19, 22), (19, .astore_n 3, 20, 0), (20, .iconst 1, 21, 0), (21, .ireturn, 22, 0), (22, .iconst 0, 23, 0), (23, .ireturn, 24, 0)]
def pgB_175 : pg_Bk := [(14, pgb_175_b0), (24, pgb_175_b1)]
set_option maxRecDepth 20000 in
theorem pgc_175 : pgB_175.all (fun q => q.2.all (pg_ok (pg_cc 175))) = true := by decide +kernel
/-- MarkovDesk.check(Z)Z -/
def pgb_176_b0 : List pg_R := [(0, .aload_n 0, 1, 0), (1, .invokevirtual 189, 4, 0), (4, .iload_n 1, 5, 0), (5, .ifCond .eq 10, 8, 15), (8, .aload_n 0, 9, 0), (9, .getfield 62, 12, 0), (12, .goto 7, 15, 19), (15, .aload_n 0, 16, 0)]
def pgb_176_b1 : List pg_R := [(16, .getfield 58, 19, 0), (19, .astore_n 2, 20, 0), (20, .aload_n 0, 21, 0), (21, .getfield 49, 24, 0), (24, .aload_n 2, 25, 0), (25, .invokevirtual 216, 28, 0), (28, .iconst 1, 29, 0), (29, .istore_n 3, 30, 0)]
def pgb_176_b2 : List pg_R := [(30, .iconst 0, 31, 0), (31, .istore 4, 33, 0), (33, .iload 4, 35, 0), (35, .aload_n 0, 36, 0), (36, .getfield 40, 39, 0), (39, .getfield 153, 42, 0), (42, .if_icmp .ge 72, 45, 114), (45, .iload_n 3, 46, 0)]
def pgb_176_b3 : List pg_R := [(46, .ifCond .eq 68, 49, 114), (49, .aload_n 0, 50, 0), (50, .getfield 91, 53, 0), (53, .aload_n 0, 54, 0), (54, .getfield 81, 57, 0), (57, .iload 4, 59, 0), (59, .aaload, 60, 0), (60, .aload_n 2, 61, 0)]
def pgb_176_b4 : List pg_R := [(61, .getfield 231, 64, 0), (64, .invokevirtual 261, 67, 0), (67, .aload_n 0, 68, 0), (68, .getfield 95, 71, 0), (71, .aload_n 2, 72, 0), (72, .getfield 229, 75, 0), (75, .iload 4, 77, 0), (77, .aaload, 78, 0)]
def pgb_176_b5 : List pg_R := [(78, .aload_n 0, 79, 0), (79, .getfield 85, 82, 0), (82, .iload 4, 84, 0), (84, .aaload, 85, 0), (85, .invokevirtual 261, 88, 0), (88, .aload_n 0, 89, 0), (89, .getfield 91, 92, 0), (92, .aload_n 0, 93, 0)]
def pgb_176_b6 : List pg_R := [(93, .getfield 95, 96, 0), (96, .invokevirtual 236, 99, 0), (99, .ifCond .ne 7, 102, 106), (102, .iconst 1, 103, 0), (103, .goto 4, 106, 107), (106, .iconst 0, 107, 0), (107, .istore_n 3, 108, 0), (108, .iinc 4 1, 111, 0)]
def pgb_176_b7 : List pg_R := [(111, .goto (-78), 114, 33), (114, .iload_n 3, 115, 0), (115, .ireturn, 116, 0)]
def pgB_176 : pg_Bk := [(16, pgb_176_b0), (30, pgb_176_b1), (46, pgb_176_b2), (61, pgb_176_b3), (78, pgb_176_b4), (93, pgb_176_b5), (111, pgb_176_b6), (116, pgb_176_b7)]
set_option maxRecDepth 20000 in
theorem pgc_176 : pgB_176.all (fun q => q.2.all (pg_ok (pg_cc 176))) = true := by decide +kernel
/-- MarkovDeskLaw.part(LMarkovDesk;ZI[J)I -/
def pgb_177_b0 : List pg_R := [(0, .aload_n 3, 1, 0), (1, .iconst 0, 2, 0), (2, .aload_n 0, 3, 0), (3, .iload_n 1, 4, 0), (4, .iload_n 2, 5, 0), (5, .invokevirtual 62, 8, 0), (8, .i2l, 9, 0), (9, .lastore, 10, 0)]
def pgb_177_b1 : List pg_R := [(10, .goto 7, 13, 17), (13, .astore 4, 15, 0), (15, .iconst 1, 16, 0), (16, .ireturn, 17, 0), (17, .iconst 0, 18, 0), (18, .ireturn, 19, 0)]
def pgB_177 : pg_Bk := [(10, pgb_177_b0), (19, pgb_177_b1)]
set_option maxRecDepth 20000 in
theorem pgc_177 : pgB_177.all (fun q => q.2.all (pg_ok (pg_cc 177))) = true := by decide +kernel
/-- MarkovDesk.part(ZI)I -/
def pgb_178_b0 : List pg_R := [(0, .iload_n 2, 1, 0), (1, .ifCond .ge 11, 4, 12), (4, .new 102, 7, 0), (7, .dup, 8, 0), (8, .invokespecial 104, 11, 0), (11, .athrow, 12, 0), (12, .iload_n 1, 13, 0), (13, .ifCond .eq 17, 16, 30)]
def pgb_178_b1 : List pg_R := [(16, .aload_n 0, 17, 0), (17, .getfield 75, 20, 0), (20, .getfield 235, 23, 0), (23, .iload_n 2, 24, 0), (24, .invokevirtual 264, 27, 0), (27, .goto 14, 30, 41), (30, .aload_n 0, 31, 0), (31, .getfield 75, 34, 0)]
def pgb_178_b2 : List pg_R := [(34, .getfield 233, 37, 0), (37, .iload_n 2, 38, 0), (38, .invokevirtual 264, 41, 0), (41, .ireturn, 42, 0)]
def pgB_178 : pg_Bk := [(16, pgb_178_b0), (34, pgb_178_b1), (42, pgb_178_b2)]
set_option maxRecDepth 20000 in
theorem pgc_178 : pgB_178.all (fun q => q.2.all (pg_ok (pg_cc 178))) = true := by decide +kernel
/-- MarkovDeskLaw.count(LMarkovDesk;I[J)I -/
def pgb_179_b0 : List pg_R := [(0, .aload_n 2, 1, 0), (1, .iconst 0, 2, 0), (2, .aload_n 0, 3, 0), (3, .iload_n 1, 4, 0), (4, .invokevirtual 66, 7, 0), (7, .i2l, 8, 0), (8, .lastore, 9, 0), (9, .goto 6, 12, 15)]
def pgb_179_b1 : List pg_R := [(12, .astore_n 3, 13, 0), (13, .iconst 1, 14, 0), (14, .ireturn, 15, 0), (15, .iconst 0, 16, 0), (16, .ireturn, 17, 0)]
def pgB_179 : pg_Bk := [(12, pgb_179_b0), (17, pgb_179_b1)]
set_option maxRecDepth 20000 in
theorem pgc_179 : pgB_179.all (fun q => q.2.all (pg_ok (pg_cc 179))) = true := by decide +kernel
/-- MarkovDesk.count(I)I -/
def pgb_180_b0 : List pg_R := [(0, .iload_n 1, 1, 0), (1, .ifCond .lt 9, 4, 10), (4, .iload_n 1, 5, 0), (5, .bipush 7, 7, 0), (7, .if_icmp .le 11, 10, 18), (10, .new 156, 13, 0), (13, .dup, 14, 0), (14, .invokespecial 158, 17, 0)]
def pgb_180_b1 : List pg_R := [(17, .athrow, 18, 0), (18, .iload_n 1, 19, 0), (19, .iconst 4, 20, 0), (20, .if_icmp .ge 16, 23, 36), (23, .aload_n 0, 24, 0), (24, .getfield 22, 27, 0), (27, .getfield 108, 30, 0), (30, .ifCond .ne 18, 33, 48)]
def pgb_180_b2 : List pg_R := [(33, .goto 13, 36, 46), (36, .aload_n 0, 37, 0), (37, .getfield 40, 40, 0), (40, .getfield 159, 43, 0), (43, .ifCond .ne 5, 46, 48), (46, .iconst 0, 47, 0), (47, .ireturn, 48, 0), (48, .iload_n 1, 49, 0)]
def pgb_180_b3 : List pg_R := [(49, .tableswitch 99 0 6 #[43, 51, 59, 67, 75, 83, 91], 92, 0), (92, .aload_n 0, 93, 0), (93, .getfield 22, 96, 0), (96, .getfield 167, 99, 0), (99, .ireturn, 100, 0), (100, .aload_n 0, 101, 0), (101, .getfield 22, 104, 0), (104, .getfield 267, 107, 0)]
def pgb_180_b4 : List pg_R := [(107, .ireturn, 108, 0), (108, .aload_n 0, 109, 0), (109, .getfield 22, 112, 0), (112, .getfield 270, 115, 0), (115, .ireturn, 116, 0), (116, .aload_n 0, 117, 0), (117, .getfield 22, 120, 0), (120, .getfield 273, 123, 0)]
def pgb_180_b5 : List pg_R := [(123, .ireturn, 124, 0), (124, .aload_n 0, 125, 0), (125, .getfield 40, 128, 0), (128, .getfield 153, 131, 0), (131, .ireturn, 132, 0), (132, .aload_n 0, 133, 0), (133, .getfield 40, 136, 0), (136, .getfield 276, 139, 0)]
def pgb_180_b6 : List pg_R := [(139, .ireturn, 140, 0), (140, .aload_n 0, 141, 0), (141, .getfield 40, 144, 0), (144, .getfield 279, 147, 0), (147, .ireturn, 148, 0), (148, .aload_n 0, 149, 0), (149, .getfield 40, 152, 0), (152, .invokevirtual 282, 155, 0)]
def pgb_180_b7 : List pg_R := [(155, .ireturn, 156, 0)]
def pgB_180 : pg_Bk := [(17, pgb_180_b0), (33, pgb_180_b1), (49, pgb_180_b2), (107, pgb_180_b3), (123, pgb_180_b4), (139, pgb_180_b5), (155, pgb_180_b6), (156, pgb_180_b7)]
set_option maxRecDepth 20000 in
theorem pgc_180 : pgB_180.all (fun q => q.2.all (pg_ok (pg_cc 180))) = true := by decide +kernel
/-- MarkovDesk$Space.targets()I -/
def pgb_181_b0 : List pg_R := [(0, .iconst 0, 1, 0), (1, .istore_n 1, 2, 0), (2, .iconst 0, 3, 0), (3, .istore_n 2, 4, 0), (4, .iload_n 2, 5, 0), (5, .aload_n 0, 6, 0), (6, .getfield 58, 9, 0), (9, .if_icmp .ge 26, 12, 35)]
def pgb_181_b1 : List pg_R := [(12, .iload_n 1, 13, 0), (13, .aload_n 0, 14, 0), (14, .getfield 18, 17, 0), (17, .iload_n 2, 18, 0), (18, .baload, 19, 0), (19, .ifCond .eq 7, 22, 26), (22, .iconst 1, 23, 0), (23, .goto 4, 26, 27)]
def pgb_181_b2 : List pg_R := [(26, .iconst 0, 27, 0), (27, .iadd, 28, 0), (28, .istore_n 1, 29, 0), (29, .iinc 2 1, 32, 0), (32, .goto (-28), 35, 4), (35, .iload_n 1, 36, 0), (36, .ireturn, 37, 0)]
def pgB_181 : pg_Bk := [(12, pgb_181_b0), (26, pgb_181_b1), (37, pgb_181_b2)]
set_option maxRecDepth 20000 in
theorem pgc_181 : pgB_181.all (fun q => q.2.all (pg_ok (pg_cc 181))) = true := by decide +kernel
/-- MarkovDeskModel.<init>()V -/
def pgb_182_0_b0 : List pg_R := [(0, .aload_n 0, 1, 0), (1, .invokespecial 1, 4, 0), (4, .aload_n 0, 5, 0), (5, .bipush 13, 7, 0), (7, .anewarray 7, 10, 0), (10, .dup, 11, 0), (11, .iconst 0, 12, 0), (12, .ldc 9, 14, 0)]
def pgb_182_0_b1 : List pg_R := [(14, .aastore, 15, 0), (15, .dup, 16, 0), (16, .iconst 1, 17, 0), (17, .ldc 11, 19, 0), (19, .aastore, 20, 0), (20, .dup, 21, 0), (21, .iconst 2, 22, 0), (22, .ldc 13, 24, 0)]
def pgb_182_0_b2 : List pg_R := [(24, .aastore, 25, 0), (25, .dup, 26, 0), (26, .iconst 3, 27, 0), (27, .ldc 15, 29, 0), (29, .aastore, 30, 0), (30, .dup, 31, 0), (31, .iconst 4, 32, 0), (32, .ldc 17, 34, 0)]
def pgb_182_0_b3 : List pg_R := [(34, .aastore, 35, 0), (35, .dup, 36, 0), (36, .iconst 5, 37, 0), (37, .ldc 19, 39, 0), (39, .aastore, 40, 0), (40, .dup, 41, 0), (41, .bipush 6, 43, 0), (43, .ldc 21, 45, 0)]
def pgb_182_0_b4 : List pg_R := [(45, .aastore, 46, 0), (46, .dup, 47, 0), (47, .bipush 7, 49, 0), (49, .ldc 23, 51, 0), (51, .aastore, 52, 0), (52, .dup, 53, 0), (53, .bipush 8, 55, 0), (55, .ldc 25, 57, 0)]
def pgB_182_0 : pg_Bk := [(14, pgb_182_0_b0), (24, pgb_182_0_b1), (34, pgb_182_0_b2), (45, pgb_182_0_b3), (56, pgb_182_0_b4)]
set_option maxRecDepth 20000 in
theorem pgc_182_0 : pgB_182_0.all (fun q => q.2.all (pg_ok (pg_cc 182))) = true := by decide +kernel
/-- MarkovDeskModel.<init>()V -/
def pgb_182_1_b0 : List pg_R := [(57, .aastore, 58, 0), (58, .dup, 59, 0), (59, .bipush 9, 61, 0), (61, .ldc 27, 63, 0), (63, .aastore, 64, 0), (64, .dup, 65, 0), (65, .bipush 10, 67, 0), (67, .ldc 29, 69, 0)]
def pgb_182_1_b1 : List pg_R := [(69, .aastore, 70, 0), (70, .dup, 71, 0), (71, .bipush 11, 73, 0), (73, .ldc 31, 75, 0), (75, .aastore, 76, 0), (76, .dup, 77, 0), (77, .bipush 12, 79, 0), (79, .ldc 33, 81, 0)]
def pgb_182_1_b2 : List pg_R := [(81, .aastore, 82, 0), (82, .putfield 35, 85, 0), (85, .aload_n 0, 86, 0), (86, .bipush 25, 88, 0), (88, .anewarray 7, 91, 0), (91, .dup, 92, 0), (92, .iconst 0, 93, 0), (93, .ldc 41, 95, 0)]
def pgb_182_1_b3 : List pg_R := [(95, .aastore, 96, 0), (96, .dup, 97, 0), (97, .iconst 1, 98, 0), (98, .ldc 43, 100, 0), (100, .aastore, 101, 0), (101, .dup, 102, 0), (102, .iconst 2, 103, 0), (103, .ldc 45, 105, 0)]
def pgb_182_1_b4 : List pg_R := [(105, .aastore, 106, 0), (106, .dup, 107, 0), (107, .iconst 3, 108, 0), (108, .ldc 47, 110, 0), (110, .aastore, 111, 0), (111, .dup, 112, 0), (112, .iconst 4, 113, 0), (113, .ldc 49, 115, 0)]
def pgB_182_1 : pg_Bk := [(69, pgb_182_1_b0), (81, pgb_182_1_b1), (95, pgb_182_1_b2), (105, pgb_182_1_b3), (114, pgb_182_1_b4)]
set_option maxRecDepth 20000 in
theorem pgc_182_1 : pgB_182_1.all (fun q => q.2.all (pg_ok (pg_cc 182))) = true := by decide +kernel
/-- MarkovDeskModel.<init>()V -/
def pgb_182_2_b0 : List pg_R := [(115, .aastore, 116, 0), (116, .dup, 117, 0), (117, .iconst 5, 118, 0), (118, .ldc 51, 120, 0), (120, .aastore, 121, 0), (121, .dup, 122, 0), (122, .bipush 6, 124, 0), (124, .ldc 53, 126, 0)]
def pgb_182_2_b1 : List pg_R := [(126, .aastore, 127, 0), (127, .dup, 128, 0), (128, .bipush 7, 130, 0), (130, .ldc 55, 132, 0), (132, .aastore, 133, 0), (133, .dup, 134, 0), (134, .bipush 8, 136, 0), (136, .ldc 57, 138, 0)]
def pgb_182_2_b2 : List pg_R := [(138, .aastore, 139, 0), (139, .dup, 140, 0), (140, .bipush 9, 142, 0), (142, .ldc 59, 144, 0), (144, .aastore, 145, 0), (145, .dup, 146, 0), (146, .bipush 10, 148, 0), (148, .ldc 61, 150, 0)]
def pgb_182_2_b3 : List pg_R := [(150, .aastore, 151, 0), (151, .dup, 152, 0), (152, .bipush 11, 154, 0), (154, .ldc 63, 156, 0), (156, .aastore, 157, 0), (157, .dup, 158, 0), (158, .bipush 12, 160, 0), (160, .ldc 65, 162, 0)]
def pgb_182_2_b4 : List pg_R := [(162, .aastore, 163, 0), (163, .dup, 164, 0), (164, .bipush 13, 166, 0), (166, .ldc 67, 168, 0), (168, .aastore, 169, 0), (169, .dup, 170, 0), (170, .bipush 14, 172, 0), (172, .ldc 69, 174, 0)]
def pgB_182_2 : pg_Bk := [(126, pgb_182_2_b0), (138, pgb_182_2_b1), (150, pgb_182_2_b2), (162, pgb_182_2_b3), (173, pgb_182_2_b4)]
set_option maxRecDepth 20000 in
theorem pgc_182_2 : pgB_182_2.all (fun q => q.2.all (pg_ok (pg_cc 182))) = true := by decide +kernel
/-- MarkovDeskModel.<init>()V -/
def pgb_182_3_b0 : List pg_R := [(174, .aastore, 175, 0), (175, .dup, 176, 0), (176, .bipush 15, 178, 0), (178, .ldc 71, 180, 0), (180, .aastore, 181, 0), (181, .dup, 182, 0), (182, .bipush 16, 184, 0), (184, .ldc 73, 186, 0)]
def pgb_182_3_b1 : List pg_R := [(186, .aastore, 187, 0), (187, .dup, 188, 0), (188, .bipush 17, 190, 0), (190, .ldc 75, 192, 0), (192, .aastore, 193, 0), (193, .dup, 194, 0), (194, .bipush 18, 196, 0), (196, .ldc 77, 198, 0)]
def pgb_182_3_b2 : List pg_R := [(198, .aastore, 199, 0), (199, .dup, 200, 0), (200, .bipush 19, 202, 0), (202, .ldc 79, 204, 0), (204, .aastore, 205, 0), (205, .dup, 206, 0), (206, .bipush 20, 208, 0), (208, .ldc 81, 210, 0)]
def pgb_182_3_b3 : List pg_R := [(210, .aastore, 211, 0), (211, .dup, 212, 0), (212, .bipush 21, 214, 0), (214, .ldc 83, 216, 0), (216, .aastore, 217, 0), (217, .dup, 218, 0), (218, .bipush 22, 220, 0), (220, .ldc 85, 222, 0)]
def pgb_182_3_b4 : List pg_R := [(222, .aastore, 223, 0), (223, .dup, 224, 0), (224, .bipush 23, 226, 0), (226, .ldc 87, 228, 0), (228, .aastore, 229, 0), (229, .dup, 230, 0), (230, .bipush 24, 232, 0), (232, .ldc 89, 234, 0)]
def pgB_182_3 : pg_Bk := [(186, pgb_182_3_b0), (198, pgb_182_3_b1), (210, pgb_182_3_b2), (222, pgb_182_3_b3), (233, pgb_182_3_b4)]
set_option maxRecDepth 20000 in
theorem pgc_182_3 : pgB_182_3.all (fun q => q.2.all (pg_ok (pg_cc 182))) = true := by decide +kernel
/-- MarkovDeskModel.<init>()V -/
def pgb_182_4_b0 : List pg_R := [(234, .aastore, 235, 0), (235, .putfield 91, 238, 0), (238, .aload_n 0, 239, 0), (239, .iconst (-1), 240, 0), (240, .putfield 94, 243, 0), (243, .aload_n 0, 244, 0), (244, .sipush 8200, 247, 0), (247, .newarray .int, 249, 0)]
def pgb_182_4_b1 : List pg_R := [(249, .putfield 98, 252, 0), (252, .aload_n 0, 253, 0), (253, .sipush 8192, 256, 0), (256, .newarray .int, 258, 0), (258, .putfield 102, 261, 0), (261, .aload_n 0, 262, 0), (262, .sipush 600, 265, 0), (265, .newarray .int, 267, 0)]
def pgb_182_4_b2 : List pg_R := [(267, .putfield 105, 270, 0), (270, .aload_n 0, 271, 0), (271, .sipush 600, 274, 0), (274, .newarray .int, 276, 0), (276, .putfield 108, 279, 0), (279, .aload_n 0, 280, 0), (280, .sipush 600, 283, 0), (283, .newarray .int, 285, 0)]
def pgb_182_4_b3 : List pg_R := [(285, .putfield 111, 288, 0), (288, .aload_n 0, 289, 0), (289, .sipush 600, 292, 0), (292, .newarray .int, 294, 0), (294, .putfield 114, 297, 0), (297, .aload_n 0, 298, 0), (298, .bipush 40, 300, 0), (300, .newarray .int, 302, 0)]
def pgb_182_4_b4 : List pg_R := [(302, .putfield 117, 305, 0), (305, .aload_n 0, 306, 0), (306, .bipush 40, 308, 0), (308, .newarray .int, 310, 0), (310, .putfield 120, 313, 0), (313, .aload_n 0, 314, 0), (314, .bipush 8, 316, 0), (316, .newarray .int, 318, 0)]
def pgB_182_4 : pg_Bk := [(249, pgb_182_4_b0), (267, pgb_182_4_b1), (285, pgb_182_4_b2), (302, pgb_182_4_b3), (317, pgb_182_4_b4)]
set_option maxRecDepth 20000 in
theorem pgc_182_4 : pgB_182_4.all (fun q => q.2.all (pg_ok (pg_cc 182))) = true := by decide +kernel
/-- MarkovDeskModel.<init>()V -/
def pgb_182_5_b0 : List pg_R := [(318, .putfield 123, 321, 0), (321, .aload_n 0, 322, 0), (322, .bipush 8, 324, 0), (324, .newarray .int, 326, 0), (326, .putfield 126, 329, 0), (329, .aload_n 0, 330, 0), (330, .bipush 8, 332, 0), (332, .newarray .int, 334, 0)]
def pgb_182_5_b1 : List pg_R := [(334, .putfield 129, 337, 0), (337, .aload_n 0, 338, 0), (338, .bipush 8, 340, 0), (340, .newarray .int, 342, 0), (342, .putfield 132, 345, 0), (345, .aload_n 0, 346, 0), (346, .bipush 40, 348, 0), (348, .newarray .int, 350, 0)]
def pgb_182_5_b2 : List pg_R := [(350, .putfield 135, 353, 0), (353, .aload_n 0, 354, 0), (354, .bipush 40, 356, 0), (356, .newarray .int, 358, 0), (358, .putfield 138, 361, 0), (361, .aload_n 0, 362, 0), (362, .bipush 40, 364, 0), (364, .newarray .int, 366, 0)]
def pgb_182_5_b3 : List pg_R := [(366, .putfield 141, 369, 0), (369, .aload_n 0, 370, 0), (370, .bipush 40, 372, 0), (372, .newarray .int, 374, 0), (374, .putfield 144, 377, 0), (377, .aload_n 0, 378, 0), (378, .sipush 240, 381, 0), (381, .newarray .int, 383, 0)]
def pgb_182_5_b4 : List pg_R := [(383, .putfield 147, 386, 0), (386, .aload_n 0, 387, 0), (387, .sipush 240, 390, 0), (390, .newarray .int, 392, 0), (392, .putfield 150, 395, 0), (395, .aload_n 0, 396, 0), (396, .sipush 1920, 399, 0), (399, .newarray .int, 401, 0)]
def pgB_182_5 : pg_Bk := [(334, pgb_182_5_b0), (350, pgb_182_5_b1), (366, pgb_182_5_b2), (383, pgb_182_5_b3), (400, pgb_182_5_b4)]
set_option maxRecDepth 20000 in
theorem pgc_182_5 : pgB_182_5.all (fun q => q.2.all (pg_ok (pg_cc 182))) = true := by decide +kernel
/-- MarkovDeskModel.<init>()V -/
def pgb_182_6_b0 : List pg_R := [(401, .putfield 153, 404, 0), (404, .aload_n 0, 405, 0), (405, .bipush 8, 407, 0), (407, .newarray .boolean, 409, 0), (409, .putfield 156, 412, 0), (412, .aload_n 0, 413, 0), (413, .sipush 8000, 416, 0), (416, .newarray .int, 418, 0)]
def pgb_182_6_b1 : List pg_R := [(418, .putfield 160, 421, 0), (421, .aload_n 0, 422, 0), (422, .sipush 2000, 425, 0), (425, .newarray .int, 427, 0), (427, .putfield 163, 430, 0), (430, .aload_n 0, 431, 0), (431, .bipush 8, 433, 0), (433, .newarray .int, 435, 0)]
def pgb_182_6_b2 : List pg_R := [(435, .putfield 166, 438, 0), (438, .aload_n 0, 439, 0), (439, .sipush 192, 442, 0), (442, .newarray .int, 444, 0), (444, .putfield 169, 447, 0), (447, .aload_n 0, 448, 0), (448, .bipush 25, 450, 0), (450, .newarray .int, 452, 0)]
def pgb_182_6_b3 : List pg_R := [(452, .putfield 172, 455, 0), (455, .aload_n 0, 456, 0), (456, .sipush 201, 459, 0), (459, .newarray .int, 461, 0), (461, .putfield 175, 464, 0), (464, .aload_n 0, 465, 0), (465, .sipush 3200, 468, 0), (468, .newarray .int, 470, 0)]
def pgb_182_6_b4 : List pg_R := [(470, .putfield 178, 473, 0), (473, .aload_n 0, 474, 0), (474, .bipush 8, 476, 0), (476, .newarray .int, 478, 0), (478, .putfield 181, 481, 0), (481, .aload_n 0, 482, 0), (482, .iconst 3, 483, 0), (483, .newarray .int, 485, 0)]
def pgB_182_6 : pg_Bk := [(418, pgb_182_6_b0), (435, pgb_182_6_b1), (452, pgb_182_6_b2), (470, pgb_182_6_b3), (484, pgb_182_6_b4)]
set_option maxRecDepth 20000 in
theorem pgc_182_6 : pgB_182_6.all (fun q => q.2.all (pg_ok (pg_cc 182))) = true := by decide +kernel
/-- MarkovDeskModel.<init>()V -/
def pgb_182_7_b0 : List pg_R := [(485, .putfield 184, 488, 0), (488, .aload_n 0, 489, 0), (489, .iconst 3, 490, 0), (490, .newarray .int, 492, 0), (492, .putfield 187, 495, 0), (495, .aload_n 0, 496, 0), (496, .iconst 3, 497, 0), (497, .newarray .int, 499, 0)]
def pgb_182_7_b1 : List pg_R := [(499, .putfield 190, 502, 0), (502, .aload_n 0, 503, 0), (503, .bipush 24, 505, 0), (505, .newarray .boolean, 507, 0), (507, .putfield 193, 510, 0), (510, .aload_n 0, 511, 0), (511, .bipush 40, 513, 0), (513, .newarray .boolean, 515, 0)]
def pgb_182_7_b2 : List pg_R := [(515, .putfield 196, 518, 0), (518, .aload_n 0, 519, 0), (519, .ldc 199, 521, 0), (521, .newarray .int, 523, 0), (523, .putfield 200, 526, 0), (526, .aload_n 0, 527, 0), (527, .ldc 199, 529, 0), (529, .newarray .int, 531, 0)]
def pgb_182_7_b3 : List pg_R := [(531, .putfield 203, 534, 0), (534, .aload_n 0, 535, 0), (535, .new 206, 538, 0), (538, .dup, 539, 0), (539, .bipush 24, 541, 0), (541, .invokespecial 208, 544, 0), (544, .putfield 211, 547, 0), (547, .aload_n 0, 548, 0)]
def pgb_182_7_b4 : List pg_R := [(548, .new 206, 551, 0), (551, .dup, 552, 0), (552, .bipush 24, 554, 0), (554, .invokespecial 208, 557, 0), (557, .putfield 215, 560, 0), (560, .aload_n 0, 561, 0), (561, .new 206, 564, 0), (564, .dup, 565, 0)]
def pgB_182_7 : pg_Bk := [(499, pgb_182_7_b0), (515, pgb_182_7_b1), (531, pgb_182_7_b2), (548, pgb_182_7_b3), (565, pgb_182_7_b4)]
set_option maxRecDepth 20000 in
theorem pgc_182_7 : pgB_182_7.all (fun q => q.2.all (pg_ok (pg_cc 182))) = true := by decide +kernel
/-- MarkovDeskModel.<init>()V -/
def pgb_182_8_b0 : List pg_R := [(565, .bipush 48, 567, 0), (567, .invokespecial 208, 570, 0), (570, .putfield 218, 573, 0), (573, .aload_n 0, 574, 0), (574, .new 206, 577, 0), (577, .dup, 578, 0), (578, .bipush 48, 580, 0), (580, .invokespecial 208, 583, 0)]
def pgb_182_8_b1 : List pg_R := [(583, .putfield 221, 586, 0), (586, .aload_n 0, 587, 0), (587, .new 206, 590, 0), (590, .dup, 591, 0), (591, .bipush 48, 593, 0), (593, .invokespecial 208, 596, 0), (596, .putfield 224, 599, 0), (599, .aload_n 0, 600, 0)]
def pgb_182_8_b2 : List pg_R := [(600, .new 206, 603, 0), (603, .dup, 604, 0), (604, .sipush 1300, 607, 0), (607, .invokespecial 208, 610, 0), (610, .putfield 227, 613, 0), (613, .aload_n 0, 614, 0), (614, .new 206, 617, 0), (617, .dup, 618, 0)]
def pgb_182_8_b3 : List pg_R := [(618, .sipush 1300, 621, 0), (621, .invokespecial 208, 624, 0), (624, .putfield 230, 627, 0), (627, .aload_n 0, 628, 0), (628, .new 206, 631, 0), (631, .dup, 632, 0), (632, .sipush 1300, 635, 0), (635, .invokespecial 208, 638, 0)]
def pgb_182_8_b4 : List pg_R := [(638, .putfield 233, 641, 0), (641, .aload_n 0, 642, 0), (642, .new 206, 645, 0), (645, .dup, 646, 0), (646, .sipush 1300, 649, 0), (649, .invokespecial 208, 652, 0), (652, .putfield 236, 655, 0), (655, .aload_n 0, 656, 0)]
def pgB_182_8 : pg_Bk := [(583, pgb_182_8_b0), (600, pgb_182_8_b1), (618, pgb_182_8_b2), (638, pgb_182_8_b3), (656, pgb_182_8_b4)]
set_option maxRecDepth 20000 in
theorem pgc_182_8 : pgB_182_8.all (fun q => q.2.all (pg_ok (pg_cc 182))) = true := by decide +kernel
/-- MarkovDeskModel.<init>()V -/
def pgb_182_9_b0 : List pg_R := [(656, .new 206, 659, 0), (659, .dup, 660, 0), (660, .sipush 1300, 663, 0), (663, .invokespecial 208, 666, 0), (666, .putfield 239, 669, 0), (669, .aload_n 0, 670, 0), (670, .iconst 2, 671, 0), (671, .newarray .boolean, 673, 0)]
def pgb_182_9_b1 : List pg_R := [(673, .putfield 242, 676, 0), (676, .aload_n 0, 677, 0), (677, .iconst 2, 678, 0), (678, .newarray .boolean, 680, 0), (680, .putfield 245, 683, 0), (683, .aload_n 0, 684, 0), (684, .bipush 48, 686, 0), (686, .newarray .boolean, 688, 0)]
def pgb_182_9_b2 : List pg_R := [(688, .putfield 248, 691, 0), (691, .aload_n 0, 692, 0), (692, .bipush 48, 694, 0), (694, .newarray .int, 696, 0), (696, .putfield 251, 699, 0), (699, .aload_n 0, 700, 0), (700, .iconst 2, 701, 0), (701, .newarray .int, 703, 0)]
def pgb_182_9_b3 : List pg_R := [(703, .putfield 254, 706, 0), (706, .aload_n 0, 707, 0), (707, .bipush 24, 709, 0), (709, .newarray .int, 711, 0), (711, .putfield 257, 714, 0), (714, .aload_n 0, 715, 0), (715, .bipush 24, 717, 0), (717, .newarray .int, 719, 0)]
def pgb_182_9_b4 : List pg_R := [(719, .putfield 260, 722, 0), (722, .aload_n 0, 723, 0), (723, .bipush 24, 725, 0), (725, .newarray .int, 727, 0), (727, .putfield 263, 730, 0), (730, .aload_n 0, 731, 0), (731, .bipush 48, 733, 0), (733, .anewarray 206, 736, 0)]
def pgB_182_9 : pg_Bk := [(673, pgb_182_9_b0), (688, pgb_182_9_b1), (703, pgb_182_9_b2), (719, pgb_182_9_b3), (734, pgb_182_9_b4)]
set_option maxRecDepth 20000 in
theorem pgc_182_9 : pgB_182_9.all (fun q => q.2.all (pg_ok (pg_cc 182))) = true := by decide +kernel
/-- MarkovDeskModel.<init>()V -/
def pgb_182_10_b0 : List pg_R := [(736, .putfield 266, 739, 0), (739, .aload_n 0, 740, 0), (740, .iconst 2, 741, 0), (741, .anewarray 206, 744, 0), (744, .putfield 270, 747, 0), (747, .aload_n 0, 748, 0), (748, .sipush 576, 751, 0), (751, .anewarray 206, 754, 0)]
def pgb_182_10_b1 : List pg_R := [(754, .putfield 273, 757, 0), (757, .aload_n 0, 758, 0), (758, .bipush 24, 760, 0), (760, .anewarray 206, 763, 0), (763, .putfield 276, 766, 0), (766, .aload_n 0, 767, 0), (767, .bipush 24, 769, 0), (769, .anewarray 206, 772, 0)]
def pgb_182_10_b2 : List pg_R := [(772, .putfield 279, 775, 0), (775, .aload_n 0, 776, 0), (776, .bipush 24, 778, 0), (778, .anewarray 206, 781, 0), (781, .putfield 282, 784, 0), (784, .aload_n 0, 785, 0), (785, .bipush 24, 787, 0), (787, .anewarray 206, 790, 0)]
def pgb_182_10_b3 : List pg_R := [(790, .putfield 285, 793, 0), (793, .aload_n 0, 794, 0), (794, .bipush 24, 796, 0), (796, .anewarray 206, 799, 0), (799, .putfield 288, 802, 0), (802, .aload_n 0, 803, 0), (803, .bipush 24, 805, 0), (805, .anewarray 206, 808, 0)]
def pgb_182_10_b4 : List pg_R := [(808, .putfield 291, 811, 0), (811, .aload_n 0, 812, 0), (812, .new 206, 815, 0), (815, .dup, 816, 0), (816, .sipush 300, 819, 0), (819, .invokespecial 208, 822, 0), (822, .putfield 294, 825, 0), (825, .aload_n 0, 826, 0)]
def pgB_182_10 : pg_Bk := [(754, pgb_182_10_b0), (772, pgb_182_10_b1), (790, pgb_182_10_b2), (808, pgb_182_10_b3), (826, pgb_182_10_b4)]
set_option maxRecDepth 20000 in
theorem pgc_182_10 : pgB_182_10.all (fun q => q.2.all (pg_ok (pg_cc 182))) = true := by decide +kernel
/-- MarkovDeskModel.<init>()V -/
def pgb_182_11_b0 : List pg_R := [(826, .new 206, 829, 0), (829, .dup, 830, 0), (830, .sipush 300, 833, 0), (833, .invokespecial 208, 836, 0), (836, .putfield 297, 839, 0), (839, .aload_n 0, 840, 0), (840, .new 206, 843, 0), (843, .dup, 844, 0)]
def pgb_182_11_b1 : List pg_R := [(844, .sipush 300, 847, 0), (847, .invokespecial 208, 850, 0), (850, .putfield 300, 853, 0), (853, .aload_n 0, 854, 0), (854, .new 206, 857, 0), (857, .dup, 858, 0), (858, .sipush 600, 861, 0), (861, .invokespecial 208, 864, 0)]
def pgb_182_11_b2 : List pg_R := [(864, .putfield 303, 867, 0), (867, .aload_n 0, 868, 0), (868, .new 206, 871, 0), (871, .dup, 872, 0), (872, .sipush 300, 875, 0), (875, .invokespecial 208, 878, 0), (878, .putfield 306, 881, 0), (881, .aload_n 0, 882, 0)]
def pgb_182_11_b3 : List pg_R := [(882, .new 206, 885, 0), (885, .dup, 886, 0), (886, .sipush 600, 889, 0), (889, .invokespecial 208, 892, 0), (892, .putfield 309, 895, 0), (895, .aload_n 0, 896, 0), (896, .new 206, 899, 0), (899, .dup, 900, 0)]
def pgb_182_11_b4 : List pg_R := [(900, .sipush 300, 903, 0), (903, .invokespecial 208, 906, 0), (906, .putfield 312, 909, 0), (909, .aload_n 0, 910, 0), (910, .new 206, 913, 0), (913, .dup, 914, 0), (914, .sipush 900, 917, 0), (917, .invokespecial 208, 920, 0)]
def pgB_182_11 : pg_Bk := [(844, pgb_182_11_b0), (864, pgb_182_11_b1), (882, pgb_182_11_b2), (900, pgb_182_11_b3), (918, pgb_182_11_b4)]
set_option maxRecDepth 20000 in
theorem pgc_182_11 : pgB_182_11.all (fun q => q.2.all (pg_ok (pg_cc 182))) = true := by decide +kernel
/-- MarkovDeskModel.<init>()V -/
def pgb_182_12_b0 : List pg_R := [(920, .putfield 315, 923, 0), (923, .aload_n 0, 924, 0), (924, .new 206, 927, 0), (927, .dup, 928, 0), (928, .sipush 900, 931, 0), (931, .invokespecial 208, 934, 0), (934, .putfield 318, 937, 0), (937, .aload_n 0, 938, 0)]
def pgb_182_12_b1 : List pg_R := [(938, .new 206, 941, 0), (941, .dup, 942, 0), (942, .sipush 300, 945, 0), (945, .invokespecial 208, 948, 0), (948, .putfield 321, 951, 0), (951, .aload_n 0, 952, 0), (952, .new 206, 955, 0), (955, .dup, 956, 0)]
def pgb_182_12_b2 : List pg_R := [(956, .sipush 1300, 959, 0), (959, .invokespecial 208, 962, 0), (962, .putfield 324, 965, 0), (965, .aload_n 0, 966, 0), (966, .new 206, 969, 0), (969, .dup, 970, 0), (970, .sipush 1300, 973, 0), (973, .invokespecial 208, 976, 0)]
def pgb_182_12_b3 : List pg_R := [(976, .putfield 327, 979, 0), (979, .aload_n 0, 980, 0), (980, .new 206, 983, 0), (983, .dup, 984, 0), (984, .sipush 1300, 987, 0), (987, .invokespecial 208, 990, 0), (990, .putfield 330, 993, 0), (993, .aload_n 0, 994, 0)]
def pgb_182_12_b4 : List pg_R := [(994, .bipush 24, 996, 0), (996, .newarray .boolean, 998, 0), (998, .putfield 333, 1001, 0), (1001, .aload_n 0, 1002, 0), (1002, .invokevirtual 336, 1005, 0), (1005, .return_, 1006, 0)]
def pgB_182_12 : pg_Bk := [(938, pgb_182_12_b0), (956, pgb_182_12_b1), (976, pgb_182_12_b2), (994, pgb_182_12_b3), (1006, pgb_182_12_b4)]
set_option maxRecDepth 20000 in
theorem pgc_182_12 : pgB_182_12.all (fun q => q.2.all (pg_ok (pg_cc 182))) = true := by decide +kernel
def pgB_182 : pg_Bk := pgB_182_0 ++ (pgB_182_1 ++ (pgB_182_2 ++ (pgB_182_3 ++ (pgB_182_4 ++ (pgB_182_5 ++ (pgB_182_6 ++ (pgB_182_7 ++ (pgB_182_8 ++ (pgB_182_9 ++ (pgB_182_10 ++ (pgB_182_11 ++ (pgB_182_12))))))))))))
theorem pgc_182 : pgB_182.all (fun q => q.2.all (pg_ok (pg_cc 182))) = true := pg_all2 pgc_182_0 (pg_all2 pgc_182_1 (pg_all2 pgc_182_2 (pg_all2 pgc_182_3 (pg_all2 pgc_182_4 (pg_all2 pgc_182_5 (pg_all2 pgc_182_6 (pg_all2 pgc_182_7 (pg_all2 pgc_182_8 (pg_all2 pgc_182_9 (pg_all2 pgc_182_10 (pg_all2 pgc_182_11 (pgc_182_12))))))))))))
