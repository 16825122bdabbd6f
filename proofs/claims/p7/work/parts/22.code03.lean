/-- MarkovDesk$Machine.join(III)I -/
def pgb_82_0_b0 : List pg_R := [(0, .iload_n 1, 1, 0), (1, .tableswitch 223 15 29 #[105, 116, 127, 223, 223, 223, 163, 193, 223, 148, 178, 208, 75, 85, 95], 76, 0), (76, .iload_n 2, 77, 0), (77, .i2l, 78, 0), (78, .iload_n 3, 79, 0), (79, .i2l, 80, 0), (80, .ladd, 81, 0), (81, .lstore 4, 83, 0)]
def pgb_82_0_b1 : List pg_R := [(83, .goto 153, 86, 236), (86, .iload_n 2, 87, 0), (87, .i2l, 88, 0), (88, .iload_n 3, 89, 0), (89, .i2l, 90, 0), (90, .lsub, 91, 0), (91, .lstore 4, 93, 0), (93, .goto 143, 96, 236)]
def pgb_82_0_b2 : List pg_R := [(96, .iload_n 2, 97, 0), (97, .i2l, 98, 0), (98, .iload_n 3, 99, 0), (99, .i2l, 100, 0), (100, .lmul, 101, 0), (101, .lstore 4, 103, 0), (103, .goto 133, 106, 236), (106, .iload_n 2, 107, 0)]
def pgb_82_0_b3 : List pg_R := [(107, .iload_n 3, 108, 0), (108, .invokestatic 33, 111, 0), (111, .i2l, 112, 0), (112, .lstore 4, 114, 0), (114, .goto 122, 117, 236), (117, .iload_n 2, 118, 0), (118, .iload_n 3, 119, 0), (119, .invokestatic 39, 122, 0)]
def pgb_82_0_b4 : List pg_R := [(122, .i2l, 123, 0), (123, .lstore 4, 125, 0), (125, .goto 111, 128, 236), (128, .iload_n 3, 129, 0), (129, .ifCond .le 12, 132, 141), (132, .iload_n 2, 133, 0), (133, .iload_n 3, 134, 0), (134, .invokestatic 42, 137, 0)]
def pgb_82_0_b5 : List pg_R := [(137, .i2l, 138, 0), (138, .goto 6, 141, 144), (141, .ldc2_w 47, 144, 0), (144, .lstore 4, 146, 0), (146, .goto 90, 149, 236), (149, .iload_n 2, 150, 0), (150, .iload_n 3, 151, 0), (151, .if_icmp .ne 7, 154, 158)]
def pgb_82_0_b6 : List pg_R := [(154, .lconst 1, 155, 0), (155, .goto 4, 158, 159), (158, .lconst 0, 159, 0), (159, .lstore 4, 161, 0), (161, .goto 75, 164, 236), (164, .iload_n 2, 165, 0), (165, .iload_n 3, 166, 0), (166, .if_icmp .eq 7, 169, 173)]
def pgb_82_0_b7 : List pg_R := [(169, .lconst 1, 170, 0), (170, .goto 4, 173, 174), (173, .lconst 0, 174, 0), (174, .lstore 4, 176, 0)]
def pgB_82_0 : pg_Bk := [(83, pgb_82_0_b0), (96, pgb_82_0_b1), (107, pgb_82_0_b2), (122, pgb_82_0_b3), (137, pgb_82_0_b4), (154, pgb_82_0_b5), (169, pgb_82_0_b6), (175, pgb_82_0_b7)]
set_option maxRecDepth 20000 in
theorem pgc_82_0 : pgB_82_0.all (fun q => q.2.all (pg_ok (pg_cc 82))) = true := by decide +kernel
/-- MarkovDesk$Machine.join(III)I -/
def pgb_82_1_b0 : List pg_R := [(176, .goto 60, 179, 236), (179, .iload_n 2, 180, 0), (180, .iload_n 3, 181, 0), (181, .if_icmp .ge 7, 184, 188), (184, .lconst 1, 185, 0), (185, .goto 4, 188, 189), (188, .lconst 0, 189, 0), (189, .lstore 4, 191, 0)]
def pgb_82_1_b1 : List pg_R := [(191, .goto 45, 194, 236), (194, .iload_n 2, 195, 0), (195, .iload_n 3, 196, 0), (196, .if_icmp .gt 7, 199, 203), (199, .lconst 1, 200, 0), (200, .goto 4, 203, 204), (203, .lconst 0, 204, 0), (204, .lstore 4, 206, 0)]
def pgb_82_1_b2 : List pg_R := [(206, .goto 30, 209, 236), (209, .iload_n 2, 210, 0), (210, .iload_n 3, 211, 0), (211, .if_icmp .le 7, 214, 218), (214, .lconst 1, 215, 0), (215, .goto 4, 218, 219), (218, .lconst 0, 219, 0), (219, .lstore 4, 221, 0)]
def pgb_82_1_b3 : List pg_R := [(221, .goto 15, 224, 236), (224, .iload_n 2, 225, 0), (225, .iload_n 3, 226, 0), (226, .if_icmp .lt 7, 229, 233), (229, .lconst 1, 230, 0), (230, .goto 4, 233, 234), (233, .lconst 0, 234, 0), (234, .lstore 4, 236, 0)]
def pgb_82_1_b4 : List pg_R := [(236, .lload 4, 238, 0), (238, .lload 4, 240, 0), (240, .l2i, 241, 0), (241, .i2l, 242, 0), (242, .lcmp, 243, 0), (243, .ifCond .eq 8, 246, 251), (246, .aload_n 0, 247, 0), (247, .iconst 1, 248, 0)]
def pgb_82_1_b5 : List pg_R := [(248, .putfield 25, 251, 0), (251, .lload 4, 253, 0), (253, .l2i, 254, 0), (254, .ireturn, 255, 0)]
def pgB_82_1 : pg_Bk := [(191, pgb_82_1_b0), (206, pgb_82_1_b1), (221, pgb_82_1_b2), (236, pgb_82_1_b3), (248, pgb_82_1_b4), (255, pgb_82_1_b5)]
set_option maxRecDepth 20000 in
theorem pgc_82_1 : pgB_82_1.all (fun q => q.2.all (pg_ok (pg_cc 82))) = true := by decide +kernel
def pgB_82 : pg_Bk := pgB_82_0 ++ (pgB_82_1)
theorem pgc_82 : pgB_82.all (fun q => q.2.all (pg_ok (pg_cc 82))) = true := pg_all2 pgc_82_0 (pgc_82_1)
/-- java/lang/Math.floorMod(II)I -/
def pgb_83_b0 : List pg_R := [(0, .iload_n 0, 1, 0), (1, .iload_n 1, 2, 0), (2, .irem, 3, 0), (3, .istore_n 2, 4, 0), (4, .iload_n 0, 5, 0), (5, .iload_n 1, 6, 0), (6, .ixor, 7, 0), (7, .ifCond .ge 11, 10, 18)]
def pgb_83_b1 : List pg_R := [(10, .iload_n 2, 11, 0), (11, .ifCond .eq 7, 14, 18), (14, .iload_n 2, 15, 0), (15, .iload_n 1, 16, 0), (16, .iadd, 17, 0), (17, .ireturn, 18, 0), (18, .iload_n 2, 19, 0), (19, .ireturn, 20, 0)]
def pgB_83 : pg_Bk := [(10, pgb_83_b0), (20, pgb_83_b1)]
set_option maxRecDepth 20000 in
theorem pgc_83 : pgB_83.all (fun q => q.2.all (pg_ok (pg_cc 83))) = true := by decide +kernel
/-- MarkovDesk$Reader.remember(III)V -/
def pgb_84_b0 : List pg_R := [(0, .aload_n 0, 1, 0), (1, .getfield 65, 4, 0), (4, .aload_n 0, 5, 0), (5, .getfield 9, 8, 0), (8, .arraylength, 9, 0), (9, .if_icmp .ge 43, 12, 52), (12, .aload_n 0, 13, 0), (13, .getfield 9, 16, 0)]
def pgb_84_b1 : List pg_R := [(16, .aload_n 0, 17, 0), (17, .getfield 65, 20, 0), (20, .iload_n 1, 21, 0), (21, .iastore, 22, 0), (22, .aload_n 0, 23, 0), (23, .getfield 15, 26, 0), (26, .aload_n 0, 27, 0), (27, .getfield 65, 30, 0)]
def pgb_84_b2 : List pg_R := [(30, .iload_n 2, 31, 0), (31, .iastore, 32, 0), (32, .aload_n 0, 33, 0), (33, .getfield 18, 36, 0), (36, .aload_n 0, 37, 0), (37, .getfield 65, 40, 0), (40, .iload_n 3, 41, 0), (41, .iastore, 42, 0)]
def pgb_84_b3 : List pg_R := [(42, .aload_n 0, 43, 0), (43, .dup, 44, 0), (44, .getfield 65, 47, 0), (47, .iconst 1, 48, 0), (48, .iadd, 49, 0), (49, .putfield 65, 52, 0), (52, .return_, 53, 0)]
def pgB_84 : pg_Bk := [(16, pgb_84_b0), (30, pgb_84_b1), (42, pgb_84_b2), (53, pgb_84_b3)]
set_option maxRecDepth 20000 in
theorem pgc_84 : pgB_84.all (fun q => q.2.all (pg_ok (pg_cc 84))) = true := by decide +kernel
/-- MarkovDesk$Reader.openModule()V -/
def pgb_85_b0 : List pg_R := [(0, .aload_n 0, 1, 0), (1, .getfield 51, 4, 0), (4, .getfield 109, 7, 0), (7, .iconst 3, 8, 0), (8, .if_icmp .lt 11, 11, 19), (11, .aload_n 0, 12, 0), (12, .aload_n 0, 13, 0), (13, .invokevirtual 98, 16, 0)]
def pgb_85_b1 : List pg_R := [(16, .invokevirtual 74, 19, 0), (19, .aload_n 0, 20, 0), (20, .bipush 9, 22, 0), (22, .invokevirtual 87, 25, 0), (25, .aload_n 0, 26, 0), (26, .aload_n 0, 27, 0), (27, .invokevirtual 90, 30, 0), (30, .iconst 2, 31, 0)]
def pgb_85_b2 : List pg_R := [(31, .aload_n 0, 32, 0), (32, .getfield 51, 35, 0), (35, .getfield 109, 38, 0), (38, .invokevirtual 105, 41, 0), (41, .aload_n 0, 42, 0), (42, .getfield 51, 45, 0), (45, .dup, 46, 0), (46, .getfield 109, 49, 0)]
def pgb_85_b3 : List pg_R := [(49, .iconst 1, 50, 0), (50, .iadd, 51, 0), (51, .putfield 109, 54, 0), (54, .aload_n 0, 55, 0), (55, .aload_n 0, 56, 0), (56, .getfield 51, 59, 0), (59, .getfield 112, 62, 0), (62, .putfield 115, 65, 0)]
def pgb_85_b4 : List pg_R := [(65, .return_, 66, 0)]
def pgB_85 : pg_Bk := [(16, pgb_85_b0), (31, pgb_85_b1), (49, pgb_85_b2), (65, pgb_85_b3), (66, pgb_85_b4)]
set_option maxRecDepth 20000 in
theorem pgc_85 : pgB_85.all (fun q => q.2.all (pg_ok (pg_cc 85))) = true := by decide +kernel
/-- MarkovDesk$Reader.readVariable()V -/
def pgb_86_0_b0 : List pg_R := [(0, .aload_n 0, 1, 0), (1, .getfield 51, 4, 0), (4, .getfield 112, 7, 0), (7, .istore_n 1, 8, 0), (8, .iload_n 1, 9, 0), (9, .bipush 8, 11, 0), (11, .if_icmp .lt 11, 14, 22), (14, .aload_n 0, 15, 0)]
def pgb_86_0_b1 : List pg_R := [(15, .aload_n 0, 16, 0), (16, .invokevirtual 98, 19, 0), (19, .invokevirtual 74, 22, 0), (22, .aload_n 0, 23, 0), (23, .invokevirtual 90, 26, 0), (26, .istore_n 2, 27, 0), (27, .aload_n 0, 28, 0), (28, .bipush 35, 30, 0)]
def pgb_86_0_b2 : List pg_R := [(30, .invokevirtual 87, 33, 0), (33, .aload_n 0, 34, 0), (34, .invokevirtual 118, 37, 0), (37, .bipush 8, 39, 0), (39, .if_icmp .ne 40, 42, 79), (42, .aload_n 0, 43, 0), (43, .invokevirtual 84, 46, 0), (46, .aload_n 0, 47, 0)]
def pgb_86_0_b3 : List pg_R := [(47, .getfield 51, 50, 0), (50, .getfield 124, 53, 0), (53, .iload_n 1, 54, 0), (54, .iconst 2, 55, 0), (55, .iastore, 56, 0), (56, .aload_n 0, 57, 0), (57, .getfield 51, 60, 0), (60, .getfield 127, 63, 0)]
def pgb_86_0_b4 : List pg_R := [(63, .iload_n 1, 64, 0), (64, .iconst 0, 65, 0), (65, .iastore, 66, 0), (66, .aload_n 0, 67, 0), (67, .getfield 51, 70, 0), (70, .getfield 130, 73, 0), (73, .iload_n 1, 74, 0), (74, .iconst 1, 75, 0)]
def pgb_86_0_b5 : List pg_R := [(75, .iastore, 76, 0), (76, .goto 8, 79, 84), (79, .aload_n 0, 80, 0), (80, .iload_n 1, 81, 0), (81, .invokevirtual 133, 84, 0), (84, .aload_n 0, 85, 0), (85, .invokevirtual 118, 88, 0), (88, .bipush 11, 90, 0)]
def pgb_86_0_b6 : List pg_R := [(90, .if_icmp .ne 7, 93, 97), (93, .iconst 1, 94, 0), (94, .goto 4, 97, 98), (97, .iconst 0, 98, 0), (98, .istore_n 3, 99, 0), (99, .aload_n 0, 100, 0), (100, .getfield 47, 103, 0), (103, .getfield 60, 106, 0)]
def pgb_86_0_b7 : List pg_R := [(106, .istore 4, 108, 0), (108, .iload_n 3, 109, 0), (109, .ifCond .eq 23, 112, 132), (112, .aload_n 0, 113, 0)]
def pgB_86_0 : pg_Bk := [(15, pgb_86_0_b0), (30, pgb_86_0_b1), (47, pgb_86_0_b2), (63, pgb_86_0_b3), (75, pgb_86_0_b4), (90, pgb_86_0_b5), (106, pgb_86_0_b6), (113, pgb_86_0_b7)]
set_option maxRecDepth 20000 in
theorem pgc_86_0 : pgB_86_0.all (fun q => q.2.all (pg_ok (pg_cc 86))) = true := by decide +kernel
/-- MarkovDesk$Reader.readVariable()V -/
def pgb_86_1_b0 : List pg_R := [(113, .invokevirtual 84, 116, 0), (116, .aload_n 0, 117, 0), (117, .aload_n 0, 118, 0), (118, .getfield 51, 121, 0), (121, .getfield 124, 124, 0), (124, .iload_n 1, 125, 0), (125, .iaload, 126, 0), (126, .iconst 0, 127, 0)]
def pgb_86_1_b1 : List pg_R := [(127, .invokevirtual 94, 130, 0), (130, .istore 4, 132, 0), (132, .aload_n 0, 133, 0), (133, .invokevirtual 98, 136, 0), (136, .istore 5, 138, 0), (138, .aload_n 0, 139, 0), (139, .bipush 36, 141, 0), (141, .invokevirtual 87, 144, 0)]
def pgb_86_1_b2 : List pg_R := [(144, .aload_n 0, 145, 0), (145, .getfield 51, 148, 0), (148, .getfield 136, 151, 0), (151, .iload_n 1, 152, 0), (152, .iload_n 3, 153, 0), (153, .ifCond .eq 14, 156, 167), (156, .aload_n 0, 157, 0), (157, .iload 4, 159, 0)]
def pgb_86_1_b3 : List pg_R := [(159, .iload 5, 161, 0), (161, .invokevirtual 101, 164, 0), (164, .goto 12, 167, 176), (167, .aload_n 0, 168, 0), (168, .getfield 51, 171, 0), (171, .getfield 127, 174, 0), (174, .iload_n 1, 175, 0), (175, .iaload, 176, 0)]
def pgb_86_1_b4 : List pg_R := [(176, .iastore, 177, 0), (177, .aload_n 0, 178, 0), (178, .getfield 51, 181, 0), (181, .getfield 136, 184, 0), (184, .iload_n 1, 185, 0), (185, .iaload, 186, 0), (186, .aload_n 0, 187, 0), (187, .getfield 51, 190, 0)]
def pgb_86_1_b5 : List pg_R := [(190, .getfield 127, 193, 0), (193, .iload_n 1, 194, 0), (194, .iaload, 195, 0), (195, .if_icmp .lt 24, 198, 219), (198, .aload_n 0, 199, 0), (199, .getfield 51, 202, 0), (202, .getfield 136, 205, 0), (205, .iload_n 1, 206, 0)]
def pgb_86_1_b6 : List pg_R := [(206, .iaload, 207, 0), (207, .aload_n 0, 208, 0), (208, .getfield 51, 211, 0), (211, .getfield 130, 214, 0), (214, .iload_n 1, 215, 0), (215, .iaload, 216, 0), (216, .if_icmp .le 9, 219, 225), (219, .aload_n 0, 220, 0)]
def pgb_86_1_b7 : List pg_R := [(220, .iload 5, 222, 0), (222, .invokevirtual 74, 225, 0), (225, .aload_n 0, 226, 0), (226, .getfield 51, 229, 0)]
def pgB_86_1 : pg_Bk := [(127, pgb_86_1_b0), (144, pgb_86_1_b1), (159, pgb_86_1_b2), (176, pgb_86_1_b3), (190, pgb_86_1_b4), (206, pgb_86_1_b5), (220, pgb_86_1_b6), (227, pgb_86_1_b7)]
set_option maxRecDepth 20000 in
theorem pgc_86_1 : pgB_86_1.all (fun q => q.2.all (pg_ok (pg_cc 86))) = true := by decide +kernel
/-- MarkovDesk$Reader.readVariable()V -/
def pgb_86_2_b0 : List pg_R := [(229, .iload_n 1, 230, 0), (230, .iconst 1, 231, 0), (231, .iadd, 232, 0), (232, .putfield 112, 235, 0), (235, .aload_n 0, 236, 0), (236, .iload_n 2, 237, 0), (237, .iconst 1, 238, 0), (238, .iload_n 1, 239, 0)]
def pgb_86_2_b1 : List pg_R := [(239, .invokevirtual 105, 242, 0), (242, .return_, 243, 0)]
def pgB_86_2 : pg_Bk := [(239, pgb_86_2_b0), (243, pgb_86_2_b1)]
set_option maxRecDepth 20000 in
theorem pgc_86_2 : pgB_86_2.all (fun q => q.2.all (pg_ok (pg_cc 86))) = true := by decide +kernel
def pgB_86 : pg_Bk := pgB_86_0 ++ (pgB_86_1 ++ (pgB_86_2))
theorem pgc_86 : pgB_86.all (fun q => q.2.all (pg_ok (pg_cc 86))) = true := pg_all2 pgc_86_0 (pg_all2 pgc_86_1 (pgc_86_2))
/-- MarkovDesk$Reader.readBounds(I)V -/
def pgb_87_0_b0 : List pg_R := [(0, .aload_n 0, 1, 0), (1, .bipush 41, 3, 0), (3, .invokevirtual 87, 6, 0), (6, .aload_n 0, 7, 0), (7, .iconst 1, 8, 0), (8, .iconst 0, 9, 0), (9, .invokevirtual 94, 12, 0), (12, .istore_n 2, 13, 0)]
def pgb_87_0_b1 : List pg_R := [(13, .aload_n 0, 14, 0), (14, .bipush 19, 16, 0), (16, .invokevirtual 87, 19, 0), (19, .aload_n 0, 20, 0), (20, .iconst 1, 21, 0), (21, .iconst 0, 22, 0), (22, .invokevirtual 94, 25, 0), (25, .istore_n 3, 26, 0)]
def pgb_87_0_b2 : List pg_R := [(26, .aload_n 0, 27, 0), (27, .invokevirtual 98, 30, 0), (30, .istore 4, 32, 0), (32, .aload_n 0, 33, 0), (33, .bipush 42, 35, 0), (35, .invokevirtual 87, 38, 0), (38, .aload_n 0, 39, 0), (39, .getfield 51, 42, 0)]
def pgb_87_0_b3 : List pg_R := [(42, .getfield 124, 45, 0), (45, .iload_n 1, 46, 0), (46, .iconst 1, 47, 0), (47, .iastore, 48, 0), (48, .aload_n 0, 49, 0), (49, .getfield 51, 52, 0), (52, .getfield 130, 55, 0), (55, .iload_n 1, 56, 0)]
def pgb_87_0_b4 : List pg_R := [(56, .aload_n 0, 57, 0), (57, .iload_n 3, 58, 0), (58, .iload 4, 60, 0), (60, .invokevirtual 101, 63, 0), (63, .iastore, 64, 0), (64, .aload_n 0, 65, 0), (65, .getfield 51, 68, 0), (68, .getfield 127, 71, 0)]
def pgb_87_0_b5 : List pg_R := [(71, .iload_n 1, 72, 0), (72, .aload_n 0, 73, 0), (73, .iload_n 2, 74, 0), (74, .iload 4, 76, 0), (76, .invokevirtual 101, 79, 0), (79, .iastore, 80, 0), (80, .aload_n 0, 81, 0), (81, .getfield 51, 84, 0)]
def pgb_87_0_b6 : List pg_R := [(84, .getfield 130, 87, 0), (87, .iload_n 1, 88, 0), (88, .iaload, 89, 0), (89, .i2l, 90, 0), (90, .aload_n 0, 91, 0), (91, .getfield 51, 94, 0), (94, .getfield 127, 97, 0), (97, .iload_n 1, 98, 0)]
def pgb_87_0_b7 : List pg_R := [(98, .iaload, 99, 0), (99, .i2l, 100, 0), (100, .lsub, 101, 0), (101, .lconst 1, 102, 0)]
def pgB_87_0 : pg_Bk := [(13, pgb_87_0_b0), (26, pgb_87_0_b1), (42, pgb_87_0_b2), (56, pgb_87_0_b3), (71, pgb_87_0_b4), (84, pgb_87_0_b5), (98, pgb_87_0_b6), (102, pgb_87_0_b7)]
set_option maxRecDepth 20000 in
theorem pgc_87_0 : pgB_87_0.all (fun q => q.2.all (pg_ok (pg_cc 87))) = true := by decide +kernel
/-- MarkovDesk$Reader.readBounds(I)V -/
def pgb_87_1_b0 : List pg_R := [(102, .ladd, 103, 0), (103, .lstore 5, 105, 0), (105, .lload 5, 107, 0), (107, .lconst 1, 108, 0), (108, .lcmp, 109, 0), (109, .ifCond .lt 12, 112, 121), (112, .lload 5, 114, 0), (114, .ldc2_w 139, 117, 0)]
def pgb_87_1_b1 : List pg_R := [(117, .lcmp, 118, 0), (118, .ifCond .le 9, 121, 127), (121, .aload_n 0, 122, 0), (122, .iload 4, 124, 0), (124, .invokevirtual 74, 127, 0), (127, .return_, 128, 0)]
def pgB_87_1 : pg_Bk := [(117, pgb_87_1_b0), (128, pgb_87_1_b1)]
set_option maxRecDepth 20000 in
theorem pgc_87_1 : pgB_87_1.all (fun q => q.2.all (pg_ok (pg_cc 87))) = true := by decide +kernel
def pgB_87 : pg_Bk := pgB_87_0 ++ (pgB_87_1)
theorem pgc_87 : pgB_87.all (fun q => q.2.all (pg_ok (pg_cc 87))) = true := pg_all2 pgc_87_0 (pgc_87_1)
/-- MarkovDesk$Reader.readCommand()V -/
def pgb_88_0_b0 : List pg_R := [(0, .aload_n 0, 1, 0), (1, .getfield 51, 4, 0), (4, .getfield 149, 7, 0), (7, .istore_n 1, 8, 0), (8, .iload_n 1, 9, 0), (9, .bipush 40, 11, 0), (11, .if_icmp .lt 11, 14, 22), (14, .aload_n 0, 15, 0)]
def pgb_88_0_b1 : List pg_R := [(15, .aload_n 0, 16, 0), (16, .invokevirtual 98, 19, 0), (19, .invokevirtual 74, 22, 0), (22, .aload_n 0, 23, 0), (23, .bipush 41, 25, 0), (25, .invokevirtual 87, 28, 0), (28, .aload_n 0, 29, 0), (29, .getfield 51, 32, 0)]
def pgb_88_0_b2 : List pg_R := [(32, .getfield 152, 35, 0), (35, .iload_n 1, 36, 0), (36, .aload_n 0, 37, 0), (37, .getfield 51, 40, 0), (40, .getfield 109, 43, 0), (43, .iconst 1, 44, 0), (44, .isub, 45, 0), (45, .iastore, 46, 0)]
def pgb_88_0_b3 : List pg_R := [(46, .aload_n 0, 47, 0), (47, .getfield 51, 50, 0), (50, .getfield 155, 53, 0), (53, .iload_n 1, 54, 0), (54, .iconst (-1), 55, 0), (55, .iastore, 56, 0), (56, .aload_n 0, 57, 0), (57, .invokevirtual 118, 60, 0)]
def pgb_88_0_b4 : List pg_R := [(60, .iconst 2, 61, 0), (61, .if_icmp .ne 24, 64, 85), (64, .aload_n 0, 65, 0), (65, .getfield 51, 68, 0), (68, .getfield 155, 71, 0), (71, .iload_n 1, 72, 0), (72, .aload_n 0, 73, 0), (73, .aload_n 0, 74, 0)]
def pgb_88_0_b5 : List pg_R := [(74, .getfield 81, 77, 0), (77, .invokevirtual 158, 80, 0), (80, .iastore, 81, 0), (81, .aload_n 0, 82, 0), (82, .invokevirtual 84, 85, 0), (85, .aload_n 0, 86, 0), (86, .bipush 42, 88, 0), (88, .invokevirtual 87, 91, 0)]
def pgb_88_0_b6 : List pg_R := [(91, .aload_n 0, 92, 0), (92, .getfield 51, 95, 0), (95, .getfield 161, 98, 0), (98, .iload_n 1, 99, 0), (99, .aload_n 0, 100, 0), (100, .iconst 2, 101, 0), (101, .iconst 1, 102, 0), (102, .invokevirtual 94, 105, 0)]
def pgb_88_0_b7 : List pg_R := [(105, .iastore, 106, 0), (106, .aload_n 0, 107, 0), (107, .bipush 18, 109, 0), (109, .invokevirtual 87, 112, 0)]
def pgB_88_0 : pg_Bk := [(15, pgb_88_0_b0), (32, pgb_88_0_b1), (46, pgb_88_0_b2), (60, pgb_88_0_b3), (74, pgb_88_0_b4), (91, pgb_88_0_b5), (105, pgb_88_0_b6), (110, pgb_88_0_b7)]
set_option maxRecDepth 20000 in
theorem pgc_88_0 : pgB_88_0.all (fun q => q.2.all (pg_ok (pg_cc 88))) = true := by decide +kernel
/-- MarkovDesk$Reader.readCommand()V -/
def pgb_88_1_b0 : List pg_R := [(112, .aload_n 0, 113, 0), (113, .getfield 51, 116, 0), (116, .getfield 164, 119, 0), (119, .iload_n 1, 120, 0), (120, .lconst 1, 121, 0), (121, .lastore, 122, 0), (122, .aload_n 0, 123, 0), (123, .getfield 51, 126, 0)]
def pgb_88_1_b1 : List pg_R := [(126, .getfield 168, 129, 0), (129, .iload_n 1, 130, 0), (130, .aload_n 0, 131, 0), (131, .getfield 51, 134, 0), (134, .getfield 171, 137, 0), (137, .iastore, 138, 0), (138, .aload_n 0, 139, 0), (139, .invokevirtual 118, 142, 0)]
def pgb_88_1_b2 : List pg_R := [(142, .bipush 13, 144, 0), (144, .if_icmp .eq 16, 147, 160), (147, .aload_n 0, 148, 0), (148, .invokevirtual 118, 151, 0), (151, .bipush 39, 153, 0), (153, .if_icmp .eq 7, 156, 160), (156, .iconst 1, 157, 0), (157, .goto 4, 160, 161)]
def pgb_88_1_b3 : List pg_R := [(160, .iconst 0, 161, 0), (161, .istore_n 2, 162, 0), (162, .iconst 1, 163, 0), (163, .istore_n 3, 164, 0), (164, .iconst 0, 165, 0), (165, .istore 4, 167, 0), (167, .iload 4, 169, 0), (169, .bipush 6, 171, 0)]
def pgb_88_1_b4 : List pg_R := [(171, .if_icmp .gt 85, 174, 256), (174, .iload_n 3, 175, 0), (175, .ifCond .eq 81, 178, 256), (178, .sipush 1002, 181, 0), (181, .istore 5, 183, 0), (183, .iload_n 2, 184, 0), (184, .ifCond .eq 15, 187, 199), (187, .aload_n 0, 188, 0)]
def pgb_88_1_b5 : List pg_R := [(188, .invokevirtual 174, 191, 0), (191, .istore 5, 193, 0), (193, .aload_n 0, 194, 0), (194, .bipush 35, 196, 0), (196, .invokevirtual 87, 199, 0), (199, .aload_n 0, 200, 0), (200, .iload_n 1, 201, 0), (201, .invokevirtual 177, 204, 0)]
def pgb_88_1_b6 : List pg_R := [(204, .aload_n 0, 205, 0), (205, .iload_n 1, 206, 0), (206, .iload 5, 208, 0), (208, .sipush 1001, 211, 0), (211, .idiv, 212, 0), (212, .i2l, 213, 0), (213, .iload 5, 215, 0), (215, .sipush 1001, 218, 0)]
def pgb_88_1_b7 : List pg_R := [(218, .irem, 219, 0), (219, .i2l, 220, 0), (220, .invokevirtual 180, 223, 0), (223, .iload_n 2, 224, 0)]
def pgB_88_1 : pg_Bk := [(126, pgb_88_1_b0), (142, pgb_88_1_b1), (160, pgb_88_1_b2), (171, pgb_88_1_b3), (188, pgb_88_1_b4), (204, pgb_88_1_b5), (218, pgb_88_1_b6), (224, pgb_88_1_b7)]
set_option maxRecDepth 20000 in
theorem pgc_88_1 : pgB_88_1.all (fun q => q.2.all (pg_ok (pg_cc 88))) = true := by decide +kernel
/-- MarkovDesk$Reader.readCommand()V -/
def pgb_88_2_b0 : List pg_R := [(224, .ifCond .eq 16, 227, 240), (227, .aload_n 0, 228, 0), (228, .invokevirtual 118, 231, 0), (231, .bipush 27, 233, 0), (233, .if_icmp .ne 7, 236, 240), (236, .iconst 1, 237, 0), (237, .goto 4, 240, 241), (240, .iconst 0, 241, 0)]
def pgb_88_2_b1 : List pg_R := [(241, .istore_n 3, 242, 0), (242, .iload_n 3, 243, 0), (243, .ifCond .eq 7, 246, 250), (246, .aload_n 0, 247, 0), (247, .invokevirtual 84, 250, 0), (250, .iinc 4 1, 253, 0), (253, .goto (-86), 256, 167), (256, .aload_n 0, 257, 0)]
def pgb_88_2_b2 : List pg_R := [(257, .invokevirtual 98, 260, 0), (260, .istore 4, 262, 0), (262, .aload_n 0, 263, 0), (263, .bipush 36, 265, 0), (265, .invokevirtual 87, 268, 0), (268, .lconst 0, 269, 0), (269, .lstore 5, 271, 0), (271, .aload_n 0, 272, 0)]
def pgb_88_2_b3 : List pg_R := [(272, .getfield 51, 275, 0), (275, .getfield 168, 278, 0), (278, .iload_n 1, 279, 0), (279, .iaload, 280, 0), (280, .istore 7, 282, 0), (282, .iload 7, 284, 0), (284, .aload_n 0, 285, 0), (285, .getfield 51, 288, 0)]
def pgb_88_2_b4 : List pg_R := [(288, .getfield 171, 291, 0), (291, .if_icmp .ge 24, 294, 315), (294, .lload 5, 296, 0), (296, .aload_n 0, 297, 0), (297, .getfield 51, 300, 0), (300, .getfield 184, 303, 0), (303, .iload 7, 305, 0), (305, .laload, 306, 0)]
def pgb_88_2_b5 : List pg_R := [(306, .ladd, 307, 0), (307, .lstore 5, 309, 0), (309, .iinc 7 1, 312, 0), (312, .goto (-30), 315, 282), (315, .lload 5, 317, 0), (317, .aload_n 0, 318, 0), (318, .getfield 51, 321, 0), (321, .getfield 164, 324, 0)]
def pgb_88_2_b6 : List pg_R := [(324, .iload_n 1, 325, 0), (325, .laload, 326, 0), (326, .lcmp, 327, 0), (327, .ifCond .eq 9, 330, 336), (330, .aload_n 0, 331, 0), (331, .iload 4, 333, 0), (333, .invokevirtual 74, 336, 0), (336, .aload_n 0, 337, 0)]
def pgb_88_2_b7 : List pg_R := [(337, .getfield 51, 340, 0), (340, .getfield 168, 343, 0), (343, .iload_n 1, 344, 0), (344, .iconst 1, 345, 0)]
def pgB_88_2 : pg_Bk := [(241, pgb_88_2_b0), (257, pgb_88_2_b1), (272, pgb_88_2_b2), (288, pgb_88_2_b3), (306, pgb_88_2_b4), (324, pgb_88_2_b5), (337, pgb_88_2_b6), (345, pgb_88_2_b7)]
set_option maxRecDepth 20000 in
theorem pgc_88_2 : pgB_88_2.all (fun q => q.2.all (pg_ok (pg_cc 88))) = true := by decide +kernel
/-- MarkovDesk$Reader.readCommand()V -/
def pgb_88_3_b0 : List pg_R := [(345, .iadd, 346, 0), (346, .aload_n 0, 347, 0), (347, .getfield 51, 350, 0), (350, .getfield 171, 353, 0), (353, .iastore, 354, 0), (354, .aload_n 0, 355, 0), (355, .getfield 51, 358, 0), (358, .iload_n 1, 359, 0)]
def pgb_88_3_b1 : List pg_R := [(359, .iconst 1, 360, 0), (360, .iadd, 361, 0), (361, .putfield 149, 364, 0), (364, .return_, 365, 0)]
def pgB_88_3 : pg_Bk := [(359, pgb_88_3_b0), (365, pgb_88_3_b1)]
set_option maxRecDepth 20000 in
theorem pgc_88_3 : pgB_88_3.all (fun q => q.2.all (pg_ok (pg_cc 88))) = true := by decide +kernel
def pgB_88 : pg_Bk := pgB_88_0 ++ (pgB_88_1 ++ (pgB_88_2 ++ (pgB_88_3)))
theorem pgc_88 : pgB_88.all (fun q => q.2.all (pg_ok (pg_cc 88))) = true := pg_all2 pgc_88_0 (pg_all2 pgc_88_1 (pg_all2 pgc_88_2 (pgc_88_3)))
/-- MarkovDesk$Reader.actionOf(I)I -/
def pgb_89_b0 : List pg_R := [(0, .iconst 0, 1, 0), (1, .istore_n 2, 2, 0), (2, .iload_n 2, 3, 0), (3, .aload_n 0, 4, 0), (4, .getfield 51, 7, 0), (7, .getfield 187, 10, 0), (10, .if_icmp .ge 28, 13, 38), (13, .aload_n 0, 14, 0)]
def pgb_89_b1 : List pg_R := [(14, .getfield 43, 17, 0), (17, .aload_n 0, 18, 0), (18, .getfield 21, 21, 0), (21, .iload_n 2, 22, 0), (22, .iaload, 23, 0), (23, .iload_n 1, 24, 0), (24, .invokevirtual 190, 27, 0), (27, .ifCond .eq 5, 30, 32)]
def pgb_89_b2 : List pg_R := [(30, .iload_n 2, 31, 0), (31, .ireturn, 32, 0), (32, .iinc 2 1, 35, 0), (35, .goto (-33), 38, 2), (38, .aload_n 0, 39, 0), (39, .getfield 51, 42, 0), (42, .getfield 187, 45, 0), (45, .aload_n 0, 46, 0)]
def pgb_89_b3 : List pg_R := [(46, .getfield 21, 49, 0), (49, .arraylength, 50, 0), (50, .if_icmp .ge 29, 53, 79), (53, .aload_n 0, 54, 0), (54, .getfield 21, 57, 0), (57, .aload_n 0, 58, 0), (58, .getfield 51, 61, 0), (61, .getfield 187, 64, 0)]
def pgb_89_b4 : List pg_R := [(64, .iload_n 1, 65, 0), (65, .iastore, 66, 0), (66, .aload_n 0, 67, 0), (67, .getfield 51, 70, 0), (70, .dup, 71, 0), (71, .getfield 187, 74, 0), (74, .iconst 1, 75, 0), (75, .iadd, 76, 0)]
def pgb_89_b5 : List pg_R := [(76, .putfield 187, 79, 0), (79, .aload_n 0, 80, 0), (80, .getfield 51, 83, 0), (83, .getfield 187, 86, 0), (86, .iconst 1, 87, 0), (87, .isub, 88, 0), (88, .ireturn, 89, 0)]
def pgB_89 : pg_Bk := [(14, pgb_89_b0), (30, pgb_89_b1), (46, pgb_89_b2), (64, pgb_89_b3), (76, pgb_89_b4), (89, pgb_89_b5)]
set_option maxRecDepth 20000 in
theorem pgc_89 : pgB_89.all (fun q => q.2.all (pg_ok (pg_cc 89))) = true := by decide +kernel
/-- MarkovDesk$Reader.readShare()I -/
def pgb_90_0_b0 : List pg_R := [(0, .aload_n 0, 1, 0), (1, .invokevirtual 118, 4, 0), (4, .iconst 4, 5, 0), (5, .if_icmp .ne 7, 8, 12), (8, .iconst 1, 9, 0), (9, .goto 4, 12, 13), (12, .iconst 0, 13, 0), (13, .istore_n 1, 14, 0)]
def pgb_90_0_b1 : List pg_R := [(14, .aload_n 0, 15, 0), (15, .invokevirtual 98, 18, 0), (18, .istore_n 2, 19, 0), (19, .aload_n 0, 20, 0), (20, .invokevirtual 194, 23, 0), (23, .istore_n 3, 24, 0), (24, .iload_n 1, 25, 0), (25, .ifCond .eq 9, 28, 34)]
def pgb_90_0_b2 : List pg_R := [(28, .sipush 1000, 31, 0), (31, .goto 4, 34, 35), (34, .iconst 1, 35, 0), (35, .istore 4, 37, 0), (37, .iload_n 1, 38, 0), (38, .ifCond .ne 10, 41, 48), (41, .iload_n 3, 42, 0), (42, .sipush 999, 45, 0)]
def pgb_90_0_b3 : List pg_R := [(45, .if_icmp .gt 7, 48, 52), (48, .iconst 1, 49, 0), (49, .goto 4, 52, 53), (52, .iconst 0, 53, 0), (53, .istore 5, 55, 0), (55, .iload_n 1, 56, 0), (56, .ifCond .eq 10, 59, 66), (59, .aload_n 0, 60, 0)]
def pgb_90_0_b4 : List pg_R := [(60, .invokevirtual 84, 63, 0), (63, .goto 8, 66, 71), (66, .aload_n 0, 67, 0), (67, .iconst 3, 68, 0), (68, .invokevirtual 87, 71, 0), (71, .iload_n 1, 72, 0), (72, .ifCond .ne 52, 75, 124), (75, .aload_n 0, 76, 0)]
def pgb_90_0_b5 : List pg_R := [(76, .invokevirtual 118, 79, 0), (79, .bipush 30, 81, 0), (81, .if_icmp .ne 43, 84, 124), (84, .aload_n 0, 85, 0), (85, .invokevirtual 84, 88, 0), (88, .aload_n 0, 89, 0), (89, .invokevirtual 98, 92, 0), (92, .istore_n 2, 93, 0)]
def pgb_90_0_b6 : List pg_R := [(93, .aload_n 0, 94, 0), (94, .invokevirtual 194, 97, 0), (97, .istore 4, 99, 0), (99, .aload_n 0, 100, 0), (100, .iconst 3, 101, 0), (101, .invokevirtual 87, 104, 0), (104, .iload 5, 106, 0), (106, .ifCond .eq 15, 109, 121)]
def pgb_90_0_b7 : List pg_R := [(109, .iload 4, 111, 0), (111, .sipush 999, 114, 0), (114, .if_icmp .gt 7, 117, 121), (117, .iconst 1, 118, 0)]
def pgB_90_0 : pg_Bk := [(14, pgb_90_0_b0), (28, pgb_90_0_b1), (45, pgb_90_0_b2), (60, pgb_90_0_b3), (76, pgb_90_0_b4), (93, pgb_90_0_b5), (109, pgb_90_0_b6), (118, pgb_90_0_b7)]
set_option maxRecDepth 20000 in
theorem pgc_90_0 : pgB_90_0.all (fun q => q.2.all (pg_ok (pg_cc 90))) = true := by decide +kernel
/-- MarkovDesk$Reader.readShare()I -/
def pgb_90_1_b0 : List pg_R := [(118, .goto 4, 121, 122), (121, .iconst 0, 122, 0), (122, .istore 5, 124, 0), (124, .iload 5, 126, 0), (126, .ifCond .eq 14, 129, 140), (129, .iload_n 3, 130, 0), (130, .iconst 1, 131, 0), (131, .if_icmp .lt 9, 134, 140)]
def pgb_90_1_b1 : List pg_R := [(134, .iload_n 3, 135, 0), (135, .iload 4, 137, 0), (137, .if_icmp .le 8, 140, 145), (140, .aload_n 0, 141, 0), (141, .iload_n 2, 142, 0), (142, .invokevirtual 74, 145, 0), (145, .iload_n 3, 146, 0), (146, .sipush 1001, 149, 0)]
def pgb_90_1_b2 : List pg_R := [(149, .imul, 150, 0), (150, .iload 4, 152, 0), (152, .iadd, 153, 0), (153, .ireturn, 154, 0)]
def pgB_90_1 : pg_Bk := [(134, pgb_90_1_b0), (149, pgb_90_1_b1), (154, pgb_90_1_b2)]
set_option maxRecDepth 20000 in
theorem pgc_90_1 : pgB_90_1.all (fun q => q.2.all (pg_ok (pg_cc 90))) = true := by decide +kernel
def pgB_90 : pg_Bk := pgB_90_0 ++ (pgB_90_1)
theorem pgc_90 : pgB_90.all (fun q => q.2.all (pg_ok (pg_cc 90))) = true := pg_all2 pgc_90_0 (pgc_90_1)
/-- MarkovDesk$Reader.readUpdate(I)V -/
def pgb_91_0_b0 : List pg_R := [(0, .aload_n 0, 1, 0), (1, .getfield 51, 4, 0), (4, .getfield 171, 7, 0), (7, .istore_n 2, 8, 0), (8, .iload_n 2, 9, 0), (9, .aload_n 0, 10, 0), (10, .getfield 51, 13, 0), (13, .getfield 168, 16, 0)]
def pgb_91_0_b1 : List pg_R := [(16, .iload_n 1, 17, 0), (17, .iaload, 18, 0), (18, .isub, 19, 0), (19, .bipush 6, 21, 0), (21, .if_icmp .lt 11, 24, 32), (24, .aload_n 0, 25, 0), (25, .aload_n 0, 26, 0), (26, .invokevirtual 98, 29, 0)]
def pgb_91_0_b2 : List pg_R := [(29, .invokevirtual 74, 32, 0), (32, .aload_n 0, 33, 0), (33, .getfield 51, 36, 0), (36, .getfield 201, 39, 0), (39, .iload_n 2, 40, 0), (40, .aload_n 0, 41, 0), (41, .getfield 51, 44, 0), (44, .getfield 204, 47, 0)]
def pgb_91_0_b3 : List pg_R := [(47, .iastore, 48, 0), (48, .aload_n 0, 49, 0), (49, .invokevirtual 118, 52, 0), (52, .bipush 13, 54, 0), (54, .if_icmp .eq 7, 57, 61), (57, .iconst 1, 58, 0), (58, .goto 4, 61, 62), (61, .iconst 0, 62, 0)]
def pgb_91_0_b4 : List pg_R := [(62, .istore_n 3, 63, 0), (63, .iload_n 3, 64, 0), (64, .ifCond .ne 7, 67, 71), (67, .aload_n 0, 68, 0), (68, .invokevirtual 84, 71, 0), (71, .iconst 0, 72, 0), (72, .istore 4, 74, 0), (74, .iload 4, 76, 0)]
def pgb_91_0_b5 : List pg_R := [(76, .sipush 1500, 79, 0), (79, .if_icmp .ge 139, 82, 218), (82, .iload_n 3, 83, 0), (83, .ifCond .eq 135, 86, 218), (86, .aload_n 0, 87, 0), (87, .bipush 39, 89, 0), (89, .invokevirtual 87, 92, 0), (92, .aload_n 0, 93, 0)]
def pgb_91_0_b6 : List pg_R := [(93, .aload_n 0, 94, 0), (94, .getfield 51, 97, 0), (97, .getfield 201, 100, 0), (100, .iload_n 2, 101, 0), (101, .iaload, 102, 0), (102, .invokevirtual 207, 105, 0), (105, .istore 5, 107, 0), (107, .aload_n 0, 108, 0)]
def pgb_91_0_b7 : List pg_R := [(108, .invokevirtual 84, 111, 0), (111, .aload_n 0, 112, 0), (112, .bipush 38, 114, 0), (114, .invokevirtual 87, 117, 0)]
def pgB_91_0 : pg_Bk := [(16, pgb_91_0_b0), (29, pgb_91_0_b1), (47, pgb_91_0_b2), (62, pgb_91_0_b3), (76, pgb_91_0_b4), (93, pgb_91_0_b5), (108, pgb_91_0_b6), (115, pgb_91_0_b7)]
set_option maxRecDepth 20000 in
theorem pgc_91_0 : pgB_91_0.all (fun q => q.2.all (pg_ok (pg_cc 91))) = true := by decide +kernel
/-- MarkovDesk$Reader.readUpdate(I)V -/
def pgb_91_1_b0 : List pg_R := [(117, .aload_n 0, 118, 0), (118, .bipush 24, 120, 0), (120, .invokevirtual 87, 123, 0), (123, .aload_n 0, 124, 0), (124, .getfield 51, 127, 0), (127, .getfield 210, 130, 0), (130, .aload_n 0, 131, 0), (131, .getfield 51, 134, 0)]
def pgb_91_1_b1 : List pg_R := [(134, .getfield 204, 137, 0), (137, .iload 5, 139, 0), (139, .iastore, 140, 0), (140, .aload_n 0, 141, 0), (141, .getfield 51, 144, 0), (144, .getfield 213, 147, 0), (147, .aload_n 0, 148, 0), (148, .getfield 51, 151, 0)]
def pgb_91_1_b2 : List pg_R := [(151, .getfield 204, 154, 0), (154, .aload_n 0, 155, 0), (155, .aload_n 0, 156, 0), (156, .getfield 51, 159, 0), (159, .getfield 124, 162, 0), (162, .iload 5, 164, 0), (164, .iaload, 165, 0), (165, .iconst 1, 166, 0)]
def pgb_91_1_b3 : List pg_R := [(166, .invokevirtual 94, 169, 0), (169, .iastore, 170, 0), (170, .aload_n 0, 171, 0), (171, .getfield 51, 174, 0), (174, .dup, 175, 0), (175, .getfield 204, 178, 0), (178, .iconst 1, 179, 0), (179, .iadd, 180, 0)]
def pgb_91_1_b4 : List pg_R := [(180, .putfield 204, 183, 0), (183, .aload_n 0, 184, 0), (184, .bipush 40, 186, 0), (186, .invokevirtual 87, 189, 0), (189, .aload_n 0, 190, 0), (190, .invokevirtual 118, 193, 0), (193, .bipush 32, 195, 0), (195, .if_icmp .ne 7, 198, 202)]
def pgb_91_1_b5 : List pg_R := [(198, .iconst 1, 199, 0), (199, .goto 4, 202, 203), (202, .iconst 0, 203, 0), (203, .istore_n 3, 204, 0), (204, .iload_n 3, 205, 0), (205, .ifCond .eq 7, 208, 212), (208, .aload_n 0, 209, 0), (209, .invokevirtual 84, 212, 0)]
def pgb_91_1_b6 : List pg_R := [(212, .iinc 4 1, 215, 0), (215, .goto (-141), 218, 74), (218, .aload_n 0, 219, 0), (219, .getfield 51, 222, 0), (222, .iload_n 2, 223, 0), (223, .iconst 1, 224, 0), (224, .iadd, 225, 0), (225, .putfield 171, 228, 0)]
def pgb_91_1_b7 : List pg_R := [(228, .aload_n 0, 229, 0), (229, .getfield 51, 232, 0), (232, .getfield 201, 235, 0), (235, .iload_n 2, 236, 0)]
def pgB_91_1 : pg_Bk := [(134, pgb_91_1_b0), (151, pgb_91_1_b1), (166, pgb_91_1_b2), (180, pgb_91_1_b3), (198, pgb_91_1_b4), (212, pgb_91_1_b5), (228, pgb_91_1_b6), (236, pgb_91_1_b7)]
set_option maxRecDepth 20000 in
theorem pgc_91_1 : pgB_91_1.all (fun q => q.2.all (pg_ok (pg_cc 91))) = true := by decide +kernel
/-- MarkovDesk$Reader.readUpdate(I)V -/
def pgb_91_2_b0 : List pg_R := [(236, .iconst 1, 237, 0), (237, .iadd, 238, 0), (238, .aload_n 0, 239, 0), (239, .getfield 51, 242, 0), (242, .getfield 204, 245, 0), (245, .iastore, 246, 0), (246, .return_, 247, 0)]
def pgB_91_2 : pg_Bk := [(247, pgb_91_2_b0)]
set_option maxRecDepth 20000 in
theorem pgc_91_2 : pgB_91_2.all (fun q => q.2.all (pg_ok (pg_cc 91))) = true := by decide +kernel
def pgB_91 : pg_Bk := pgB_91_0 ++ (pgB_91_1 ++ (pgB_91_2))
theorem pgc_91 : pgB_91.all (fun q => q.2.all (pg_ok (pg_cc 91))) = true := pg_all2 pgc_91_0 (pg_all2 pgc_91_1 (pgc_91_2))
/-- MarkovDesk$Reader.changedVariable(I)I -/
def pgb_92_0_b0 : List pg_R := [(0, .aload_n 0, 1, 0), (1, .invokevirtual 118, 4, 0), (4, .iconst 2, 5, 0), (5, .if_icmp .ne 14, 8, 19), (8, .aload_n 0, 9, 0), (9, .aload_n 0, 10, 0), (10, .getfield 81, 13, 0), (13, .invokevirtual 216, 16, 0)]
def pgb_92_0_b1 : List pg_R := [(16, .goto 4, 19, 20), (19, .iconst (-1), 20, 0), (20, .istore_n 2, 21, 0), (21, .iload_n 2, 22, 0), (22, .ifCond .lt 22, 25, 44), (25, .aload_n 0, 26, 0), (26, .getfield 15, 29, 0), (29, .iload_n 2, 30, 0)]
def pgb_92_0_b2 : List pg_R := [(30, .iaload, 31, 0), (31, .iconst 1, 32, 0), (32, .if_icmp .ne 12, 35, 44), (35, .aload_n 0, 36, 0), (36, .getfield 18, 39, 0), (39, .iload_n 2, 40, 0), (40, .iaload, 41, 0), (41, .goto 4, 44, 45)]
def pgb_92_0_b3 : List pg_R := [(44, .iconst (-1), 45, 0), (45, .istore_n 3, 46, 0), (46, .iload_n 3, 47, 0), (47, .aload_n 0, 48, 0), (48, .getfield 115, 51, 0), (51, .if_icmp .lt 16, 54, 67), (54, .aload_n 0, 55, 0), (55, .getfield 51, 58, 0)]
def pgb_92_0_b4 : List pg_R := [(58, .getfield 204, 61, 0), (61, .sipush 250, 64, 0), (64, .if_icmp .lt 11, 67, 75), (67, .aload_n 0, 68, 0), (68, .aload_n 0, 69, 0), (69, .invokevirtual 98, 72, 0), (72, .invokevirtual 74, 75, 0), (75, .iload_n 1, 76, 0)]
def pgb_92_0_b5 : List pg_R := [(76, .istore 4, 78, 0), (78, .iload 4, 80, 0), (80, .aload_n 0, 81, 0), (81, .getfield 51, 84, 0), (84, .getfield 204, 87, 0), (87, .if_icmp .ge 31, 90, 118), (90, .aload_n 0, 91, 0), (91, .getfield 51, 94, 0)]
def pgb_92_0_b6 : List pg_R := [(94, .getfield 210, 97, 0), (97, .iload 4, 99, 0), (99, .iaload, 100, 0), (100, .iload_n 3, 101, 0), (101, .if_icmp .ne 11, 104, 112), (104, .aload_n 0, 105, 0), (105, .aload_n 0, 106, 0), (106, .invokevirtual 98, 109, 0)]
def pgb_92_0_b7 : List pg_R := [(109, .invokevirtual 74, 112, 0), (112, .iinc 4 1, 115, 0), (115, .goto (-37), 118, 78), (118, .iload_n 3, 119, 0)]
def pgB_92_0 : pg_Bk := [(16, pgb_92_0_b0), (30, pgb_92_0_b1), (44, pgb_92_0_b2), (58, pgb_92_0_b3), (76, pgb_92_0_b4), (94, pgb_92_0_b5), (109, pgb_92_0_b6), (119, pgb_92_0_b7)]
set_option maxRecDepth 20000 in
theorem pgc_92_0 : pgB_92_0.all (fun q => q.2.all (pg_ok (pg_cc 92))) = true := by decide +kernel
/-- MarkovDesk$Reader.changedVariable(I)I -/
def pgb_92_1_b0 : List pg_R := [(119, .ireturn, 120, 0)]
def pgB_92_1 : pg_Bk := [(120, pgb_92_1_b0)]
set_option maxRecDepth 20000 in
theorem pgc_92_1 : pgB_92_1.all (fun q => q.2.all (pg_ok (pg_cc 92))) = true := by decide +kernel
def pgB_92 : pg_Bk := pgB_92_0 ++ (pgB_92_1)
theorem pgc_92 : pgB_92.all (fun q => q.2.all (pg_ok (pg_cc 92))) = true := pg_all2 pgc_92_0 (pgc_92_1)
/-- MarkovDesk$Reader.addShare(IJJ)V -/
def pgb_93_0_b0 : List pg_R := [(0, .lload_n 2, 1, 0), (1, .lload 4, 3, 0), (3, .invokestatic 197, 6, 0), (6, .lstore 6, 8, 0), (8, .lload 4, 10, 0), (10, .lload 6, 12, 0), (12, .ldiv, 13, 0), (13, .aload_n 0, 14, 0)]
def pgb_93_0_b1 : List pg_R := [(14, .getfield 51, 17, 0), (17, .getfield 164, 20, 0), (20, .iload_n 1, 21, 0), (21, .laload, 22, 0), (22, .lload 4, 24, 0), (24, .lload 6, 26, 0), (26, .ldiv, 27, 0), (27, .invokestatic 197, 30, 0)]
def pgb_93_0_b2 : List pg_R := [(30, .ldiv, 31, 0), (31, .lstore 8, 33, 0), (33, .aload_n 0, 34, 0), (34, .getfield 51, 37, 0), (37, .getfield 171, 40, 0), (40, .iconst 1, 41, 0), (41, .isub, 42, 0), (42, .istore 10, 44, 0)]
def pgb_93_0_b3 : List pg_R := [(44, .aload_n 0, 45, 0), (45, .getfield 51, 48, 0), (48, .getfield 168, 51, 0), (51, .iload_n 1, 52, 0), (52, .iaload, 53, 0), (53, .istore 11, 55, 0), (55, .iload 11, 57, 0), (57, .iload 10, 59, 0)]
def pgb_93_0_b4 : List pg_R := [(59, .if_icmp .ge 24, 62, 83), (62, .aload_n 0, 63, 0), (63, .getfield 51, 66, 0), (66, .getfield 184, 69, 0), (69, .iload 11, 71, 0), (71, .dup2, 72, 0), (72, .laload, 73, 0), (73, .lload 8, 75, 0)]
def pgb_93_0_b5 : List pg_R := [(75, .lmul, 76, 0), (76, .lastore, 77, 0), (77, .iinc 11 1, 80, 0), (80, .goto (-25), 83, 55), (83, .aload_n 0, 84, 0), (84, .getfield 51, 87, 0), (87, .getfield 164, 90, 0), (90, .iload_n 1, 91, 0)]
def pgb_93_0_b6 : List pg_R := [(91, .dup2, 92, 0), (92, .laload, 93, 0), (93, .lload 8, 95, 0), (95, .lmul, 96, 0), (96, .lastore, 97, 0), (97, .aload_n 0, 98, 0), (98, .getfield 51, 101, 0), (101, .getfield 184, 104, 0)]
def pgb_93_0_b7 : List pg_R := [(104, .iload 10, 106, 0), (106, .aload_n 0, 107, 0), (107, .getfield 51, 110, 0), (110, .getfield 164, 113, 0)]
def pgB_93_0 : pg_Bk := [(14, pgb_93_0_b0), (30, pgb_93_0_b1), (44, pgb_93_0_b2), (59, pgb_93_0_b3), (75, pgb_93_0_b4), (91, pgb_93_0_b5), (104, pgb_93_0_b6), (111, pgb_93_0_b7)]
set_option maxRecDepth 20000 in
theorem pgc_93_0 : pgB_93_0.all (fun q => q.2.all (pg_ok (pg_cc 93))) = true := by decide +kernel
/-- MarkovDesk$Reader.addShare(IJJ)V -/
def pgb_93_1_b0 : List pg_R := [(113, .iload_n 1, 114, 0), (114, .laload, 115, 0), (115, .lload 4, 117, 0), (117, .lload 6, 119, 0), (119, .ldiv, 120, 0), (120, .ldiv, 121, 0), (121, .lload_n 2, 122, 0), (122, .lload 6, 124, 0)]
def pgb_93_1_b1 : List pg_R := [(124, .ldiv, 125, 0), (125, .lmul, 126, 0), (126, .lastore, 127, 0), (127, .return_, 128, 0)]
def pgB_93_1 : pg_Bk := [(124, pgb_93_1_b0), (128, pgb_93_1_b1)]
set_option maxRecDepth 20000 in
theorem pgc_93_1 : pgB_93_1.all (fun q => q.2.all (pg_ok (pg_cc 93))) = true := by decide +kernel
def pgB_93 : pg_Bk := pgB_93_0 ++ (pgB_93_1)
theorem pgc_93 : pgB_93.all (fun q => q.2.all (pg_ok (pg_cc 93))) = true := pg_all2 pgc_93_0 (pgc_93_1)
