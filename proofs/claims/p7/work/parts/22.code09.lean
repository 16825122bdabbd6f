/-- MarkovDeskModel$Whole.<init>(I)V -/
def pgb_183_b0 : List pg_R := [(0, .aload_n 0, 1, 0), (1, .invokespecial 1, 4, 0), (4, .aload_n 0, 5, 0), (5, .iload_n 1, 6, 0), (6, .newarray .int, 8, 0), (8, .putfield 7, 11, 0), (11, .return_, 12, 0)]
def pgB_183 : pg_Bk := [(12, pgb_183_b0)]
set_option maxRecDepth 20000 in
theorem pgc_183 : pgB_183.all (fun q => q.2.all (pg_ok (pg_cc 183))) = true := by decide +kernel
/-- MarkovDeskModel.rooms()V -/
def pgb_184_0_b0 : List pg_R := [(0, .iconst 0, 1, 0), (1, .istore_n 1, 2, 0), (2, .iload_n 1, 3, 0), (3, .bipush 48, 5, 0), (5, .if_icmp .ge 25, 8, 30), (8, .aload_n 0, 9, 0), (9, .getfield 266, 12, 0), (12, .iload_n 1, 13, 0)]
def pgb_184_0_b1 : List pg_R := [(13, .new 206, 16, 0), (16, .dup, 17, 0), (17, .sipush 300, 20, 0), (20, .invokespecial 208, 23, 0), (23, .aastore, 24, 0), (24, .iinc 1 1, 27, 0), (27, .goto (-25), 30, 2), (30, .iconst 0, 31, 0)]
def pgb_184_0_b2 : List pg_R := [(31, .istore_n 1, 32, 0), (32, .iload_n 1, 33, 0), (33, .iconst 2, 34, 0), (34, .if_icmp .ge 25, 37, 59), (37, .aload_n 0, 38, 0), (38, .getfield 270, 41, 0), (41, .iload_n 1, 42, 0), (42, .new 206, 45, 0)]
def pgb_184_0_b3 : List pg_R := [(45, .dup, 46, 0), (46, .sipush 300, 49, 0), (49, .invokespecial 208, 52, 0), (52, .aastore, 53, 0), (53, .iinc 1 1, 56, 0), (56, .goto (-24), 59, 32), (59, .iconst 0, 60, 0), (60, .istore_n 1, 61, 0)]
def pgb_184_0_b4 : List pg_R := [(61, .iload_n 1, 62, 0), (62, .sipush 576, 65, 0), (65, .if_icmp .ge 25, 68, 90), (68, .aload_n 0, 69, 0), (69, .getfield 273, 72, 0), (72, .iload_n 1, 73, 0), (73, .new 206, 76, 0), (76, .dup, 77, 0)]
def pgb_184_0_b5 : List pg_R := [(77, .sipush 300, 80, 0), (80, .invokespecial 208, 83, 0), (83, .aastore, 84, 0), (84, .iinc 1 1, 87, 0), (87, .goto (-26), 90, 61), (90, .iconst 0, 91, 0), (91, .istore_n 1, 92, 0), (92, .iload_n 1, 93, 0)]
def pgb_184_0_b6 : List pg_R := [(93, .bipush 24, 95, 0), (95, .if_icmp .ge 114, 98, 209), (98, .aload_n 0, 99, 0), (99, .getfield 276, 102, 0), (102, .iload_n 1, 103, 0), (103, .new 206, 106, 0), (106, .dup, 107, 0), (107, .sipush 300, 110, 0)]
def pgb_184_0_b7 : List pg_R := [(110, .invokespecial 208, 113, 0), (113, .aastore, 114, 0), (114, .aload_n 0, 115, 0), (115, .getfield 279, 118, 0)]
def pgB_184_0 : pg_Bk := [(13, pgb_184_0_b0), (31, pgb_184_0_b1), (45, pgb_184_0_b2), (61, pgb_184_0_b3), (77, pgb_184_0_b4), (93, pgb_184_0_b5), (110, pgb_184_0_b6), (116, pgb_184_0_b7)]
set_option maxRecDepth 20000 in
theorem pgc_184_0 : pgB_184_0.all (fun q => q.2.all (pg_ok (pg_cc 184))) = true := by decide +kernel
/-- MarkovDeskModel.rooms()V -/
def pgb_184_1_b0 : List pg_R := [(118, .iload_n 1, 119, 0), (119, .new 206, 122, 0), (122, .dup, 123, 0), (123, .sipush 300, 126, 0), (126, .invokespecial 208, 129, 0), (129, .aastore, 130, 0), (130, .aload_n 0, 131, 0), (131, .getfield 282, 134, 0)]
def pgb_184_1_b1 : List pg_R := [(134, .iload_n 1, 135, 0), (135, .new 206, 138, 0), (138, .dup, 139, 0), (139, .sipush 700, 142, 0), (142, .invokespecial 208, 145, 0), (145, .aastore, 146, 0), (146, .aload_n 0, 147, 0), (147, .getfield 285, 150, 0)]
def pgb_184_1_b2 : List pg_R := [(150, .iload_n 1, 151, 0), (151, .new 206, 154, 0), (154, .dup, 155, 0), (155, .sipush 700, 158, 0), (158, .invokespecial 208, 161, 0), (161, .aastore, 162, 0), (162, .aload_n 0, 163, 0), (163, .getfield 285, 166, 0)]
def pgb_184_1_b3 : List pg_R := [(166, .iload_n 1, 167, 0), (167, .aaload, 168, 0), (168, .invokevirtual 573, 171, 0), (171, .aload_n 0, 172, 0), (172, .getfield 288, 175, 0), (175, .iload_n 1, 176, 0), (176, .new 206, 179, 0), (179, .dup, 180, 0)]
def pgb_184_1_b4 : List pg_R := [(180, .sipush 600, 183, 0), (183, .invokespecial 208, 186, 0), (186, .aastore, 187, 0), (187, .aload_n 0, 188, 0), (188, .getfield 291, 191, 0), (191, .iload_n 1, 192, 0), (192, .new 206, 195, 0), (195, .dup, 196, 0)]
def pgb_184_1_b5 : List pg_R := [(196, .sipush 600, 199, 0), (199, .invokespecial 208, 202, 0), (202, .aastore, 203, 0), (203, .iinc 1 1, 206, 0), (206, .goto (-114), 209, 92), (209, .aload_n 0, 210, 0), (210, .getfield 327, 213, 0), (213, .invokevirtual 573, 216, 0)]
def pgb_184_1_b6 : List pg_R := [(216, .return_, 217, 0)]
def pgB_184_1 : pg_Bk := [(134, pgb_184_1_b0), (150, pgb_184_1_b1), (166, pgb_184_1_b2), (180, pgb_184_1_b3), (196, pgb_184_1_b4), (216, pgb_184_1_b5), (217, pgb_184_1_b6)]
set_option maxRecDepth 20000 in
theorem pgc_184_1 : pgB_184_1.all (fun q => q.2.all (pg_ok (pg_cc 184))) = true := by decide +kernel
def pgB_184 : pg_Bk := pgB_184_0 ++ (pgB_184_1)
theorem pgc_184 : pgB_184.all (fun q => q.2.all (pg_ok (pg_cc 184))) = true := pg_all2 pgc_184_0 (pgc_184_1)
/-- MarkovDeskModel$Whole.one()V -/
def pgb_185_b0 : List pg_R := [(0, .aload_n 0, 1, 0), (1, .lconst 1, 2, 0), (2, .invokevirtual 19, 5, 0), (5, .return_, 6, 0)]
def pgB_185 : pg_Bk := [(6, pgb_185_b0)]
set_option maxRecDepth 20000 in
theorem pgc_185 : pgB_185.all (fun q => q.2.all (pg_ok (pg_cc 185))) = true := by decide +kernel
/-- MarkovDeskModel$Whole.set(J)V -/
def pgb_186_b0 : List pg_R := [(0, .aload_n 0, 1, 0), (1, .iconst 0, 2, 0), (2, .putfield 13, 5, 0), (5, .lload_n 1, 6, 0), (6, .lstore_n 3, 7, 0), (7, .lload_n 3, 8, 0), (8, .lconst 0, 9, 0), (9, .lcmp, 10, 0)]
def pgb_186_b1 : List pg_R := [(10, .ifCond .eq 33, 13, 43), (13, .aload_n 0, 14, 0), (14, .getfield 7, 17, 0), (17, .aload_n 0, 18, 0), (18, .dup, 19, 0), (19, .getfield 13, 22, 0), (22, .dup_x1, 23, 0), (23, .iconst 1, 24, 0)]
def pgb_186_b2 : List pg_R := [(24, .iadd, 25, 0), (25, .putfield 13, 28, 0), (28, .lload_n 3, 29, 0), (29, .ldc2_w 17, 32, 0), (32, .land, 33, 0), (33, .l2i, 34, 0), (34, .iastore, 35, 0), (35, .lload_n 3, 36, 0)]
def pgb_186_b3 : List pg_R := [(36, .bipush 16, 38, 0), (38, .lushr, 39, 0), (39, .lstore_n 3, 40, 0), (40, .goto (-33), 43, 7), (43, .return_, 44, 0)]
def pgB_186 : pg_Bk := [(10, pgb_186_b0), (24, pgb_186_b1), (36, pgb_186_b2), (44, pgb_186_b3)]
set_option maxRecDepth 20000 in
theorem pgc_186 : pgB_186.all (fun q => q.2.all (pg_ok (pg_cc 186))) = true := by decide +kernel
/-- MarkovDeskModel.thrown()I -/
def pgb_187_b0 : List pg_R := [(0, .aload_n 0, 1, 0), (1, .getfield 339, 4, 0), (4, .ireturn, 5, 0)]
def pgB_187 : pg_Bk := [(5, pgb_187_b0)]
set_option maxRecDepth 20000 in
theorem pgc_187 : pgB_187.all (fun q => q.2.all (pg_ok (pg_cc 187))) = true := by decide +kernel
/-- MarkovDeskModel.feed(IIIII)I -/
def pgb_188_0_b0 : List pg_R := [(0, .aload_n 0, 1, 0), (1, .iconst 0, 2, 0), (2, .putfield 339, 5, 0), (5, .aload_n 0, 6, 0), (6, .aload_n 0, 7, 0), (7, .getfield 342, 10, 0), (10, .bipush 20, 12, 0), (12, .iadd, 13, 0)]
def pgb_188_0_b1 : List pg_R := [(13, .sipush 8200, 16, 0), (16, .if_icmp .le 7, 19, 23), (19, .iconst 1, 20, 0), (20, .goto 4, 23, 24), (23, .iconst 0, 24, 0), (24, .iconst 1, 25, 0), (25, .invokevirtual 345, 28, 0), (28, .ifCond .eq 5, 31, 33)]
def pgb_188_0_b2 : List pg_R := [(31, .iconst 0, 32, 0), (32, .ireturn, 33, 0), (33, .iconst 0, 34, 0), (34, .istore 6, 36, 0), (36, .iload 6, 38, 0), (38, .bipush 20, 40, 0), (40, .if_icmp .ge 90, 43, 130), (43, .iload 6, 45, 0)]
def pgb_188_0_b3 : List pg_R := [(45, .iconst 4, 46, 0), (46, .if_icmp .ge 7, 49, 53), (49, .iload_n 1, 50, 0), (50, .goto 39, 53, 89), (53, .iload 6, 55, 0), (55, .bipush 8, 57, 0), (57, .if_icmp .ge 7, 60, 64), (60, .iload_n 2, 61, 0)]
def pgb_188_0_b4 : List pg_R := [(61, .goto 28, 64, 89), (64, .iload 6, 66, 0), (66, .bipush 12, 68, 0), (68, .if_icmp .ge 7, 71, 75), (71, .iload_n 3, 72, 0), (72, .goto 17, 75, 89), (75, .iload 6, 77, 0), (77, .bipush 16, 79, 0)]
def pgb_188_0_b5 : List pg_R := [(79, .if_icmp .ge 8, 82, 87), (82, .iload 4, 84, 0), (84, .goto 5, 87, 89), (87, .iload 5, 89, 0), (89, .istore 7, 91, 0), (91, .aload_n 0, 92, 0), (92, .getfield 98, 95, 0), (95, .aload_n 0, 96, 0)]
def pgb_188_0_b6 : List pg_R := [(96, .dup, 97, 0), (97, .getfield 342, 100, 0), (100, .dup_x1, 101, 0), (101, .iconst 1, 102, 0), (102, .iadd, 103, 0), (103, .putfield 342, 106, 0), (106, .iload 7, 108, 0), (108, .bipush 24, 110, 0)]
def pgb_188_0_b7 : List pg_R := [(110, .bipush 8, 112, 0), (112, .iload 6, 114, 0), (114, .iconst 3, 115, 0), (115, .iand, 116, 0)]
def pgB_188_0 : pg_Bk := [(13, pgb_188_0_b0), (31, pgb_188_0_b1), (45, pgb_188_0_b2), (61, pgb_188_0_b3), (79, pgb_188_0_b4), (96, pgb_188_0_b5), (110, pgb_188_0_b6), (116, pgb_188_0_b7)]
set_option maxRecDepth 20000 in
theorem pgc_188_0 : pgB_188_0.all (fun q => q.2.all (pg_ok (pg_cc 188))) = true := by decide +kernel
/-- MarkovDeskModel.feed(IIIII)I -/
def pgb_188_1_b0 : List pg_R := [(116, .imul, 117, 0), (117, .isub, 118, 0), (118, .iushr, 119, 0), (119, .sipush 255, 122, 0), (122, .iand, 123, 0), (123, .iastore, 124, 0), (124, .iinc 6 1, 127, 0), (127, .goto (-91), 130, 36)]
def pgb_188_1_b1 : List pg_R := [(130, .aload_n 0, 131, 0), (131, .getfield 342, 134, 0), (134, .ireturn, 135, 0)]
def pgB_188_1 : pg_Bk := [(130, pgb_188_1_b0), (135, pgb_188_1_b1)]
set_option maxRecDepth 20000 in
theorem pgc_188_1 : pgB_188_1.all (fun q => q.2.all (pg_ok (pg_cc 188))) = true := by decide +kernel
def pgB_188 : pg_Bk := pgB_188_0 ++ (pgB_188_1)
theorem pgc_188 : pgB_188.all (fun q => q.2.all (pg_ok (pg_cc 188))) = true := pg_all2 pgc_188_0 (pgc_188_1)
/-- MarkovDeskModel.fails(ZI)Z -/
def pgb_189_b0 : List pg_R := [(0, .iload_n 1, 1, 0), (1, .ifCond .eq 15, 4, 16), (4, .aload_n 0, 5, 0), (5, .getfield 339, 8, 0), (8, .ifCond .ne 8, 11, 16), (11, .aload_n 0, 12, 0), (12, .iload_n 2, 13, 0), (13, .putfield 339, 16, 0)]
def pgb_189_b1 : List pg_R := [(16, .aload_n 0, 17, 0), (17, .getfield 339, 20, 0), (20, .ifCond .eq 7, 23, 27), (23, .iconst 1, 24, 0), (24, .goto 4, 27, 28), (27, .iconst 0, 28, 0), (28, .ireturn, 29, 0)]
def pgB_189 : pg_Bk := [(16, pgb_189_b0), (29, pgb_189_b1)]
set_option maxRecDepth 20000 in
theorem pgc_189 : pgB_189.all (fun q => q.2.all (pg_ok (pg_cc 189))) = true := by decide +kernel
/-- MarkovDeskModel.wrong()I -/
def pgb_190_b0 : List pg_R := [(0, .aload_n 0, 1, 0), (1, .iconst 0, 2, 0), (2, .putfield 339, 5, 0), (5, .aload_n 0, 6, 0), (6, .getfield 94, 9, 0), (9, .ireturn, 10, 0)]
def pgB_190 : pg_Bk := [(10, pgb_190_b0)]
set_option maxRecDepth 20000 in
theorem pgc_190 : pgB_190.all (fun q => q.2.all (pg_ok (pg_cc 190))) = true := by decide +kernel
/-- MarkovDeskModel.end(I)I -/
def pgb_191_0_b0 : List pg_R := [(0, .aload_n 0, 1, 0), (1, .iconst 0, 2, 0), (2, .putfield 339, 5, 0), (5, .aload_n 0, 6, 0), (6, .iload_n 1, 7, 0), (7, .ifCond .lt 18, 10, 25), (10, .iload_n 1, 11, 0), (11, .sipush 8192, 14, 0)]
def pgb_191_0_b1 : List pg_R := [(14, .if_icmp .gt 11, 17, 25), (17, .iload_n 1, 18, 0), (18, .aload_n 0, 19, 0), (19, .getfield 342, 22, 0), (22, .if_icmp .le 7, 25, 29), (25, .iconst 1, 26, 0), (26, .goto 4, 29, 30), (29, .iconst 0, 30, 0)]
def pgb_191_0_b2 : List pg_R := [(30, .iconst 1, 31, 0), (31, .invokevirtual 345, 34, 0), (34, .ifCond .eq 5, 37, 39), (37, .iconst 0, 38, 0), (38, .ireturn, 39, 0), (39, .aload_n 0, 40, 0), (40, .iconst 0, 41, 0), (41, .putfield 342, 44, 0)]
def pgb_191_0_b3 : List pg_R := [(44, .aload_n 0, 45, 0), (45, .iconst 0, 46, 0), (46, .putfield 349, 49, 0), (49, .aload_n 0, 50, 0), (50, .iconst 0, 51, 0), (51, .putfield 353, 54, 0), (54, .aload_n 0, 55, 0), (55, .iconst (-1), 56, 0)]
def pgb_191_0_b4 : List pg_R := [(56, .putfield 94, 59, 0), (59, .aload_n 0, 60, 0), (60, .iload_n 1, 61, 0), (61, .putfield 356, 64, 0), (64, .iconst 0, 65, 0), (65, .istore_n 2, 66, 0), (66, .iload_n 2, 67, 0), (67, .iload_n 1, 68, 0)]
def pgb_191_0_b5 : List pg_R := [(68, .if_icmp .ge 54, 71, 122), (71, .aload_n 0, 72, 0), (72, .getfield 102, 75, 0), (75, .iload_n 2, 76, 0), (76, .aload_n 0, 77, 0), (77, .getfield 98, 80, 0), (80, .iload_n 2, 81, 0), (81, .iaload, 82, 0)]
def pgb_191_0_b6 : List pg_R := [(82, .iastore, 83, 0), (83, .aload_n 0, 84, 0), (84, .getfield 102, 87, 0), (87, .iload_n 2, 88, 0), (88, .iaload, 89, 0), (89, .bipush 10, 91, 0), (91, .if_icmp .eq 25, 94, 116), (94, .aload_n 0, 95, 0)]
def pgb_191_0_b7 : List pg_R := [(95, .getfield 102, 98, 0), (98, .iload_n 2, 99, 0), (99, .iaload, 100, 0), (100, .bipush 32, 102, 0)]
def pgB_191_0 : pg_Bk := [(14, pgb_191_0_b0), (30, pgb_191_0_b1), (44, pgb_191_0_b2), (56, pgb_191_0_b3), (68, pgb_191_0_b4), (82, pgb_191_0_b5), (95, pgb_191_0_b6), (101, pgb_191_0_b7)]
set_option maxRecDepth 20000 in
theorem pgc_191_0 : pgB_191_0.all (fun q => q.2.all (pg_ok (pg_cc 191))) = true := by decide +kernel
/-- MarkovDeskModel.end(I)I -/
def pgb_191_1_b0 : List pg_R := [(102, .bipush 126, 104, 0), (104, .invokestatic 359, 107, 0), (107, .ifCond .ne 9, 110, 116), (110, .aload_n 0, 111, 0), (111, .iload_n 2, 112, 0), (112, .invokevirtual 363, 115, 0), (115, .pop, 116, 0), (116, .iinc 2 1, 119, 0)]
def pgb_191_1_b1 : List pg_R := [(119, .goto (-53), 122, 66), (122, .aload_n 0, 123, 0), (123, .getfield 94, 126, 0), (126, .ifCond .ge 14, 129, 140), (129, .aload_n 0, 130, 0), (130, .invokevirtual 367, 133, 0), (133, .ifCond .eq 7, 136, 140), (136, .iconst 1, 137, 0)]
def pgb_191_1_b2 : List pg_R := [(137, .goto 4, 140, 141), (140, .iconst 0, 141, 0), (141, .istore_n 2, 142, 0), (142, .aload_n 0, 143, 0), (143, .iload_n 2, 144, 0), (144, .ifCond .ne 7, 147, 151), (147, .iconst 1, 148, 0), (148, .goto 4, 151, 152)]
def pgb_191_1_b3 : List pg_R := [(151, .iconst 0, 152, 0), (152, .iconst 2, 153, 0), (153, .invokevirtual 345, 156, 0), (156, .ifCond .eq 5, 159, 161), (159, .iconst 0, 160, 0), (160, .ireturn, 161, 0), (161, .aload_n 0, 162, 0), (162, .iconst 1, 163, 0)]
def pgb_191_1_b4 : List pg_R := [(163, .putfield 349, 166, 0), (166, .aload_n 0, 167, 0), (167, .getfield 371, 170, 0), (170, .ireturn, 171, 0)]
def pgB_191_1 : pg_Bk := [(119, pgb_191_1_b0), (137, pgb_191_1_b1), (151, pgb_191_1_b2), (163, pgb_191_1_b3), (171, pgb_191_1_b4)]
set_option maxRecDepth 20000 in
theorem pgc_191_1 : pgB_191_1.all (fun q => q.2.all (pg_ok (pg_cc 191))) = true := by decide +kernel
def pgB_191 : pg_Bk := pgB_191_0 ++ (pgB_191_1)
theorem pgc_191 : pgB_191.all (fun q => q.2.all (pg_ok (pg_cc 191))) = true := pg_all2 pgc_191_0 (pgc_191_1)
/-- MarkovDeskModel.in(III)Z -/
def pgb_192_b0 : List pg_R := [(0, .iload_n 0, 1, 0), (1, .iload_n 1, 2, 0), (2, .if_icmp .lt 12, 5, 14), (5, .iload_n 0, 6, 0), (6, .iload_n 2, 7, 0), (7, .if_icmp .gt 7, 10, 14), (10, .iconst 1, 11, 0), (11, .goto 4, 14, 15)]
def pgb_192_b1 : List pg_R := [(14, .iconst 0, 15, 0), (15, .ireturn, 16, 0)]
def pgB_192 : pg_Bk := [(14, pgb_192_b0), (16, pgb_192_b1)]
set_option maxRecDepth 20000 in
theorem pgc_192 : pgB_192.all (fun q => q.2.all (pg_ok (pg_cc 192))) = true := by decide +kernel
/-- MarkovDeskModel.bad(I)Z -/
def pgb_193_b0 : List pg_R := [(0, .aload_n 0, 1, 0), (1, .getfield 94, 4, 0), (4, .ifCond .ge 8, 7, 12), (7, .aload_n 0, 8, 0), (8, .iload_n 1, 9, 0), (9, .putfield 94, 12, 0), (12, .iconst 0, 13, 0), (13, .ireturn, 14, 0)]
def pgB_193 : pg_Bk := [(14, pgb_193_b0)]
set_option maxRecDepth 20000 in
theorem pgc_193 : pgB_193.all (fun q => q.2.all (pg_ok (pg_cc 193))) = true := by decide +kernel
/-- MarkovDeskModel.model()Z -/
def pgb_194_0_b0 : List pg_R := [(0, .aload_n 0, 1, 0), (1, .iconst 0, 2, 0), (2, .putfield 420, 5, 0), (5, .aload_n 0, 6, 0), (6, .iconst 0, 7, 0), (7, .putfield 493, 10, 0), (10, .aload_n 0, 11, 0), (11, .iconst 0, 12, 0)]
def pgb_194_0_b1 : List pg_R := [(12, .putfield 496, 15, 0), (15, .aload_n 0, 16, 0), (16, .iconst 0, 17, 0), (17, .putfield 499, 20, 0), (20, .aload_n 0, 21, 0), (21, .iconst 0, 22, 0), (22, .putfield 502, 25, 0), (25, .aload_n 0, 26, 0)]
def pgb_194_0_b2 : List pg_R := [(26, .iconst 0, 27, 0), (27, .putfield 427, 30, 0), (30, .aload_n 0, 31, 0), (31, .iconst 0, 32, 0), (32, .putfield 479, 35, 0), (35, .aload_n 0, 36, 0), (36, .invokevirtual 505, 39, 0), (39, .ifCond .eq 12, 42, 51)]
def pgb_194_0_b3 : List pg_R := [(42, .aload_n 0, 43, 0), (43, .ldc 9, 45, 0), (45, .invokevirtual 448, 48, 0), (48, .ifCond .ne 5, 51, 53), (51, .iconst 0, 52, 0), (52, .ireturn, 53, 0), (53, .aload_n 0, 54, 0), (54, .ldc 11, 56, 0)]
def pgb_194_0_b4 : List pg_R := [(56, .invokevirtual 417, 59, 0), (59, .ifCond .eq 12, 62, 71), (62, .aload_n 0, 63, 0), (63, .invokevirtual 508, 66, 0), (66, .ifCond .ne (-13), 69, 53), (69, .iconst 0, 70, 0), (70, .ireturn, 71, 0), (71, .aload_n 0, 72, 0)]
def pgb_194_0_b5 : List pg_R := [(72, .ldc 17, 74, 0), (74, .invokevirtual 417, 77, 0), (77, .ifCond .eq 11, 80, 88), (80, .aload_n 0, 81, 0), (81, .getfield 496, 84, 0), (84, .iconst 3, 85, 0), (85, .if_icmp .ne 12, 88, 97), (88, .aload_n 0, 89, 0)]
def pgb_194_0_b6 : List pg_R := [(89, .aload_n 0, 90, 0), (90, .getfield 383, 93, 0), (93, .invokevirtual 363, 96, 0), (96, .ireturn, 97, 0), (97, .aload_n 0, 98, 0), (98, .invokevirtual 511, 101, 0), (101, .ifCond .ne 5, 104, 106), (104, .iconst 0, 105, 0)]
def pgb_194_0_b7 : List pg_R := [(105, .ireturn, 106, 0), (106, .aload_n 0, 107, 0), (107, .ldc 17, 109, 0), (109, .invokevirtual 417, 112, 0)]
def pgB_194_0 : pg_Bk := [(12, pgb_194_0_b0), (26, pgb_194_0_b1), (42, pgb_194_0_b2), (56, pgb_194_0_b3), (72, pgb_194_0_b4), (89, pgb_194_0_b5), (105, pgb_194_0_b6), (110, pgb_194_0_b7)]
set_option maxRecDepth 20000 in
theorem pgc_194_0 : pgB_194_0.all (fun q => q.2.all (pg_ok (pg_cc 194))) = true := by decide +kernel
/-- MarkovDeskModel.model()Z -/
def pgb_194_1_b0 : List pg_R := [(112, .ifCond .ne (-41), 115, 71), (115, .aload_n 0, 116, 0), (116, .ldc 23, 118, 0), (118, .invokevirtual 448, 121, 0), (121, .ifCond .ne 5, 124, 126), (124, .iconst 0, 125, 0), (125, .ireturn, 126, 0), (126, .aload_n 0, 127, 0)]
def pgb_194_1_b1 : List pg_R := [(127, .iconst 1, 128, 0), (128, .putfield 479, 131, 0), (131, .aload_n 0, 132, 0), (132, .aload_n 0, 133, 0), (133, .iconst 1, 134, 0), (134, .invokevirtual 513, 137, 0), (137, .putfield 517, 140, 0), (140, .aload_n 0, 141, 0)]
def pgb_194_1_b2 : List pg_R := [(141, .getfield 517, 144, 0), (144, .ifCond .lt 12, 147, 156), (147, .aload_n 0, 148, 0), (148, .ldc 77, 150, 0), (150, .invokevirtual 448, 153, 0), (153, .ifCond .ne 5, 156, 158), (156, .iconst 0, 157, 0), (157, .ireturn, 158, 0)]
def pgb_194_1_b3 : List pg_R := [(158, .aload_n 0, 159, 0), (159, .getfield 386, 162, 0), (162, .iconst 5, 163, 0), (163, .if_icmp .eq 14, 166, 177), (166, .aload_n 0, 167, 0), (167, .aload_n 0, 168, 0), (168, .getfield 383, 171, 0), (171, .invokevirtual 363, 174, 0)]
def pgb_194_1_b4 : List pg_R := [(174, .ifCond .eq 7, 177, 181), (177, .iconst 1, 178, 0), (178, .goto 4, 181, 182), (181, .iconst 0, 182, 0), (182, .ireturn, 183, 0)]
def pgB_194_1 : pg_Bk := [(127, pgb_194_1_b0), (141, pgb_194_1_b1), (158, pgb_194_1_b2), (174, pgb_194_1_b3), (183, pgb_194_1_b4)]
set_option maxRecDepth 20000 in
theorem pgc_194_1 : pgB_194_1.all (fun q => q.2.all (pg_ok (pg_cc 194))) = true := by decide +kernel
def pgB_194 : pg_Bk := pgB_194_0 ++ (pgB_194_1)
theorem pgc_194 : pgB_194.all (fun q => q.2.all (pg_ok (pg_cc 194))) = true := pg_all2 pgc_194_0 (pgc_194_1)
/-- MarkovDeskModel.begin()Z -/
def pgb_195_b0 : List pg_R := [(0, .aload_n 0, 1, 0), (1, .iconst 0, 2, 0), (2, .putfield 374, 5, 0), (5, .aload_n 0, 6, 0), (6, .iconst 0, 7, 0), (7, .putfield 371, 10, 0), (10, .aload_n 0, 11, 0), (11, .invokevirtual 377, 14, 0)]
def pgb_195_b1 : List pg_R := [(14, .ireturn, 15, 0)]
def pgB_195 : pg_Bk := [(14, pgb_195_b0), (15, pgb_195_b1)]
set_option maxRecDepth 20000 in
theorem pgc_195 : pgB_195.all (fun q => q.2.all (pg_ok (pg_cc 195))) = true := by decide +kernel
/-- MarkovDeskModel.next()Z -/
def pgb_196_0_b0 : List pg_R := [(0, .aload_n 0, 1, 0), (1, .getfield 374, 4, 0), (4, .istore_n 1, 5, 0), (5, .iload_n 1, 6, 0), (6, .aload_n 0, 7, 0), (7, .getfield 356, 10, 0), (10, .if_icmp .ge 79, 13, 89), (13, .aload_n 0, 14, 0)]
def pgb_196_0_b1 : List pg_R := [(14, .getfield 102, 17, 0), (17, .iload_n 1, 18, 0), (18, .iaload, 19, 0), (19, .bipush 10, 21, 0), (21, .if_icmp .eq 14, 24, 35), (24, .aload_n 0, 25, 0), (25, .getfield 102, 28, 0), (28, .iload_n 1, 29, 0)]
def pgb_196_0_b2 : List pg_R := [(29, .iaload, 30, 0), (30, .bipush 32, 32, 0), (32, .if_icmp .ne 9, 35, 41), (35, .iinc 1 1, 38, 0), (38, .goto (-33), 41, 5), (41, .aload_n 0, 42, 0), (42, .getfield 102, 45, 0), (45, .iload_n 1, 46, 0)]
def pgb_196_0_b3 : List pg_R := [(46, .iaload, 47, 0), (47, .bipush 47, 49, 0), (49, .if_icmp .ne 40, 52, 89), (52, .aload_n 0, 53, 0), (53, .iload_n 1, 54, 0), (54, .iconst 1, 55, 0), (55, .iadd, 56, 0), (56, .invokevirtual 379, 59, 0)]
def pgb_196_0_b4 : List pg_R := [(59, .bipush 47, 61, 0), (61, .if_icmp .ne 28, 64, 89), (64, .iload_n 1, 65, 0), (65, .aload_n 0, 66, 0), (66, .getfield 356, 69, 0), (69, .if_icmp .ge (-64), 72, 5), (72, .aload_n 0, 73, 0), (73, .getfield 102, 76, 0)]
def pgb_196_0_b5 : List pg_R := [(76, .iload_n 1, 77, 0), (77, .iaload, 78, 0), (78, .bipush 10, 80, 0), (80, .if_icmp .eq (-75), 83, 5), (83, .iinc 1 1, 86, 0), (86, .goto (-22), 89, 64), (89, .aload_n 0, 90, 0), (90, .iload_n 1, 91, 0)]
def pgb_196_0_b6 : List pg_R := [(91, .putfield 383, 94, 0), (94, .aload_n 0, 95, 0), (95, .iload_n 1, 96, 0), (96, .putfield 374, 99, 0), (99, .aload_n 0, 100, 0), (100, .dup, 101, 0), (101, .getfield 371, 104, 0), (104, .iconst 1, 105, 0)]
def pgb_196_0_b7 : List pg_R := [(105, .iadd, 106, 0), (106, .dup_x1, 107, 0), (107, .putfield 371, 110, 0), (110, .sipush 1500, 113, 0)]
def pgB_196_0 : pg_Bk := [(14, pgb_196_0_b0), (29, pgb_196_0_b1), (46, pgb_196_0_b2), (59, pgb_196_0_b3), (76, pgb_196_0_b4), (91, pgb_196_0_b5), (105, pgb_196_0_b6), (111, pgb_196_0_b7)]
set_option maxRecDepth 20000 in
theorem pgc_196_0 : pgB_196_0.all (fun q => q.2.all (pg_ok (pg_cc 196))) = true := by decide +kernel
/-- MarkovDeskModel.next()Z -/
def pgb_196_1_b0 : List pg_R := [(113, .if_icmp .le 9, 116, 122), (116, .aload_n 0, 117, 0), (117, .iload_n 1, 118, 0), (118, .invokevirtual 363, 121, 0), (121, .ireturn, 122, 0), (122, .iload_n 1, 123, 0), (123, .aload_n 0, 124, 0), (124, .getfield 356, 127, 0)]
def pgb_196_1_b1 : List pg_R := [(127, .if_icmp .lt 10, 130, 137), (130, .aload_n 0, 131, 0), (131, .iconst 5, 132, 0), (132, .putfield 386, 135, 0), (135, .iconst 1, 136, 0), (136, .ireturn, 137, 0), (137, .aload_n 0, 138, 0), (138, .getfield 102, 141, 0)]
def pgb_196_1_b2 : List pg_R := [(141, .iload_n 1, 142, 0), (142, .iaload, 143, 0), (143, .invokestatic 389, 146, 0), (146, .ifCond .eq 126, 149, 272), (149, .aload_n 0, 150, 0), (150, .getfield 374, 153, 0), (153, .aload_n 0, 154, 0), (154, .getfield 383, 157, 0)]
def pgb_196_1_b3 : List pg_R := [(157, .isub, 158, 0), (158, .bipush 20, 160, 0), (160, .if_icmp .ge 44, 163, 204), (163, .aload_n 0, 164, 0), (164, .aload_n 0, 165, 0), (165, .getfield 374, 168, 0), (168, .invokevirtual 379, 171, 0), (171, .invokestatic 389, 174, 0)]
def pgb_196_1_b4 : List pg_R := [(174, .ifCond .ne 17, 177, 191), (177, .aload_n 0, 178, 0), (178, .aload_n 0, 179, 0), (179, .getfield 374, 182, 0), (182, .invokevirtual 379, 185, 0), (185, .invokestatic 392, 188, 0), (188, .ifCond .eq 16, 191, 204), (191, .aload_n 0, 192, 0)]
def pgb_196_1_b5 : List pg_R := [(192, .dup, 193, 0), (193, .getfield 374, 196, 0), (196, .iconst 1, 197, 0), (197, .iadd, 198, 0), (198, .putfield 374, 201, 0), (201, .goto (-52), 204, 149), (204, .aload_n 0, 205, 0), (205, .iconst 0, 206, 0)]
def pgb_196_1_b6 : List pg_R := [(206, .putfield 386, 209, 0), (209, .iconst 0, 210, 0), (210, .istore_n 2, 211, 0), (211, .iload_n 2, 212, 0), (212, .aload_n 0, 213, 0), (213, .getfield 35, 216, 0), (216, .arraylength, 217, 0), (217, .if_icmp .ge 53, 220, 270)]
def pgb_196_1_b7 : List pg_R := [(220, .aload_n 0, 221, 0), (221, .aload_n 0, 222, 0), (222, .getfield 35, 225, 0), (225, .iload_n 2, 226, 0)]
def pgB_196_1 : pg_Bk := [(127, pgb_196_1_b0), (141, pgb_196_1_b1), (157, pgb_196_1_b2), (174, pgb_196_1_b3), (192, pgb_196_1_b4), (206, pgb_196_1_b5), (220, pgb_196_1_b6), (226, pgb_196_1_b7)]
set_option maxRecDepth 20000 in
theorem pgc_196_1 : pgB_196_1.all (fun q => q.2.all (pg_ok (pg_cc 196))) = true := by decide +kernel
/-- MarkovDeskModel.next()Z -/
def pgb_196_2_b0 : List pg_R := [(226, .aaload, 227, 0), (227, .invokevirtual 395, 230, 0), (230, .ifCond .eq 34, 233, 264), (233, .aload_n 0, 234, 0), (234, .getfield 374, 237, 0), (237, .aload_n 0, 238, 0), (238, .getfield 383, 241, 0), (241, .isub, 242, 0)]
def pgb_196_2_b1 : List pg_R := [(242, .aload_n 0, 243, 0), (243, .getfield 35, 246, 0), (246, .iload_n 2, 247, 0), (247, .aaload, 248, 0), (248, .invokevirtual 399, 251, 0), (251, .if_icmp .ne 13, 254, 264), (254, .aload_n 0, 255, 0), (255, .iconst 4, 256, 0)]
def pgb_196_2_b2 : List pg_R := [(256, .putfield 386, 259, 0), (259, .aload_n 0, 260, 0), (260, .iload_n 2, 261, 0), (261, .putfield 403, 264, 0), (264, .iinc 2 1, 267, 0), (267, .goto (-56), 270, 211), (270, .iconst 1, 271, 0), (271, .ireturn, 272, 0)]
def pgb_196_2_b3 : List pg_R := [(272, .aload_n 0, 273, 0), (273, .getfield 102, 276, 0), (276, .iload_n 1, 277, 0), (277, .iaload, 278, 0), (278, .invokestatic 392, 281, 0), (281, .ifCond .eq 8, 284, 289), (284, .aload_n 0, 285, 0), (285, .invokevirtual 406, 288, 0)]
def pgb_196_2_b4 : List pg_R := [(288, .ireturn, 289, 0), (289, .aload_n 0, 290, 0), (290, .iconst 3, 291, 0), (291, .putfield 386, 294, 0), (294, .aload_n 0, 295, 0), (295, .iconst (-1), 296, 0), (296, .putfield 403, 299, 0), (299, .iconst 0, 300, 0)]
def pgb_196_2_b5 : List pg_R := [(300, .istore_n 2, 301, 0), (301, .iload_n 2, 302, 0), (302, .aload_n 0, 303, 0), (303, .getfield 91, 306, 0), (306, .arraylength, 307, 0), (307, .if_icmp .ge 58, 310, 365), (310, .aload_n 0, 311, 0), (311, .aload_n 0, 312, 0)]
def pgb_196_2_b6 : List pg_R := [(312, .getfield 91, 315, 0), (315, .iload_n 2, 316, 0), (316, .aaload, 317, 0), (317, .invokevirtual 395, 320, 0), (320, .ifCond .eq 39, 323, 359), (323, .aload_n 0, 324, 0), (324, .getfield 403, 327, 0), (327, .ifCond .lt 27, 330, 354)]
def pgb_196_2_b7 : List pg_R := [(330, .aload_n 0, 331, 0), (331, .getfield 91, 334, 0), (334, .iload_n 2, 335, 0), (335, .aaload, 336, 0)]
def pgB_196_2 : pg_Bk := [(242, pgb_196_2_b0), (256, pgb_196_2_b1), (272, pgb_196_2_b2), (288, pgb_196_2_b3), (300, pgb_196_2_b4), (312, pgb_196_2_b5), (330, pgb_196_2_b6), (336, pgb_196_2_b7)]
set_option maxRecDepth 20000 in
theorem pgc_196_2 : pgB_196_2.all (fun q => q.2.all (pg_ok (pg_cc 196))) = true := by decide +kernel
/-- MarkovDeskModel.next()Z -/
def pgb_196_3_b0 : List pg_R := [(336, .invokevirtual 399, 339, 0), (339, .aload_n 0, 340, 0), (340, .getfield 91, 343, 0), (343, .aload_n 0, 344, 0), (344, .getfield 403, 347, 0), (347, .aaload, 348, 0), (348, .invokevirtual 399, 351, 0), (351, .if_icmp .le 8, 354, 359)]
def pgb_196_3_b1 : List pg_R := [(354, .aload_n 0, 355, 0), (355, .iload_n 2, 356, 0), (356, .putfield 403, 359, 0), (359, .iinc 2 1, 362, 0), (362, .goto (-61), 365, 301), (365, .aload_n 0, 366, 0), (366, .getfield 403, 369, 0), (369, .ifCond .ge 9, 372, 378)]
def pgb_196_3_b2 : List pg_R := [(372, .aload_n 0, 373, 0), (373, .iload_n 1, 374, 0), (374, .invokevirtual 363, 377, 0), (377, .ireturn, 378, 0), (378, .aload_n 0, 379, 0), (379, .iload_n 1, 380, 0), (380, .aload_n 0, 381, 0), (381, .getfield 91, 384, 0)]
def pgb_196_3_b3 : List pg_R := [(384, .aload_n 0, 385, 0), (385, .getfield 403, 388, 0), (388, .aaload, 389, 0), (389, .invokevirtual 399, 392, 0), (392, .iadd, 393, 0), (393, .putfield 374, 396, 0), (396, .iconst 1, 397, 0), (397, .ireturn, 398, 0)]
def pgB_196_3 : pg_Bk := [(354, pgb_196_3_b0), (372, pgb_196_3_b1), (384, pgb_196_3_b2), (398, pgb_196_3_b3)]
set_option maxRecDepth 20000 in
theorem pgc_196_3 : pgB_196_3.all (fun q => q.2.all (pg_ok (pg_cc 196))) = true := by decide +kernel
def pgB_196 : pg_Bk := pgB_196_0 ++ (pgB_196_1 ++ (pgB_196_2 ++ (pgB_196_3)))
theorem pgc_196 : pgB_196.all (fun q => q.2.all (pg_ok (pg_cc 196))) = true := pg_all2 pgc_196_0 (pg_all2 pgc_196_1 (pg_all2 pgc_196_2 (pgc_196_3)))
/-- MarkovDeskModel.c(I)I -/
def pgb_197_b0 : List pg_R := [(0, .iload_n 1, 1, 0), (1, .aload_n 0, 2, 0), (2, .getfield 356, 5, 0), (5, .if_icmp .ge 12, 8, 17), (8, .aload_n 0, 9, 0), (9, .getfield 102, 12, 0), (12, .iload_n 1, 13, 0), (13, .iaload, 14, 0)]
def pgb_197_b1 : List pg_R := [(14, .goto 4, 17, 18), (17, .iconst 0, 18, 0), (18, .ireturn, 19, 0)]
def pgB_197 : pg_Bk := [(14, pgb_197_b0), (19, pgb_197_b1)]
set_option maxRecDepth 20000 in
theorem pgc_197 : pgB_197.all (fun q => q.2.all (pg_ok (pg_cc 197))) = true := by decide +kernel
/-- MarkovDeskModel.isLetter(I)Z -/
def pgb_198_b0 : List pg_R := [(0, .iload_n 0, 1, 0), (1, .bipush 97, 3, 0), (3, .bipush 122, 5, 0), (5, .invokestatic 359, 8, 0), (8, .ifCond .ne 20, 11, 28), (11, .iload_n 0, 12, 0), (12, .bipush 65, 14, 0), (14, .bipush 90, 16, 0)]
def pgb_198_b1 : List pg_R := [(16, .invokestatic 359, 19, 0), (19, .ifCond .ne 9, 22, 28), (22, .iload_n 0, 23, 0), (23, .bipush 95, 25, 0), (25, .if_icmp .ne 7, 28, 32), (28, .iconst 1, 29, 0), (29, .goto 4, 32, 33), (32, .iconst 0, 33, 0)]
def pgb_198_b2 : List pg_R := [(33, .ireturn, 34, 0)]
def pgB_198 : pg_Bk := [(16, pgb_198_b0), (33, pgb_198_b1), (34, pgb_198_b2)]
set_option maxRecDepth 20000 in
theorem pgc_198 : pgB_198.all (fun q => q.2.all (pg_ok (pg_cc 198))) = true := by decide +kernel
/-- MarkovDeskModel.isDigit(I)Z -/
def pgb_199_b0 : List pg_R := [(0, .iload_n 0, 1, 0), (1, .bipush 48, 3, 0), (3, .bipush 57, 5, 0), (5, .invokestatic 359, 8, 0), (8, .ireturn, 9, 0)]
def pgB_199 : pg_Bk := [(9, pgb_199_b0)]
set_option maxRecDepth 20000 in
theorem pgc_199 : pgB_199.all (fun q => q.2.all (pg_ok (pg_cc 199))) = true := by decide +kernel
/-- MarkovDeskModel.stands(Ljava/lang/String;)Z -/
def pgb_200_b0 : List pg_R := [(0, .iconst 0, 1, 0), (1, .istore_n 2, 2, 0), (2, .iload_n 2, 3, 0), (3, .aload_n 1, 4, 0), (4, .invokevirtual 399, 7, 0), (7, .if_icmp .ge 29, 10, 36), (10, .aload_n 0, 11, 0), (11, .aload_n 0, 12, 0)]
def pgb_200_b1 : List pg_R := [(12, .getfield 383, 15, 0), (15, .iload_n 2, 16, 0), (16, .iadd, 17, 0), (17, .invokevirtual 379, 20, 0), (20, .aload_n 1, 21, 0), (21, .iload_n 2, 22, 0), (22, .invokevirtual 409, 25, 0), (25, .if_icmp .eq 5, 28, 30)]
def pgb_200_b2 : List pg_R := [(28, .iconst 0, 29, 0), (29, .ireturn, 30, 0), (30, .iinc 2 1, 33, 0), (33, .goto (-31), 36, 2), (36, .iconst 1, 37, 0), (37, .ireturn, 38, 0)]
def pgB_200 : pg_Bk := [(12, pgb_200_b0), (28, pgb_200_b1), (38, pgb_200_b2)]
set_option maxRecDepth 20000 in
theorem pgc_200 : pgB_200.all (fun q => q.2.all (pg_ok (pg_cc 200))) = true := by decide +kernel
/-- MarkovDeskModel.number()Z -/
def pgb_201_0_b0 : List pg_R := [(0, .aload_n 0, 1, 0), (1, .getfield 383, 4, 0), (4, .istore_n 1, 5, 0), (5, .aload_n 0, 6, 0), (6, .iload_n 1, 7, 0), (7, .invokevirtual 379, 10, 0), (10, .invokestatic 392, 13, 0), (13, .ifCond .eq 9, 16, 22)]
def pgb_201_0_b1 : List pg_R := [(16, .iinc 1 1, 19, 0), (19, .goto (-14), 22, 5), (22, .aload_n 0, 23, 0), (23, .iconst 1, 24, 0), (24, .putfield 386, 27, 0), (27, .aload_n 0, 28, 0), (28, .iload_n 1, 29, 0), (29, .putfield 374, 32, 0)]
def pgb_201_0_b2 : List pg_R := [(32, .iload_n 1, 33, 0), (33, .aload_n 0, 34, 0), (34, .getfield 383, 37, 0), (37, .isub, 38, 0), (38, .iconst 3, 39, 0), (39, .if_icmp .gt 84, 42, 123), (42, .aload_n 0, 43, 0), (43, .iload_n 1, 44, 0)]
def pgb_201_0_b3 : List pg_R := [(44, .invokevirtual 379, 47, 0), (47, .bipush 46, 49, 0), (49, .if_icmp .ne 74, 52, 123), (52, .aload_n 0, 53, 0), (53, .iload_n 1, 54, 0), (54, .iconst 1, 55, 0), (55, .iadd, 56, 0), (56, .invokevirtual 379, 59, 0)]
def pgb_201_0_b4 : List pg_R := [(59, .invokestatic 392, 62, 0), (62, .ifCond .eq 61, 65, 123), (65, .aload_n 0, 66, 0), (66, .iconst 2, 67, 0), (67, .putfield 386, 70, 0), (70, .aload_n 0, 71, 0), (71, .iload_n 1, 72, 0), (72, .iconst 1, 73, 0)]
def pgb_201_0_b5 : List pg_R := [(73, .iadd, 74, 0), (74, .putfield 374, 77, 0), (77, .aload_n 0, 78, 0), (78, .aload_n 0, 79, 0), (79, .getfield 374, 82, 0), (82, .invokevirtual 379, 85, 0), (85, .invokestatic 392, 88, 0), (88, .ifCond .eq 16, 91, 104)]
def pgb_201_0_b6 : List pg_R := [(91, .aload_n 0, 92, 0), (92, .dup, 93, 0), (93, .getfield 374, 96, 0), (96, .iconst 1, 97, 0), (97, .iadd, 98, 0), (98, .putfield 374, 101, 0), (101, .goto (-24), 104, 77), (104, .aload_n 0, 105, 0)]
def pgb_201_0_b7 : List pg_R := [(105, .getfield 374, 108, 0), (108, .iload_n 1, 109, 0), (109, .isub, 110, 0), (110, .iconst 4, 111, 0)]
def pgB_201_0 : pg_Bk := [(16, pgb_201_0_b0), (32, pgb_201_0_b1), (44, pgb_201_0_b2), (59, pgb_201_0_b3), (73, pgb_201_0_b4), (91, pgb_201_0_b5), (105, pgb_201_0_b6), (111, pgb_201_0_b7)]
set_option maxRecDepth 20000 in
theorem pgc_201_0 : pgB_201_0.all (fun q => q.2.all (pg_ok (pg_cc 201))) = true := by decide +kernel
/-- MarkovDeskModel.number()Z -/
def pgb_201_1_b0 : List pg_R := [(111, .if_icmp .le 32, 114, 143), (114, .aload_n 0, 115, 0), (115, .aload_n 0, 116, 0), (116, .getfield 383, 119, 0), (119, .invokevirtual 363, 122, 0), (122, .ireturn, 123, 0), (123, .iload_n 1, 124, 0), (124, .aload_n 0, 125, 0)]
def pgb_201_1_b1 : List pg_R := [(125, .getfield 383, 128, 0), (128, .isub, 129, 0), (129, .bipush 6, 131, 0), (131, .if_icmp .le 12, 134, 143), (134, .aload_n 0, 135, 0), (135, .aload_n 0, 136, 0), (136, .getfield 383, 139, 0), (139, .invokevirtual 363, 142, 0)]
def pgb_201_1_b2 : List pg_R := [(142, .ireturn, 143, 0), (143, .aload_n 0, 144, 0), (144, .aload_n 0, 145, 0), (145, .getfield 374, 148, 0), (148, .invokevirtual 379, 151, 0), (151, .invokestatic 389, 154, 0), (154, .ifCond .eq 14, 157, 168), (157, .aload_n 0, 158, 0)]
def pgb_201_1_b3 : List pg_R := [(158, .aload_n 0, 159, 0), (159, .getfield 383, 162, 0), (162, .invokevirtual 363, 165, 0), (165, .goto 4, 168, 169), (168, .iconst 1, 169, 0), (169, .ireturn, 170, 0)]
def pgB_201_1 : pg_Bk := [(125, pgb_201_1_b0), (142, pgb_201_1_b1), (158, pgb_201_1_b2), (170, pgb_201_1_b3)]
set_option maxRecDepth 20000 in
theorem pgc_201_1 : pgB_201_1.all (fun q => q.2.all (pg_ok (pg_cc 201))) = true := by decide +kernel
def pgB_201 : pg_Bk := pgB_201_0 ++ (pgB_201_1)
theorem pgc_201 : pgB_201.all (fun q => q.2.all (pg_ok (pg_cc 201))) = true := pg_all2 pgc_201_0 (pgc_201_1)
/-- MarkovDeskModel.need(Ljava/lang/String;)Z -/
def pgb_202_b0 : List pg_R := [(0, .aload_n 0, 1, 0), (1, .aload_n 1, 2, 0), (2, .invokevirtual 417, 5, 0), (5, .ifCond .eq 10, 8, 15), (8, .aload_n 0, 9, 0), (9, .invokevirtual 377, 12, 0), (12, .goto 11, 15, 23), (15, .aload_n 0, 16, 0)]
def pgb_202_b1 : List pg_R := [(16, .aload_n 0, 17, 0), (17, .getfield 383, 20, 0), (20, .invokevirtual 363, 23, 0), (23, .ireturn, 24, 0)]
def pgB_202 : pg_Bk := [(16, pgb_202_b0), (24, pgb_202_b1)]
set_option maxRecDepth 20000 in
theorem pgc_202 : pgB_202.all (fun q => q.2.all (pg_ok (pg_cc 202))) = true := by decide +kernel
/-- MarkovDeskModel.is(Ljava/lang/String;)Z -/
def pgb_203_b0 : List pg_R := [(0, .aload_n 0, 1, 0), (1, .getfield 386, 4, 0), (4, .iconst 3, 5, 0), (5, .if_icmp .eq 13, 8, 18), (8, .aload_n 0, 9, 0), (9, .getfield 386, 12, 0), (12, .iconst 4, 13, 0), (13, .if_icmp .eq 5, 16, 18)]
def pgb_203_b1 : List pg_R := [(16, .iconst 0, 17, 0), (17, .ireturn, 18, 0), (18, .aload_n 0, 19, 0), (19, .getfield 386, 22, 0), (22, .iconst 3, 23, 0), (23, .if_icmp .ne 19, 26, 42), (26, .aload_n 0, 27, 0), (27, .getfield 91, 30, 0)]
def pgb_203_b2 : List pg_R := [(30, .aload_n 0, 31, 0), (31, .getfield 403, 34, 0), (34, .aaload, 35, 0), (35, .aload_n 1, 36, 0), (36, .invokevirtual 413, 39, 0), (39, .goto 16, 42, 55), (42, .aload_n 0, 43, 0), (43, .getfield 35, 46, 0)]
def pgb_203_b3 : List pg_R := [(46, .aload_n 0, 47, 0), (47, .getfield 403, 50, 0), (50, .aaload, 51, 0), (51, .aload_n 1, 52, 0), (52, .invokevirtual 413, 55, 0), (55, .ireturn, 56, 0)]
def pgB_203 : pg_Bk := [(16, pgb_203_b0), (30, pgb_203_b1), (46, pgb_203_b2), (56, pgb_203_b3)]
set_option maxRecDepth 20000 in
theorem pgc_203 : pgB_203.all (fun q => q.2.all (pg_ok (pg_cc 203))) = true := by decide +kernel
/-- java/lang/String.equals(Ljava/lang/Object;)Z -/
def pgb_204_b0 : List pg_R := [(0, .aload_n 0, 1, 0), (1, .aload_n 1, 2, 0), (2, .if_acmp .ne 5, 5, 7), (5, .iconst 1, 6, 0), (6, .ireturn, 7, 0), (7, .aload_n 1, 8, 0), (8, .instanceof 10, 11, 0), (11, .ifCond .eq 43, 14, 54)]
def pgb_204_b1 : List pg_R := [(14, .aload_n 1, 15, 0), (15, .checkcast 10, 18, 0), (18, .astore_n 2, 19, 0), (19, .getstatic 38, 22, 0), (22, .ifCond .eq 14, 25, 36), (25, .aload_n 0, 26, 0), (26, .getfield 15, 29, 0), (29, .aload_n 2, 30, 0)]
def pgb_204_b2 : List pg_R := [(30, .getfield 15, 33, 0), (33, .if_icmp .ne 21, 36, 54), (36, .aload_n 0, 37, 0), (37, .getfield 9, 40, 0), (40, .aload_n 2, 41, 0), (41, .getfield 9, 44, 0), (44, .invokestatic 541, 47, 0), (47, .ifCond .eq 7, 50, 54)]
def pgb_204_b3 : List pg_R := [(50, .iconst 1, 51, 0), (51, .goto 4, 54, 55), (54, .iconst 0, 55, 0), (55, .ireturn, 56, 0)]
def pgB_204 : pg_Bk := [(14, pgb_204_b0), (30, pgb_204_b1), (50, pgb_204_b2), (56, pgb_204_b3)]
set_option maxRecDepth 20000 in
theorem pgc_204 : pgB_204.all (fun q => q.2.all (pg_ok (pg_cc 204))) = true := by decide +kernel
/-- java/lang/StringLatin1.equals([B[B)Z -/
def pgb_205_b0 : List pg_R := [(0, .aload_n 0, 1, 0), (1, .arraylength, 2, 0), (2, .aload_n 1, 3, 0), (3, .arraylength, 4, 0), (4, .if_icmp .ne 30, 7, 34), (7, .iconst 0, 8, 0), (8, .istore_n 2, 9, 0), (9, .iload_n 2, 10, 0)]
def pgb_205_b1 : List pg_R := [(10, .aload_n 0, 11, 0), (11, .arraylength, 12, 0), (12, .if_icmp .ge 20, 15, 32), (15, .aload_n 0, 16, 0), (16, .iload_n 2, 17, 0), (17, .baload, 18, 0), (18, .aload_n 1, 19, 0), (19, .iload_n 2, 20, 0)]
def pgb_205_b2 : List pg_R := [(20, .baload, 21, 0), (21, .if_icmp .eq 5, 24, 26), (24, .iconst 0, 25, 0), (25, .ireturn, 26, 0), (26, .iinc 2 1, 29, 0), (29, .goto (-20), 32, 9), (32, .iconst 1, 33, 0), (33, .ireturn, 34, 0)]
def pgb_205_b3 : List pg_R := [(34, .iconst 0, 35, 0), (35, .ireturn, 36, 0)]
def pgB_205 : pg_Bk := [(10, pgb_205_b0), (20, pgb_205_b1), (34, pgb_205_b2), (36, pgb_205_b3)]
set_option maxRecDepth 20000 in
theorem pgc_205 : pgB_205.all (fun q => q.2.all (pg_ok (pg_cc 205))) = true := by decide +kernel
