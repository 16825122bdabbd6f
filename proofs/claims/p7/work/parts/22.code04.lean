/-- MarkovDesk.commonDivisor(JJ)J -/
def pgb_94_b0 : List pg_R := [(0, .lload_n 0, 1, 0), (1, .lstore 4, 3, 0), (3, .lload_n 2, 4, 0), (4, .lstore 6, 6, 0), (6, .iconst 0, 7, 0), (7, .istore 8, 9, 0), (9, .iload 8, 11, 0), (11, .bipush 100, 13, 0)]
def pgb_94_b1 : List pg_R := [(13, .if_icmp .ge 31, 16, 44), (16, .lload 6, 18, 0), (18, .lconst 0, 19, 0), (19, .lcmp, 20, 0), (20, .ifCond .eq 24, 23, 44), (23, .lload 4, 25, 0), (25, .lload 6, 27, 0), (27, .lrem, 28, 0)]
def pgb_94_b2 : List pg_R := [(28, .lstore 9, 30, 0), (30, .lload 6, 32, 0), (32, .lstore 4, 34, 0), (34, .lload 9, 36, 0), (36, .lstore 6, 38, 0), (38, .iinc 8 1, 41, 0), (41, .goto (-32), 44, 9), (44, .lload 4, 46, 0)]
def pgb_94_b3 : List pg_R := [(46, .lconst 0, 47, 0), (47, .lcmp, 48, 0), (48, .ifCond .ne 7, 51, 55), (51, .lconst 1, 52, 0), (52, .goto 5, 55, 57), (55, .lload 4, 57, 0), (57, .lreturn, 58, 0)]
def pgB_94 : pg_Bk := [(13, pgb_94_b0), (28, pgb_94_b1), (46, pgb_94_b2), (58, pgb_94_b3)]
set_option maxRecDepth 20000 in
theorem pgc_94 : pgB_94.all (fun q => q.2.all (pg_ok (pg_cc 94))) = true := by decide +kernel
/-- MarkovDesk$Reader.closeModule()Z -/
def pgb_95_b0 : List pg_R := [(0, .aload_n 0, 1, 0), (1, .bipush 10, 3, 0), (3, .invokevirtual 87, 6, 0), (6, .aload_n 0, 7, 0), (7, .invokevirtual 118, 10, 0), (10, .bipush 9, 12, 0), (12, .if_icmp .ne 7, 15, 19), (15, .iconst 1, 16, 0)]
def pgb_95_b1 : List pg_R := [(16, .goto 4, 19, 20), (19, .iconst 0, 20, 0), (20, .ireturn, 21, 0)]
def pgB_95 : pg_Bk := [(16, pgb_95_b0), (21, pgb_95_b1)]
set_option maxRecDepth 20000 in
theorem pgc_95 : pgB_95.all (fun q => q.2.all (pg_ok (pg_cc 95))) = true := by decide +kernel
/-- MarkovDesk$Reader.readTarget()V -/
def pgb_96_b0 : List pg_R := [(0, .aload_n 0, 1, 0), (1, .bipush 12, 3, 0), (3, .invokevirtual 87, 6, 0), (6, .aload_n 0, 7, 0), (7, .getfield 51, 10, 0), (10, .aload_n 0, 11, 0), (11, .iconst 2, 12, 0), (12, .iconst 1, 13, 0)]
def pgb_96_b1 : List pg_R := [(13, .invokevirtual 94, 16, 0), (16, .putfield 121, 19, 0), (19, .aload_n 0, 20, 0), (20, .bipush 36, 22, 0), (22, .invokevirtual 87, 25, 0), (25, .aload_n 0, 26, 0), (26, .invokevirtual 118, 29, 0), (29, .ifCond .eq 11, 32, 40)]
def pgb_96_b2 : List pg_R := [(32, .aload_n 0, 33, 0), (33, .aload_n 0, 34, 0), (34, .invokevirtual 98, 37, 0), (37, .invokevirtual 74, 40, 0), (40, .return_, 41, 0)]
def pgB_96 : pg_Bk := [(13, pgb_96_b0), (32, pgb_96_b1), (41, pgb_96_b2)]
set_option maxRecDepth 20000 in
theorem pgc_96 : pgB_96.all (fun q => q.2.all (pg_ok (pg_cc 96))) = true := by decide +kernel
/-- MarkovDeskLaw.explore(LMarkovDesk;[J)I -/
def pgb_97_b0 : List pg_R := [(0, .aload_n 1, 1, 0), (1, .iconst 0, 2, 0), (2, .aload_n 0, 3, 0), (3, .invokevirtual 21, 6, 0), (6, .i2l, 7, 0), (7, .lastore, 8, 0), (8, .goto 12, 11, 20), (11, .astore_n 2, 12, 0)]
def pgb_97_b1 : List pg_R := [(12, .iconst 1, 13, 0), (13, .ireturn, 14, 0), (14, .astore_n 2, 15, 0), (15, .iconst 2, 16, 0), (16, .ireturn, 17, 0), (17, .astore_n 2, 18, 0), (18, .iconst 3, 19, 0), (19, .ireturn, 20, 0)]
def pgb_97_b2 : List pg_R := [(20, .iconst 0, 21, 0), (21, .ireturn, 22, 0)]
def pgB_97 : pg_Bk := [(12, pgb_97_b0), (20, pgb_97_b1), (22, pgb_97_b2)]
set_option maxRecDepth 20000 in
theorem pgc_97 : pgB_97.all (fun q => q.2.all (pg_ok (pg_cc 97))) = true := by decide +kernel
/-- MarkovDesk.explore()I -/
def pgb_98_b0 : List pg_R := [(0, .aload_n 0, 1, 0), (1, .getfield 22, 4, 0), (4, .getfield 108, 7, 0), (7, .ifCond .ne 11, 10, 18), (10, .new 147, 13, 0), (13, .dup, 14, 0), (14, .invokespecial 149, 17, 0), (17, .athrow, 18, 0)]
def pgb_98_b1 : List pg_R := [(18, .aload_n 0, 19, 0), (19, .invokevirtual 112, 22, 0), (22, .aload_n 0, 23, 0), (23, .getfield 40, 26, 0), (26, .invokevirtual 150, 29, 0), (29, .aload_n 0, 30, 0), (30, .getfield 40, 33, 0), (33, .getfield 153, 36, 0)]
def pgb_98_b2 : List pg_R := [(36, .ireturn, 37, 0)]
def pgB_98 : pg_Bk := [(18, pgb_98_b0), (36, pgb_98_b1), (37, pgb_98_b2)]
set_option maxRecDepth 20000 in
theorem pgc_98 : pgB_98.all (fun q => q.2.all (pg_ok (pg_cc 98))) = true := by decide +kernel
/-- java/lang/IllegalStateException.<init>()V -/
def pgb_99_b0 : List pg_R := [(0, .aload_n 0, 1, 0), (1, .invokespecial 1, 4, 0), (4, .return_, 5, 0)]
def pgB_99 : pg_Bk := [(5, pgb_99_b0)]
set_option maxRecDepth 20000 in
theorem pgc_99 : pgB_99.all (fun q => q.2.all (pg_ok (pg_cc 99))) = true := by decide +kernel
/-- MarkovDesk$Space.build()V -/
def pgb_100_0_b0 : List pg_R := [(0, .aload_n 0, 1, 0), (1, .iconst 0, 2, 0), (2, .putfield 62, 5, 0), (5, .aload_n 0, 6, 0), (6, .iconst 0, 7, 0), (7, .putfield 66, 10, 0), (10, .aload_n 0, 11, 0), (11, .iconst 0, 12, 0)]
def pgb_100_0_b1 : List pg_R := [(12, .putfield 69, 15, 0), (15, .aload_n 0, 16, 0), (16, .getfield 54, 19, 0), (19, .getfield 72, 22, 0), (22, .iconst 0, 23, 0), (23, .aload_n 0, 24, 0), (24, .getfield 9, 27, 0), (27, .iconst 0, 28, 0)]
def pgb_100_0_b2 : List pg_R := [(28, .bipush 8, 30, 0), (30, .invokestatic 77, 33, 0), (33, .aload_n 0, 34, 0), (34, .iconst 1, 35, 0), (35, .putfield 58, 38, 0), (38, .iconst 0, 39, 0), (39, .istore_n 1, 40, 0), (40, .iload_n 1, 41, 0)]
def pgb_100_0_b3 : List pg_R := [(41, .aload_n 0, 42, 0), (42, .getfield 58, 45, 0), (45, .if_icmp .ge 75, 48, 120), (48, .iload_n 1, 49, 0), (49, .bipush 24, 51, 0), (51, .if_icmp .ge 69, 54, 120), (54, .aload_n 0, 55, 0), (55, .iload_n 1, 56, 0)]
def pgb_100_0_b4 : List pg_R := [(56, .invokevirtual 83, 59, 0), (59, .aload_n 0, 60, 0), (60, .getfield 22, 63, 0), (63, .iload_n 1, 64, 0), (64, .aload_n 0, 65, 0), (65, .getfield 66, 68, 0), (68, .iastore, 69, 0), (69, .aload_n 0, 70, 0)]
def pgb_100_0_b5 : List pg_R := [(70, .iload_n 1, 71, 0), (71, .invokevirtual 87, 74, 0), (74, .aload_n 0, 75, 0), (75, .iload_n 1, 76, 0), (76, .invokevirtual 90, 79, 0), (79, .aload_n 0, 80, 0), (80, .getfield 66, 83, 0), (83, .aload_n 0, 84, 0)]
def pgb_100_0_b6 : List pg_R := [(84, .getfield 22, 87, 0), (87, .iload_n 1, 88, 0), (88, .iaload, 89, 0), (89, .if_icmp .ne 13, 92, 102), (92, .aload_n 0, 93, 0), (93, .iconst 0, 94, 0), (94, .putfield 93, 97, 0), (97, .aload_n 0, 98, 0)]
def pgb_100_0_b7 : List pg_R := [(98, .iload_n 1, 99, 0), (99, .invokevirtual 96, 102, 0), (102, .aload_n 0, 103, 0), (103, .getfield 22, 106, 0)]
def pgB_100_0 : pg_Bk := [(12, pgb_100_0_b0), (28, pgb_100_0_b1), (41, pgb_100_0_b2), (56, pgb_100_0_b3), (70, pgb_100_0_b4), (84, pgb_100_0_b5), (98, pgb_100_0_b6), (104, pgb_100_0_b7)]
set_option maxRecDepth 20000 in
theorem pgc_100_0 : pgB_100_0.all (fun q => q.2.all (pg_ok (pg_cc 100))) = true := by decide +kernel
/-- MarkovDesk$Space.build()V -/
def pgb_100_1_b0 : List pg_R := [(106, .iload_n 1, 107, 0), (107, .iconst 1, 108, 0), (108, .iadd, 109, 0), (109, .aload_n 0, 110, 0), (110, .getfield 66, 113, 0), (113, .iastore, 114, 0), (114, .iinc 1 1, 117, 0), (117, .goto (-77), 120, 40)]
def pgb_100_1_b1 : List pg_R := [(120, .aload_n 0, 121, 0), (121, .iconst 1, 122, 0), (122, .putfield 62, 125, 0), (125, .return_, 126, 0)]
def pgB_100_1 : pg_Bk := [(120, pgb_100_1_b0), (126, pgb_100_1_b1)]
set_option maxRecDepth 20000 in
theorem pgc_100_1 : pgB_100_1.all (fun q => q.2.all (pg_ok (pg_cc 100))) = true := by decide +kernel
def pgB_100 : pg_Bk := pgB_100_0 ++ (pgB_100_1)
theorem pgc_100 : pgB_100.all (fun q => q.2.all (pg_ok (pg_cc 100))) = true := pg_all2 pgc_100_0 (pgc_100_1)
/-- MarkovDesk$Space.lookAt(I)V -/
def pgb_101_b0 : List pg_R := [(0, .iconst 0, 1, 0), (1, .istore_n 2, 2, 0), (2, .iload_n 2, 3, 0), (3, .aload_n 0, 4, 0), (4, .getfield 54, 7, 0), (7, .getfield 99, 10, 0), (10, .if_icmp .ge 37, 13, 47), (13, .aload_n 0, 14, 0)]
def pgb_101_b1 : List pg_R := [(14, .getfield 38, 17, 0), (17, .iload_n 2, 18, 0), (18, .aload_n 0, 19, 0), (19, .aload_n 0, 20, 0), (20, .getfield 54, 23, 0), (23, .getfield 102, 26, 0), (26, .iload_n 2, 27, 0), (27, .iaload, 28, 0)]
def pgb_101_b2 : List pg_R := [(28, .iload_n 1, 29, 0), (29, .invokevirtual 105, 32, 0), (32, .ifCond .eq 7, 35, 39), (35, .iconst 1, 36, 0), (36, .goto 4, 39, 40), (39, .iconst 0, 40, 0), (40, .bastore, 41, 0), (41, .iinc 2 1, 44, 0)]
def pgb_101_b3 : List pg_R := [(44, .goto (-42), 47, 2), (47, .aload_n 0, 48, 0), (48, .getfield 18, 51, 0), (51, .iload_n 1, 52, 0), (52, .aload_n 0, 53, 0), (53, .aload_n 0, 54, 0), (54, .getfield 54, 57, 0), (57, .getfield 109, 60, 0)]
def pgb_101_b4 : List pg_R := [(60, .iload_n 1, 61, 0), (61, .invokevirtual 105, 64, 0), (64, .ifCond .eq 7, 67, 71), (67, .iconst 1, 68, 0), (68, .goto 4, 71, 72), (71, .iconst 0, 72, 0), (72, .bastore, 73, 0), (73, .return_, 74, 0)]
def pgB_101 : pg_Bk := [(14, pgb_101_b0), (28, pgb_101_b1), (44, pgb_101_b2), (60, pgb_101_b3), (74, pgb_101_b4)]
set_option maxRecDepth 20000 in
theorem pgc_101 : pgB_101.all (fun q => q.2.all (pg_ok (pg_cc 101))) = true := by decide +kernel
/-- MarkovDesk$Space.reckon(II)I -/
def pgb_102_b0 : List pg_R := [(0, .aload_n 0, 1, 0), (1, .getfield 50, 4, 0), (4, .iload_n 1, 5, 0), (5, .aload_n 0, 6, 0), (6, .getfield 9, 9, 0), (9, .iload_n 2, 10, 0), (10, .bipush 8, 12, 0), (12, .imul, 13, 0)]
def pgb_102_b1 : List pg_R := [(13, .invokevirtual 111, 16, 0), (16, .istore_n 3, 17, 0), (17, .aload_n 0, 18, 0), (18, .getfield 50, 21, 0), (21, .getfield 117, 24, 0), (24, .ifCond .eq 11, 27, 35), (27, .new 120, 30, 0), (30, .dup, 31, 0)]
def pgb_102_b2 : List pg_R := [(31, .invokespecial 122, 34, 0), (34, .athrow, 35, 0), (35, .iload_n 3, 36, 0), (36, .ireturn, 37, 0)]
def pgB_102 : pg_Bk := [(13, pgb_102_b0), (31, pgb_102_b1), (37, pgb_102_b2)]
set_option maxRecDepth 20000 in
theorem pgc_102 : pgB_102.all (fun q => q.2.all (pg_ok (pg_cc 102))) = true := by decide +kernel
/-- java/lang/ArithmeticException.<init>()V -/
def pgb_103_b0 : List pg_R := [(0, .aload_n 0, 1, 0), (1, .invokespecial 1, 4, 0), (4, .return_, 5, 0)]
def pgB_103 : pg_Bk := [(5, pgb_103_b0)]
set_option maxRecDepth 20000 in
theorem pgc_103 : pgB_103.all (fun q => q.2.all (pg_ok (pg_cc 103))) = true := by decide +kernel
/-- MarkovDesk$Space.addSingleChoices(I)V -/
def pgb_104_b0 : List pg_R := [(0, .iconst 0, 1, 0), (1, .istore_n 2, 2, 0), (2, .iload_n 2, 3, 0), (3, .aload_n 0, 4, 0), (4, .getfield 54, 7, 0), (7, .getfield 99, 10, 0), (10, .if_icmp .ge 47, 13, 57), (13, .aload_n 0, 14, 0)]
def pgb_104_b1 : List pg_R := [(14, .getfield 38, 17, 0), (17, .iload_n 2, 18, 0), (18, .baload, 19, 0), (19, .ifCond .eq 32, 22, 51), (22, .aload_n 0, 23, 0), (23, .getfield 54, 26, 0), (26, .getfield 123, 29, 0), (29, .iload_n 2, 30, 0)]
def pgb_104_b2 : List pg_R := [(30, .iaload, 31, 0), (31, .ifCond .ge 20, 34, 51), (34, .aload_n 0, 35, 0), (35, .iconst 1, 36, 0), (36, .putfield 93, 39, 0), (39, .aload_n 0, 40, 0), (40, .getfield 47, 43, 0), (43, .iconst 0, 44, 0)]
def pgb_104_b3 : List pg_R := [(44, .iload_n 2, 45, 0), (45, .iastore, 46, 0), (46, .aload_n 0, 47, 0), (47, .iload_n 1, 48, 0), (48, .invokevirtual 96, 51, 0), (51, .iinc 2 1, 54, 0), (54, .goto (-52), 57, 2), (57, .return_, 58, 0)]
def pgB_104 : pg_Bk := [(14, pgb_104_b0), (30, pgb_104_b1), (44, pgb_104_b2), (58, pgb_104_b3)]
set_option maxRecDepth 20000 in
theorem pgc_104 : pgB_104.all (fun q => q.2.all (pg_ok (pg_cc 104))) = true := by decide +kernel
/-- MarkovDesk$Space.addChoice(I)V -/
def pgb_105_0_b0 : List pg_R := [(0, .iconst 1, 1, 0), (1, .istore_n 2, 2, 0), (2, .lconst 1, 3, 0), (3, .lstore_n 3, 4, 0), (4, .iconst 0, 5, 0), (5, .istore 5, 7, 0), (7, .iload 5, 9, 0), (9, .aload_n 0, 10, 0)]
def pgb_105_0_b1 : List pg_R := [(10, .getfield 93, 13, 0), (13, .if_icmp .ge 44, 16, 57), (16, .iload_n 2, 17, 0), (17, .aload_n 0, 18, 0), (18, .getfield 54, 21, 0), (21, .aload_n 0, 22, 0), (22, .getfield 47, 25, 0), (25, .iload 5, 27, 0)]
def pgb_105_0_b2 : List pg_R := [(27, .iaload, 28, 0), (28, .invokevirtual 147, 31, 0), (31, .imul, 32, 0), (32, .istore_n 2, 33, 0), (33, .lload_n 3, 34, 0), (34, .aload_n 0, 35, 0), (35, .getfield 54, 38, 0), (38, .getfield 151, 41, 0)]
def pgb_105_0_b3 : List pg_R := [(41, .aload_n 0, 42, 0), (42, .getfield 47, 45, 0), (45, .iload 5, 47, 0), (47, .iaload, 48, 0), (48, .laload, 49, 0), (49, .lmul, 50, 0), (50, .lstore_n 3, 51, 0), (51, .iinc 5 1, 54, 0)]
def pgb_105_0_b4 : List pg_R := [(54, .goto (-47), 57, 7), (57, .aload_n 0, 58, 0), (58, .getfield 66, 61, 0), (61, .sipush 200, 64, 0), (64, .if_icmp .ge 9, 67, 73), (67, .iload_n 2, 68, 0), (68, .bipush 16, 70, 0), (70, .if_icmp .le 11, 73, 81)]
def pgb_105_0_b5 : List pg_R := [(73, .new 152, 76, 0), (76, .dup, 77, 0), (77, .invokespecial 154, 80, 0), (80, .athrow, 81, 0), (81, .aload_n 0, 82, 0), (82, .getfield 25, 85, 0), (85, .aload_n 0, 86, 0), (86, .getfield 66, 89, 0)]
def pgb_105_0_b6 : List pg_R := [(89, .aload_n 0, 90, 0), (90, .getfield 69, 93, 0), (93, .iastore, 94, 0), (94, .iconst 0, 95, 0), (95, .istore 5, 97, 0), (97, .iload 5, 99, 0), (99, .iload_n 2, 100, 0), (100, .if_icmp .ge 16, 103, 116)]
def pgb_105_0_b7 : List pg_R := [(103, .aload_n 0, 104, 0), (104, .iload_n 1, 105, 0), (105, .iload 5, 107, 0), (107, .invokevirtual 155, 110, 0)]
def pgB_105_0 : pg_Bk := [(10, pgb_105_0_b0), (27, pgb_105_0_b1), (41, pgb_105_0_b2), (54, pgb_105_0_b3), (73, pgb_105_0_b4), (89, pgb_105_0_b5), (103, pgb_105_0_b6), (108, pgb_105_0_b7)]
set_option maxRecDepth 20000 in
theorem pgc_105_0 : pgB_105_0.all (fun q => q.2.all (pg_ok (pg_cc 105))) = true := by decide +kernel
/-- MarkovDesk$Space.addChoice(I)V -/
def pgb_105_1_b0 : List pg_R := [(110, .iinc 5 1, 113, 0), (113, .goto (-16), 116, 97), (116, .lload_n 3, 117, 0), (117, .lstore 5, 119, 0), (119, .aload_n 0, 120, 0), (120, .getfield 25, 123, 0), (123, .aload_n 0, 124, 0), (124, .getfield 66, 127, 0)]
def pgb_105_1_b1 : List pg_R := [(127, .iaload, 128, 0), (128, .istore 7, 130, 0), (130, .iload 7, 132, 0), (132, .aload_n 0, 133, 0), (133, .getfield 69, 136, 0), (136, .if_icmp .ge 23, 139, 159), (139, .lload 5, 141, 0), (141, .aload_n 0, 142, 0)]
def pgb_105_1_b2 : List pg_R := [(142, .getfield 35, 145, 0), (145, .iload 7, 147, 0), (147, .laload, 148, 0), (148, .invokestatic 159, 151, 0), (151, .lstore 5, 153, 0), (153, .iinc 7 1, 156, 0), (156, .goto (-26), 159, 130), (159, .aload_n 0, 160, 0)]
def pgb_105_1_b3 : List pg_R := [(160, .getfield 25, 163, 0), (163, .aload_n 0, 164, 0), (164, .getfield 66, 167, 0), (167, .iaload, 168, 0), (168, .istore 7, 170, 0), (170, .iload 7, 172, 0), (172, .aload_n 0, 173, 0), (173, .getfield 69, 176, 0)]
def pgb_105_1_b4 : List pg_R := [(176, .if_icmp .ge 21, 179, 197), (179, .aload_n 0, 180, 0), (180, .getfield 35, 183, 0), (183, .iload 7, 185, 0), (185, .dup2, 186, 0), (186, .laload, 187, 0), (187, .lload 5, 189, 0), (189, .ldiv, 190, 0)]
def pgb_105_1_b5 : List pg_R := [(190, .lastore, 191, 0), (191, .iinc 7 1, 194, 0), (194, .goto (-24), 197, 170), (197, .aload_n 0, 198, 0), (198, .getfield 28, 201, 0), (201, .aload_n 0, 202, 0), (202, .getfield 66, 205, 0), (205, .lload_n 3, 206, 0)]
def pgb_105_1_b6 : List pg_R := [(206, .lload 5, 208, 0), (208, .ldiv, 209, 0), (209, .lastore, 210, 0), (210, .aload_n 0, 211, 0), (211, .dup, 212, 0), (212, .getfield 66, 215, 0), (215, .iconst 1, 216, 0), (216, .iadd, 217, 0)]
def pgb_105_1_b7 : List pg_R := [(217, .putfield 66, 220, 0), (220, .aload_n 0, 221, 0), (221, .getfield 25, 224, 0), (224, .aload_n 0, 225, 0)]
def pgB_105_1 : pg_Bk := [(127, pgb_105_1_b0), (142, pgb_105_1_b1), (160, pgb_105_1_b2), (176, pgb_105_1_b3), (190, pgb_105_1_b4), (206, pgb_105_1_b5), (217, pgb_105_1_b6), (225, pgb_105_1_b7)]
set_option maxRecDepth 20000 in
theorem pgc_105_1 : pgB_105_1.all (fun q => q.2.all (pg_ok (pg_cc 105))) = true := by decide +kernel
/-- MarkovDesk$Space.addChoice(I)V -/
def pgb_105_2_b0 : List pg_R := [(225, .getfield 66, 228, 0), (228, .aload_n 0, 229, 0), (229, .getfield 69, 232, 0), (232, .iastore, 233, 0), (233, .return_, 234, 0)]
def pgB_105_2 : pg_Bk := [(234, pgb_105_2_b0)]
set_option maxRecDepth 20000 in
theorem pgc_105_2 : pgB_105_2.all (fun q => q.2.all (pg_ok (pg_cc 105))) = true := by decide +kernel
def pgB_105 : pg_Bk := pgB_105_0 ++ (pgB_105_1 ++ (pgB_105_2))
theorem pgc_105 : pgB_105.all (fun q => q.2.all (pg_ok (pg_cc 105))) = true := pg_all2 pgc_105_0 (pg_all2 pgc_105_1 (pgc_105_2))
/-- MarkovDesk$Model.updatesOf(I)I -/
def pgb_106_b0 : List pg_R := [(0, .aload_n 0, 1, 0), (1, .getfield 37, 4, 0), (4, .iload_n 1, 5, 0), (5, .iconst 1, 6, 0), (6, .iadd, 7, 0), (7, .iaload, 8, 0), (8, .aload_n 0, 9, 0), (9, .getfield 37, 12, 0)]
def pgb_106_b1 : List pg_R := [(12, .iload_n 1, 13, 0), (13, .iaload, 14, 0), (14, .isub, 15, 0), (15, .ireturn, 16, 0)]
def pgB_106 : pg_Bk := [(12, pgb_106_b0), (16, pgb_106_b1)]
set_option maxRecDepth 20000 in
theorem pgc_106 : pgB_106.all (fun q => q.2.all (pg_ok (pg_cc 106))) = true := by decide +kernel
/-- java/lang/UnsupportedOperationException.<init>()V -/
def pgb_107_b0 : List pg_R := [(0, .aload_n 0, 1, 0), (1, .invokespecial 1, 4, 0), (4, .return_, 5, 0)]
def pgB_107 : pg_Bk := [(5, pgb_107_b0)]
set_option maxRecDepth 20000 in
theorem pgc_107 : pgB_107.all (fun q => q.2.all (pg_ok (pg_cc 107))) = true := by decide +kernel
/-- MarkovDesk$Space.addOutcome(II)V -/
def pgb_108_0_b0 : List pg_R := [(0, .aload_n 0, 1, 0), (1, .getfield 9, 4, 0), (4, .iload_n 1, 5, 0), (5, .bipush 8, 7, 0), (7, .imul, 8, 0), (8, .aload_n 0, 9, 0), (9, .getfield 15, 12, 0), (12, .iconst 0, 13, 0)]
def pgb_108_0_b1 : List pg_R := [(13, .bipush 8, 15, 0), (15, .invokestatic 77, 18, 0), (18, .lconst 1, 19, 0), (19, .lstore_n 3, 20, 0), (20, .iload_n 2, 21, 0), (21, .istore 5, 23, 0), (23, .aload_n 0, 24, 0), (24, .getfield 93, 27, 0)]
def pgb_108_0_b2 : List pg_R := [(27, .iconst 1, 28, 0), (28, .isub, 29, 0), (29, .istore 6, 31, 0), (31, .iload 6, 33, 0), (33, .ifCond .lt 209, 36, 242), (36, .iconst 1, 37, 0), (37, .aload_n 0, 38, 0), (38, .getfield 54, 41, 0)]
def pgb_108_0_b3 : List pg_R := [(41, .aload_n 0, 42, 0), (42, .getfield 47, 45, 0), (45, .iload 6, 47, 0), (47, .iaload, 48, 0), (48, .invokevirtual 147, 51, 0), (51, .invokestatic 142, 54, 0), (54, .istore 7, 56, 0), (56, .aload_n 0, 57, 0)]
def pgb_108_0_b4 : List pg_R := [(57, .getfield 54, 60, 0), (60, .getfield 163, 63, 0), (63, .aload_n 0, 64, 0), (64, .getfield 47, 67, 0), (67, .iload 6, 69, 0), (69, .iaload, 70, 0), (70, .iaload, 71, 0), (71, .iload 5, 73, 0)]
def pgb_108_0_b5 : List pg_R := [(73, .iload 7, 75, 0), (75, .irem, 76, 0), (76, .iadd, 77, 0), (77, .istore 8, 79, 0), (79, .iload 5, 81, 0), (81, .iload 7, 83, 0), (83, .idiv, 84, 0), (84, .istore 5, 86, 0)]
def pgb_108_0_b6 : List pg_R := [(86, .lload_n 3, 87, 0), (87, .aload_n 0, 88, 0), (88, .getfield 54, 91, 0), (91, .getfield 166, 94, 0), (94, .iload 8, 96, 0), (96, .laload, 97, 0), (97, .lmul, 98, 0), (98, .lstore_n 3, 99, 0)]
def pgb_108_0_b7 : List pg_R := [(99, .aload_n 0, 100, 0), (100, .getfield 54, 103, 0), (103, .getfield 167, 106, 0), (106, .iload 8, 108, 0)]
def pgB_108_0 : pg_Bk := [(13, pgb_108_0_b0), (27, pgb_108_0_b1), (41, pgb_108_0_b2), (57, pgb_108_0_b3), (73, pgb_108_0_b4), (86, pgb_108_0_b5), (99, pgb_108_0_b6), (107, pgb_108_0_b7)]
set_option maxRecDepth 20000 in
theorem pgc_108_0 : pgB_108_0.all (fun q => q.2.all (pg_ok (pg_cc 108))) = true := by decide +kernel
/-- MarkovDesk$Space.addOutcome(II)V -/
def pgb_108_1_b0 : List pg_R := [(108, .iaload, 109, 0), (109, .istore 9, 111, 0), (111, .iload 9, 113, 0), (113, .aload_n 0, 114, 0), (114, .getfield 54, 117, 0), (117, .getfield 167, 120, 0), (120, .iload 8, 122, 0), (122, .iconst 1, 123, 0)]
def pgb_108_1_b1 : List pg_R := [(123, .iadd, 124, 0), (124, .iaload, 125, 0), (125, .if_icmp .ge 111, 128, 236), (128, .aload_n 0, 129, 0), (129, .getfield 54, 132, 0), (132, .getfield 170, 135, 0), (135, .iload 9, 137, 0), (137, .iaload, 138, 0)]
def pgb_108_1_b2 : List pg_R := [(138, .istore 10, 140, 0), (140, .aload_n 0, 141, 0), (141, .getfield 15, 144, 0), (144, .iload 10, 146, 0), (146, .aload_n 0, 147, 0), (147, .getfield 50, 150, 0), (150, .aload_n 0, 151, 0), (151, .getfield 54, 154, 0)]
def pgb_108_1_b3 : List pg_R := [(154, .getfield 173, 157, 0), (157, .iload 9, 159, 0), (159, .iaload, 160, 0), (160, .aload_n 0, 161, 0), (161, .getfield 9, 164, 0), (164, .iload_n 1, 165, 0), (165, .bipush 8, 167, 0), (167, .imul, 168, 0)]
def pgb_108_1_b4 : List pg_R := [(168, .invokevirtual 111, 171, 0), (171, .iastore, 172, 0), (172, .aload_n 0, 173, 0), (173, .getfield 50, 176, 0), (176, .getfield 117, 179, 0), (179, .ifCond .ne 43, 182, 222), (182, .aload_n 0, 183, 0), (183, .getfield 15, 186, 0)]
def pgb_108_1_b5 : List pg_R := [(186, .iload 10, 188, 0), (188, .iaload, 189, 0), (189, .aload_n 0, 190, 0), (190, .getfield 54, 193, 0), (193, .getfield 176, 196, 0), (196, .iload 10, 198, 0), (198, .iaload, 199, 0), (199, .if_icmp .lt 23, 202, 222)]
def pgb_108_1_b6 : List pg_R := [(202, .aload_n 0, 203, 0), (203, .getfield 15, 206, 0), (206, .iload 10, 208, 0), (208, .iaload, 209, 0), (209, .aload_n 0, 210, 0), (210, .getfield 54, 213, 0), (213, .getfield 179, 216, 0), (216, .iload 10, 218, 0)]
def pgb_108_1_b7 : List pg_R := [(218, .iaload, 219, 0), (219, .if_icmp .le 11, 222, 230), (222, .new 120, 225, 0), (225, .dup, 226, 0)]
def pgB_108_1 : pg_Bk := [(123, pgb_108_1_b0), (138, pgb_108_1_b1), (154, pgb_108_1_b2), (168, pgb_108_1_b3), (186, pgb_108_1_b4), (202, pgb_108_1_b5), (218, pgb_108_1_b6), (226, pgb_108_1_b7)]
set_option maxRecDepth 20000 in
theorem pgc_108_1 : pgB_108_1.all (fun q => q.2.all (pg_ok (pg_cc 108))) = true := by decide +kernel
/-- MarkovDesk$Space.addOutcome(II)V -/
def pgb_108_2_b0 : List pg_R := [(226, .invokespecial 122, 229, 0), (229, .athrow, 230, 0), (230, .iinc 9 1, 233, 0), (233, .goto (-122), 236, 111), (236, .iinc 6 (-1), 239, 0), (239, .goto (-208), 242, 31), (242, .aload_n 0, 243, 0), (243, .invokevirtual 182, 246, 0)]
def pgb_108_2_b1 : List pg_R := [(246, .istore 6, 248, 0), (248, .aload_n 0, 249, 0), (249, .getfield 25, 252, 0), (252, .aload_n 0, 253, 0), (253, .getfield 66, 256, 0), (256, .iaload, 257, 0), (257, .istore 7, 259, 0), (259, .iload 7, 261, 0)]
def pgb_108_2_b2 : List pg_R := [(261, .aload_n 0, 262, 0), (262, .getfield 69, 265, 0), (265, .if_icmp .ge 33, 268, 298), (268, .aload_n 0, 269, 0), (269, .getfield 32, 272, 0), (272, .iload 7, 274, 0), (274, .iaload, 275, 0), (275, .iload 6, 277, 0)]
def pgb_108_2_b3 : List pg_R := [(277, .if_icmp .ne 15, 280, 292), (280, .aload_n 0, 281, 0), (281, .getfield 35, 284, 0), (284, .iload 7, 286, 0), (286, .dup2, 287, 0), (287, .laload, 288, 0), (288, .lload_n 3, 289, 0), (289, .ladd, 290, 0)]
def pgb_108_2_b4 : List pg_R := [(290, .lastore, 291, 0), (291, .return_, 292, 0), (292, .iinc 7 1, 295, 0), (295, .goto (-36), 298, 259), (298, .aload_n 0, 299, 0), (299, .getfield 32, 302, 0), (302, .aload_n 0, 303, 0), (303, .getfield 69, 306, 0)]
def pgb_108_2_b5 : List pg_R := [(306, .iload 6, 308, 0), (308, .iastore, 309, 0), (309, .aload_n 0, 310, 0), (310, .getfield 35, 313, 0), (313, .aload_n 0, 314, 0), (314, .getfield 69, 317, 0), (317, .lload_n 3, 318, 0), (318, .lastore, 319, 0)]
def pgb_108_2_b6 : List pg_R := [(319, .aload_n 0, 320, 0), (320, .dup, 321, 0), (321, .getfield 69, 324, 0), (324, .iconst 1, 325, 0), (325, .iadd, 326, 0), (326, .putfield 69, 329, 0), (329, .return_, 330, 0)]
def pgB_108_2 : pg_Bk := [(246, pgb_108_2_b0), (261, pgb_108_2_b1), (277, pgb_108_2_b2), (290, pgb_108_2_b3), (306, pgb_108_2_b4), (319, pgb_108_2_b5), (330, pgb_108_2_b6)]
set_option maxRecDepth 20000 in
theorem pgc_108_2 : pgB_108_2.all (fun q => q.2.all (pg_ok (pg_cc 108))) = true := by decide +kernel
def pgB_108 : pg_Bk := pgB_108_0 ++ (pgB_108_1 ++ (pgB_108_2))
theorem pgc_108 : pgB_108.all (fun q => q.2.all (pg_ok (pg_cc 108))) = true := pg_all2 pgc_108_0 (pg_all2 pgc_108_1 (pgc_108_2))
/-- MarkovDesk$Space.stateOfNext()I -/
def pgb_109_0_b0 : List pg_R := [(0, .iconst 0, 1, 0), (1, .istore_n 1, 2, 0), (2, .iload_n 1, 3, 0), (3, .aload_n 0, 4, 0), (4, .getfield 58, 7, 0), (7, .if_icmp .ge 66, 10, 73), (10, .iconst 1, 11, 0), (11, .istore_n 2, 12, 0)]
def pgb_109_0_b1 : List pg_R := [(12, .iconst 0, 13, 0), (13, .istore_n 3, 14, 0), (14, .iload_n 3, 15, 0), (15, .aload_n 0, 16, 0), (16, .getfield 54, 19, 0), (19, .getfield 186, 22, 0), (22, .if_icmp .ge 39, 25, 61), (25, .iload_n 2, 26, 0)]
def pgb_109_0_b2 : List pg_R := [(26, .ifCond .eq 35, 29, 61), (29, .aload_n 0, 30, 0), (30, .getfield 9, 33, 0), (33, .iload_n 1, 34, 0), (34, .bipush 8, 36, 0), (36, .imul, 37, 0), (37, .iload_n 3, 38, 0), (38, .iadd, 39, 0)]
def pgb_109_0_b3 : List pg_R := [(39, .iaload, 40, 0), (40, .aload_n 0, 41, 0), (41, .getfield 15, 44, 0), (44, .iload_n 3, 45, 0), (45, .iaload, 46, 0), (46, .if_icmp .ne 7, 49, 53), (49, .iconst 1, 50, 0), (50, .goto 4, 53, 54)]
def pgb_109_0_b4 : List pg_R := [(53, .iconst 0, 54, 0), (54, .istore_n 2, 55, 0), (55, .iinc 3 1, 58, 0), (58, .goto (-44), 61, 14), (61, .iload_n 2, 62, 0), (62, .ifCond .eq 5, 65, 67), (65, .iload_n 1, 66, 0), (66, .ireturn, 67, 0)]
def pgb_109_0_b5 : List pg_R := [(67, .iinc 1 1, 70, 0), (70, .goto (-68), 73, 2), (73, .aload_n 0, 74, 0), (74, .getfield 58, 77, 0), (77, .bipush 24, 79, 0), (79, .if_icmp .lt 11, 82, 90), (82, .new 152, 85, 0), (85, .dup, 86, 0)]
def pgb_109_0_b6 : List pg_R := [(86, .invokespecial 154, 89, 0), (89, .athrow, 90, 0), (90, .aload_n 0, 91, 0), (91, .getfield 15, 94, 0), (94, .iconst 0, 95, 0), (95, .aload_n 0, 96, 0), (96, .getfield 9, 99, 0), (99, .aload_n 0, 100, 0)]
def pgb_109_0_b7 : List pg_R := [(100, .getfield 58, 103, 0), (103, .bipush 8, 105, 0), (105, .imul, 106, 0), (106, .bipush 8, 108, 0)]
def pgB_109_0 : pg_Bk := [(12, pgb_109_0_b0), (26, pgb_109_0_b1), (39, pgb_109_0_b2), (53, pgb_109_0_b3), (67, pgb_109_0_b4), (86, pgb_109_0_b5), (100, pgb_109_0_b6), (107, pgb_109_0_b7)]
set_option maxRecDepth 20000 in
theorem pgc_109_0 : pgB_109_0.all (fun q => q.2.all (pg_ok (pg_cc 109))) = true := by decide +kernel
/-- MarkovDesk$Space.stateOfNext()I -/
def pgb_109_1_b0 : List pg_R := [(108, .invokestatic 77, 111, 0), (111, .aload_n 0, 112, 0), (112, .dup, 113, 0), (113, .getfield 58, 116, 0), (116, .iconst 1, 117, 0), (117, .iadd, 118, 0), (118, .putfield 58, 121, 0), (121, .aload_n 0, 122, 0)]
def pgb_109_1_b1 : List pg_R := [(122, .getfield 58, 125, 0), (125, .iconst 1, 126, 0), (126, .isub, 127, 0), (127, .ireturn, 128, 0)]
def pgB_109_1 : pg_Bk := [(122, pgb_109_1_b0), (128, pgb_109_1_b1)]
set_option maxRecDepth 20000 in
theorem pgc_109_1 : pgB_109_1.all (fun q => q.2.all (pg_ok (pg_cc 109))) = true := by decide +kernel
def pgB_109 : pg_Bk := pgB_109_0 ++ (pgB_109_1)
theorem pgc_109 : pgB_109.all (fun q => q.2.all (pg_ok (pg_cc 109))) = true := pg_all2 pgc_109_0 (pgc_109_1)
/-- MarkovDesk$Space.addJointChoices(I)V -/
def pgb_110_b0 : List pg_R := [(0, .iconst 0, 1, 0), (1, .istore_n 2, 2, 0), (2, .iload_n 2, 3, 0), (3, .aload_n 0, 4, 0), (4, .getfield 54, 7, 0), (7, .getfield 126, 10, 0), (10, .if_icmp .ge 87, 13, 97), (13, .aload_n 0, 14, 0)]
def pgb_110_b1 : List pg_R := [(14, .iload_n 2, 15, 0), (15, .invokevirtual 129, 18, 0), (18, .ifCond .eq 7, 21, 25), (21, .iconst 1, 22, 0), (22, .goto 4, 25, 26), (25, .iconst 0, 26, 0), (26, .istore_n 3, 27, 0), (27, .iconst 0, 28, 0)]
def pgb_110_b2 : List pg_R := [(28, .istore 4, 30, 0), (30, .iload 4, 32, 0), (32, .aload_n 0, 33, 0), (33, .getfield 93, 36, 0), (36, .if_icmp .ge 29, 39, 65), (39, .iload_n 3, 40, 0), (40, .aload_n 0, 41, 0), (41, .getfield 44, 44, 0)]
def pgb_110_b3 : List pg_R := [(44, .iload 4, 46, 0), (46, .iconst 1, 47, 0), (47, .iadd, 48, 0), (48, .iaload, 49, 0), (49, .aload_n 0, 50, 0), (50, .getfield 44, 53, 0), (53, .iload 4, 55, 0), (55, .iaload, 56, 0)]
def pgb_110_b4 : List pg_R := [(56, .isub, 57, 0), (57, .imul, 58, 0), (58, .istore_n 3, 59, 0), (59, .iinc 4 1, 62, 0), (62, .goto (-32), 65, 30), (65, .iconst 0, 66, 0), (66, .istore 4, 68, 0), (68, .iload 4, 70, 0)]
def pgb_110_b5 : List pg_R := [(70, .iload_n 3, 71, 0), (71, .if_icmp .ge 20, 74, 91), (74, .aload_n 0, 75, 0), (75, .iload 4, 77, 0), (77, .invokevirtual 133, 80, 0), (80, .aload_n 0, 81, 0), (81, .iload_n 1, 82, 0), (82, .invokevirtual 96, 85, 0)]
def pgb_110_b6 : List pg_R := [(85, .iinc 4 1, 88, 0), (88, .goto (-20), 91, 68), (91, .iinc 2 1, 94, 0), (94, .goto (-92), 97, 2), (97, .return_, 98, 0)]
def pgB_110 : pg_Bk := [(14, pgb_110_b0), (28, pgb_110_b1), (44, pgb_110_b2), (56, pgb_110_b3), (70, pgb_110_b4), (85, pgb_110_b5), (98, pgb_110_b6)]
set_option maxRecDepth 20000 in
theorem pgc_110 : pgB_110.all (fun q => q.2.all (pg_ok (pg_cc 110))) = true := by decide +kernel
/-- MarkovDesk$Space.gatherOffers(I)Z -/
def pgb_111_0_b0 : List pg_R := [(0, .iconst 0, 1, 0), (1, .istore_n 2, 2, 0), (2, .aload_n 0, 3, 0), (3, .iconst 0, 4, 0), (4, .putfield 93, 7, 0), (7, .iconst 0, 8, 0), (8, .istore_n 3, 9, 0), (9, .iload_n 3, 10, 0)]
def pgb_111_0_b1 : List pg_R := [(10, .aload_n 0, 11, 0), (11, .getfield 54, 14, 0), (14, .getfield 136, 17, 0), (17, .if_icmp .ge 130, 20, 147), (20, .iconst 0, 21, 0), (21, .istore 4, 23, 0), (23, .aload_n 0, 24, 0), (24, .getfield 44, 27, 0)]
def pgb_111_0_b2 : List pg_R := [(27, .aload_n 0, 28, 0), (28, .getfield 93, 31, 0), (31, .iload_n 2, 32, 0), (32, .iastore, 33, 0), (33, .iconst 0, 34, 0), (34, .istore 5, 36, 0), (36, .iload 5, 38, 0), (38, .aload_n 0, 39, 0)]
def pgb_111_0_b3 : List pg_R := [(39, .getfield 54, 42, 0), (42, .getfield 99, 45, 0), (45, .if_icmp .ge 61, 48, 106), (48, .aload_n 0, 49, 0), (49, .getfield 54, 52, 0), (52, .getfield 139, 55, 0), (55, .iload 5, 57, 0), (57, .iaload, 58, 0)]
def pgb_111_0_b4 : List pg_R := [(58, .iload_n 3, 59, 0), (59, .if_icmp .ne 41, 62, 100), (62, .aload_n 0, 63, 0), (63, .getfield 54, 66, 0), (66, .getfield 123, 69, 0), (69, .iload 5, 71, 0), (71, .iaload, 72, 0), (72, .iload_n 1, 73, 0)]
def pgb_111_0_b5 : List pg_R := [(73, .if_icmp .ne 27, 76, 100), (76, .iconst 1, 77, 0), (77, .istore 4, 79, 0), (79, .aload_n 0, 80, 0), (80, .getfield 38, 83, 0), (83, .iload 5, 85, 0), (85, .baload, 86, 0), (86, .ifCond .eq 14, 89, 100)]
def pgb_111_0_b6 : List pg_R := [(89, .aload_n 0, 90, 0), (90, .getfield 41, 93, 0), (93, .iload_n 2, 94, 0), (94, .iload 5, 96, 0), (96, .iastore, 97, 0), (97, .iinc 2 1, 100, 0), (100, .iinc 5 1, 103, 0), (103, .goto (-67), 106, 36)]
def pgb_111_0_b7 : List pg_R := [(106, .iload 4, 108, 0), (108, .ifCond .eq 18, 111, 126), (111, .iload_n 2, 112, 0), (112, .aload_n 0, 113, 0)]
def pgB_111_0 : pg_Bk := [(10, pgb_111_0_b0), (27, pgb_111_0_b1), (39, pgb_111_0_b2), (58, pgb_111_0_b3), (73, pgb_111_0_b4), (89, pgb_111_0_b5), (106, pgb_111_0_b6), (113, pgb_111_0_b7)]
set_option maxRecDepth 20000 in
theorem pgc_111_0 : pgB_111_0.all (fun q => q.2.all (pg_ok (pg_cc 111))) = true := by decide +kernel
/-- MarkovDesk$Space.gatherOffers(I)Z -/
def pgb_111_1_b0 : List pg_R := [(113, .getfield 44, 116, 0), (116, .aload_n 0, 117, 0), (117, .getfield 93, 120, 0), (120, .iaload, 121, 0), (121, .if_icmp .ne 5, 124, 126), (124, .iconst 0, 125, 0), (125, .ireturn, 126, 0), (126, .iload 4, 128, 0)]
def pgb_111_1_b1 : List pg_R := [(128, .ifCond .eq 13, 131, 141), (131, .aload_n 0, 132, 0), (132, .dup, 133, 0), (133, .getfield 93, 136, 0), (136, .iconst 1, 137, 0), (137, .iadd, 138, 0), (138, .putfield 93, 141, 0), (141, .iinc 3 1, 144, 0)]
def pgb_111_1_b2 : List pg_R := [(144, .goto (-135), 147, 9), (147, .aload_n 0, 148, 0), (148, .getfield 44, 151, 0), (151, .aload_n 0, 152, 0), (152, .getfield 93, 155, 0), (155, .iload_n 2, 156, 0), (156, .iastore, 157, 0), (157, .iconst 1, 158, 0)]
def pgb_111_1_b3 : List pg_R := [(158, .ireturn, 159, 0)]
def pgB_111_1 : pg_Bk := [(128, pgb_111_1_b0), (144, pgb_111_1_b1), (158, pgb_111_1_b2), (159, pgb_111_1_b3)]
set_option maxRecDepth 20000 in
theorem pgc_111_1 : pgB_111_1.all (fun q => q.2.all (pg_ok (pg_cc 111))) = true := by decide +kernel
def pgB_111 : pg_Bk := pgB_111_0 ++ (pgB_111_1)
theorem pgc_111 : pgB_111.all (fun q => q.2.all (pg_ok (pg_cc 111))) = true := pg_all2 pgc_111_0 (pgc_111_1)
/-- MarkovDesk$Space.take(I)V -/
def pgb_112_b0 : List pg_R := [(0, .iload_n 1, 1, 0), (1, .istore_n 2, 2, 0), (2, .aload_n 0, 3, 0), (3, .getfield 93, 6, 0), (6, .iconst 1, 7, 0), (7, .isub, 8, 0), (8, .istore_n 3, 9, 0), (9, .iload_n 3, 10, 0)]
def pgb_112_b1 : List pg_R := [(10, .ifCond .lt 57, 13, 67), (13, .iconst 1, 14, 0), (14, .aload_n 0, 15, 0), (15, .getfield 44, 18, 0), (18, .iload_n 3, 19, 0), (19, .iconst 1, 20, 0), (20, .iadd, 21, 0), (21, .iaload, 22, 0)]
def pgb_112_b2 : List pg_R := [(22, .aload_n 0, 23, 0), (23, .getfield 44, 26, 0), (26, .iload_n 3, 27, 0), (27, .iaload, 28, 0), (28, .isub, 29, 0), (29, .invokestatic 142, 32, 0), (32, .istore 4, 34, 0), (34, .aload_n 0, 35, 0)]
def pgb_112_b3 : List pg_R := [(35, .getfield 47, 38, 0), (38, .iload_n 3, 39, 0), (39, .aload_n 0, 40, 0), (40, .getfield 41, 43, 0), (43, .aload_n 0, 44, 0), (44, .getfield 44, 47, 0), (47, .iload_n 3, 48, 0), (48, .iaload, 49, 0)]
def pgb_112_b4 : List pg_R := [(49, .iload_n 2, 50, 0), (50, .iload 4, 52, 0), (52, .irem, 53, 0), (53, .iadd, 54, 0), (54, .iaload, 55, 0), (55, .iastore, 56, 0), (56, .iload_n 2, 57, 0), (57, .iload 4, 59, 0)]
def pgb_112_b5 : List pg_R := [(59, .idiv, 60, 0), (60, .istore_n 2, 61, 0), (61, .iinc 3 (-1), 64, 0), (64, .goto (-55), 67, 9), (67, .return_, 68, 0)]
def pgB_112 : pg_Bk := [(10, pgb_112_b0), (22, pgb_112_b1), (35, pgb_112_b2), (49, pgb_112_b3), (59, pgb_112_b4), (68, pgb_112_b5)]
set_option maxRecDepth 20000 in
theorem pgc_112 : pgB_112.all (fun q => q.2.all (pg_ok (pg_cc 112))) = true := by decide +kernel
/-- MarkovDeskLaw.state(LMarkovDesk;III[J)I -/
def pgb_113_b0 : List pg_R := [(0, .aload 4, 2, 0), (2, .iconst 0, 3, 0), (3, .aload_n 0, 4, 0), (4, .iload_n 1, 5, 0), (5, .iload_n 2, 6, 0), (6, .iload_n 3, 7, 0), (7, .invokevirtual 31, 10, 0), (10, .i2l, 11, 0)]
def pgb_113_b1 : List pg_R := [(11, .lastore, 12, 0), (12, .goto 15, 15, 27), (15, .astore 5, 17, 0), (17, .iconst 1, 18, 0), (18, .ireturn, 19, 0), (19, .astore 5, 21, 0), (21, .iconst 2, 22, 0), (22, .ireturn, 23, 0)]
def pgb_113_b2 : List pg_R := [(23, .astore 5, 25, 0), (25, .iconst 3, 26, 0), (26, .ireturn, 27, 0), (27, .iconst 0, 28, 0), (28, .ireturn, 29, 0)]
def pgB_113 : pg_Bk := [(11, pgb_113_b0), (23, pgb_113_b1), (29, pgb_113_b2)]
set_option maxRecDepth 20000 in
theorem pgc_113 : pgB_113.all (fun q => q.2.all (pg_ok (pg_cc 113))) = true := by decide +kernel
/-- MarkovDesk.state(III)I -/
def pgb_114_0_b0 : List pg_R := [(0, .iload_n 2, 1, 0), (1, .ifCond .lt 8, 4, 9), (4, .iload_n 2, 5, 0), (5, .iconst 5, 6, 0), (6, .if_icmp .le 11, 9, 17), (9, .new 156, 12, 0), (12, .dup, 13, 0), (13, .invokespecial 158, 16, 0)]
def pgb_114_0_b1 : List pg_R := [(16, .athrow, 17, 0), (17, .aload_n 0, 18, 0), (18, .getfield 40, 21, 0), (21, .getfield 159, 24, 0), (24, .ifCond .eq 33, 27, 57), (27, .iload_n 2, 28, 0), (28, .iconst 2, 29, 0), (29, .if_icmp .ne 13, 32, 42)]
def pgb_114_0_b2 : List pg_R := [(32, .aload_n 0, 33, 0), (33, .getfield 58, 36, 0), (36, .getfield 160, 39, 0), (39, .ifCond .eq 18, 42, 57), (42, .iload_n 2, 43, 0), (43, .iconst 3, 44, 0), (44, .if_icmp .ne 21, 47, 65), (47, .aload_n 0, 48, 0)]
def pgb_114_0_b3 : List pg_R := [(48, .getfield 62, 51, 0), (51, .getfield 160, 54, 0), (54, .ifCond .ne 11, 57, 65), (57, .new 147, 60, 0), (60, .dup, 61, 0), (61, .invokespecial 149, 64, 0), (64, .athrow, 65, 0), (65, .aload_n 0, 66, 0)]
def pgb_114_0_b4 : List pg_R := [(66, .getfield 40, 69, 0), (69, .iload_n 1, 70, 0), (70, .invokevirtual 163, 73, 0), (73, .ifCond .ne 11, 76, 84), (76, .new 102, 79, 0), (79, .dup, 80, 0), (80, .invokespecial 104, 83, 0), (83, .athrow, 84, 0)]
def pgb_114_0_b5 : List pg_R := [(84, .iload_n 2, 85, 0), (85, .iconst 4, 86, 0), (86, .if_icmp .ne 13, 89, 99), (89, .aload_n 0, 90, 0), (90, .getfield 22, 93, 0), (93, .getfield 167, 96, 0), (96, .goto 20, 99, 116), (99, .iload_n 2, 100, 0)]
def pgb_114_0_b6 : List pg_R := [(100, .iconst 5, 101, 0), (101, .if_icmp .ne 14, 104, 115), (104, .aload_n 0, 105, 0), (105, .getfield 40, 108, 0), (108, .iload_n 1, 109, 0), (109, .invokevirtual 170, 112, 0), (112, .goto 4, 115, 116), (115, .iconst 1, 116, 0)]
def pgb_114_0_b7 : List pg_R := [(116, .istore 4, 118, 0), (118, .iload_n 3, 119, 0), (119, .ifCond .lt 9, 122, 128), (122, .iload_n 3, 123, 0)]
def pgB_114_0 : pg_Bk := [(16, pgb_114_0_b0), (32, pgb_114_0_b1), (48, pgb_114_0_b2), (66, pgb_114_0_b3), (84, pgb_114_0_b4), (100, pgb_114_0_b5), (116, pgb_114_0_b6), (123, pgb_114_0_b7)]
set_option maxRecDepth 20000 in
theorem pgc_114_0 : pgB_114_0.all (fun q => q.2.all (pg_ok (pg_cc 114))) = true := by decide +kernel
/-- MarkovDesk.state(III)I -/
def pgb_114_1_b0 : List pg_R := [(123, .iload 4, 125, 0), (125, .if_icmp .lt 11, 128, 136), (128, .new 102, 131, 0), (131, .dup, 132, 0), (132, .invokespecial 104, 135, 0), (135, .athrow, 136, 0), (136, .iload_n 2, 137, 0), (137, .tableswitch 92 0 4 #[35, 44, 62, 72, 82], 172, 0)]
def pgb_114_1_b1 : List pg_R := [(172, .aload_n 0, 173, 0), (173, .getfield 40, 176, 0), (176, .iload_n 1, 177, 0), (177, .invokevirtual 170, 180, 0), (180, .ireturn, 181, 0), (181, .aload_n 0, 182, 0), (182, .getfield 40, 185, 0), (185, .getfield 174, 188, 0)]
def pgb_114_1_b2 : List pg_R := [(188, .iload_n 1, 189, 0), (189, .baload, 190, 0), (190, .ifCond .eq 7, 193, 197), (193, .iconst 1, 194, 0), (194, .goto 4, 197, 198), (197, .iconst 0, 198, 0), (198, .ireturn, 199, 0), (199, .aload_n 0, 200, 0)]
def pgb_114_1_b3 : List pg_R := [(200, .getfield 58, 203, 0), (203, .getfield 178, 206, 0), (206, .iload_n 1, 207, 0), (207, .iaload, 208, 0), (208, .ireturn, 209, 0), (209, .aload_n 0, 210, 0), (210, .getfield 62, 213, 0), (213, .getfield 178, 216, 0)]
def pgb_114_1_b4 : List pg_R := [(216, .iload_n 1, 217, 0), (217, .iaload, 218, 0), (218, .ireturn, 219, 0), (219, .aload_n 0, 220, 0), (220, .getfield 40, 223, 0), (223, .iload_n 1, 224, 0), (224, .iload_n 3, 225, 0), (225, .invokevirtual 182, 228, 0)]
def pgb_114_1_b5 : List pg_R := [(228, .ireturn, 229, 0), (229, .aload_n 0, 230, 0), (230, .getfield 40, 233, 0), (233, .iload_n 1, 234, 0), (234, .iload_n 3, 235, 0), (235, .invokevirtual 186, 238, 0), (238, .ireturn, 239, 0)]
def pgB_114_1 : pg_Bk := [(172, pgb_114_1_b0), (188, pgb_114_1_b1), (200, pgb_114_1_b2), (216, pgb_114_1_b3), (228, pgb_114_1_b4), (239, pgb_114_1_b5)]
set_option maxRecDepth 20000 in
theorem pgc_114_1 : pgB_114_1.all (fun q => q.2.all (pg_ok (pg_cc 114))) = true := by decide +kernel
def pgB_114 : pg_Bk := pgB_114_0 ++ (pgB_114_1)
theorem pgc_114 : pgB_114.all (fun q => q.2.all (pg_ok (pg_cc 114))) = true := pg_all2 pgc_114_0 (pgc_114_1)
