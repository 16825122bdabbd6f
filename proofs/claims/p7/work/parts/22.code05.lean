/-- MarkovDesk$Space.hasState(I)Z -/
def pgb_115_b0 : List pg_R := [(0, .iload_n 1, 1, 0), (1, .ifCond .lt 15, 4, 16), (4, .iload_n 1, 5, 0), (5, .aload_n 0, 6, 0), (6, .getfield 58, 9, 0), (9, .if_icmp .ge 7, 12, 16), (12, .iconst 1, 13, 0), (13, .goto 4, 16, 17)]
def pgb_115_b1 : List pg_R := [(16, .iconst 0, 17, 0), (17, .ireturn, 18, 0)]
def pgB_115 : pg_Bk := [(16, pgb_115_b0), (18, pgb_115_b1)]
set_option maxRecDepth 20000 in
theorem pgc_115 : pgB_115.all (fun q => q.2.all (pg_ok (pg_cc 115))) = true := by decide +kernel
/-- MarkovDesk$Space.choicesOf(I)I -/
def pgb_116_b0 : List pg_R := [(0, .aload_n 0, 1, 0), (1, .getfield 22, 4, 0), (4, .iload_n 1, 5, 0), (5, .iconst 1, 6, 0), (6, .iadd, 7, 0), (7, .iaload, 8, 0), (8, .aload_n 0, 9, 0), (9, .getfield 22, 12, 0)]
def pgb_116_b1 : List pg_R := [(12, .iload_n 1, 13, 0), (13, .iaload, 14, 0), (14, .isub, 15, 0), (15, .ireturn, 16, 0)]
def pgB_116 : pg_Bk := [(12, pgb_116_b0), (16, pgb_116_b1)]
set_option maxRecDepth 20000 in
theorem pgc_116 : pgB_116.all (fun q => q.2.all (pg_ok (pg_cc 116))) = true := by decide +kernel
/-- MarkovDesk$Space.variableOf(II)I -/
def pgb_117_b0 : List pg_R := [(0, .aload_n 0, 1, 0), (1, .getfield 9, 4, 0), (4, .iload_n 1, 5, 0), (5, .bipush 8, 7, 0), (7, .imul, 8, 0), (8, .iload_n 2, 9, 0), (9, .iadd, 10, 0), (10, .iaload, 11, 0)]
def pgb_117_b1 : List pg_R := [(11, .ireturn, 12, 0)]
def pgB_117 : pg_Bk := [(11, pgb_117_b0), (12, pgb_117_b1)]
set_option maxRecDepth 20000 in
theorem pgc_117 : pgB_117.all (fun q => q.2.all (pg_ok (pg_cc 117))) = true := by decide +kernel
/-- MarkovDesk$Space.outcomesOf(II)I -/
def pgb_118_b0 : List pg_R := [(0, .aload_n 0, 1, 0), (1, .getfield 22, 4, 0), (4, .iload_n 1, 5, 0), (5, .iaload, 6, 0), (6, .iload_n 2, 7, 0), (7, .iadd, 8, 0), (8, .istore_n 3, 9, 0), (9, .aload_n 0, 10, 0)]
def pgb_118_b1 : List pg_R := [(10, .getfield 25, 13, 0), (13, .iload_n 3, 14, 0), (14, .iconst 1, 15, 0), (15, .iadd, 16, 0), (16, .iaload, 17, 0), (17, .aload_n 0, 18, 0), (18, .getfield 25, 21, 0), (21, .iload_n 3, 22, 0)]
def pgb_118_b2 : List pg_R := [(22, .iaload, 23, 0), (23, .isub, 24, 0), (24, .ireturn, 25, 0)]
def pgB_118 : pg_Bk := [(10, pgb_118_b0), (22, pgb_118_b1), (25, pgb_118_b2)]
set_option maxRecDepth 20000 in
theorem pgc_118 : pgB_118.all (fun q => q.2.all (pg_ok (pg_cc 118))) = true := by decide +kernel
/-- MarkovDeskLaw.outcome(LMarkovDesk;III[J)I -/
def pgb_119_b0 : List pg_R := [(0, .aload 4, 2, 0), (2, .iconst 0, 3, 0), (3, .aload_n 0, 4, 0), (4, .iload_n 1, 5, 0), (5, .iload_n 2, 6, 0), (6, .iload_n 3, 7, 0), (7, .invokevirtual 35, 10, 0), (10, .i2l, 11, 0)]
def pgb_119_b1 : List pg_R := [(11, .lastore, 12, 0), (12, .goto 11, 15, 23), (15, .astore 5, 17, 0), (17, .iconst 1, 18, 0), (18, .ireturn, 19, 0), (19, .astore 5, 21, 0), (21, .iconst 2, 22, 0), (22, .ireturn, 23, 0)]
def pgb_119_b2 : List pg_R := [(23, .iconst 0, 24, 0), (24, .ireturn, 25, 0)]
def pgB_119 : pg_Bk := [(11, pgb_119_b0), (23, pgb_119_b1), (25, pgb_119_b2)]
set_option maxRecDepth 20000 in
theorem pgc_119 : pgB_119.all (fun q => q.2.all (pg_ok (pg_cc 119))) = true := by decide +kernel
/-- MarkovDesk.outcome(III)I -/
def pgb_120_0_b0 : List pg_R := [(0, .aload_n 0, 1, 0), (1, .invokevirtual 189, 4, 0), (4, .aload_n 0, 5, 0), (5, .getfield 40, 8, 0), (8, .iload_n 1, 9, 0), (9, .invokevirtual 163, 12, 0), (12, .ifCond .eq 36, 15, 48), (15, .iload_n 2, 16, 0)]
def pgb_120_0_b1 : List pg_R := [(16, .ifCond .lt 32, 19, 48), (19, .iload_n 2, 20, 0), (20, .aload_n 0, 21, 0), (21, .getfield 40, 24, 0), (24, .iload_n 1, 25, 0), (25, .invokevirtual 170, 28, 0), (28, .if_icmp .ge 20, 31, 48), (31, .iload_n 3, 32, 0)]
def pgb_120_0_b2 : List pg_R := [(32, .ifCond .lt 16, 35, 48), (35, .iload_n 3, 36, 0), (36, .aload_n 0, 37, 0), (37, .getfield 40, 40, 0), (40, .iload_n 1, 41, 0), (41, .iload_n 2, 42, 0), (42, .invokevirtual 186, 45, 0), (45, .if_icmp .lt 11, 48, 56)]
def pgb_120_0_b3 : List pg_R := [(48, .new 102, 51, 0), (51, .dup, 52, 0), (52, .invokespecial 104, 55, 0), (55, .athrow, 56, 0), (56, .aload_n 0, 57, 0), (57, .getfield 40, 60, 0), (60, .getfield 192, 63, 0), (63, .iload_n 1, 64, 0)]
def pgb_120_0_b4 : List pg_R := [(64, .iaload, 65, 0), (65, .iload_n 2, 66, 0), (66, .iadd, 67, 0), (67, .istore 4, 69, 0), (69, .aload_n 0, 70, 0), (70, .getfield 40, 73, 0), (73, .getfield 195, 76, 0), (76, .iload 4, 78, 0)]
def pgb_120_0_b5 : List pg_R := [(78, .iaload, 79, 0), (79, .iload_n 3, 80, 0), (80, .iadd, 81, 0), (81, .istore 5, 83, 0), (83, .aload_n 0, 84, 0), (84, .getfield 91, 87, 0), (87, .aload_n 0, 88, 0), (88, .getfield 40, 91, 0)]
def pgb_120_0_b6 : List pg_R := [(91, .getfield 198, 94, 0), (94, .iload 5, 96, 0), (96, .laload, 97, 0), (97, .invokevirtual 202, 100, 0), (100, .aload_n 0, 101, 0), (101, .getfield 95, 104, 0), (104, .aload_n 0, 105, 0), (105, .getfield 40, 108, 0)]
def pgb_120_0_b7 : List pg_R := [(108, .getfield 206, 111, 0), (111, .iload 4, 113, 0), (113, .laload, 114, 0), (114, .invokevirtual 202, 117, 0)]
def pgB_120_0 : pg_Bk := [(16, pgb_120_0_b0), (32, pgb_120_0_b1), (48, pgb_120_0_b2), (64, pgb_120_0_b3), (78, pgb_120_0_b4), (91, pgb_120_0_b5), (108, pgb_120_0_b6), (115, pgb_120_0_b7)]
set_option maxRecDepth 20000 in
theorem pgc_120_0 : pgB_120_0.all (fun q => q.2.all (pg_ok (pg_cc 120))) = true := by decide +kernel
/-- MarkovDesk.outcome(III)I -/
def pgb_120_1_b0 : List pg_R := [(117, .aload_n 0, 118, 0), (118, .getfield 75, 121, 0), (121, .aload_n 0, 122, 0), (122, .getfield 91, 125, 0), (125, .aload_n 0, 126, 0), (126, .getfield 95, 129, 0), (129, .invokevirtual 209, 132, 0), (132, .aload_n 0, 133, 0)]
def pgb_120_1_b1 : List pg_R := [(133, .getfield 40, 136, 0), (136, .getfield 213, 139, 0), (139, .iload 5, 141, 0), (141, .iaload, 142, 0), (142, .ireturn, 143, 0)]
def pgB_120_1 : pg_Bk := [(133, pgb_120_1_b0), (143, pgb_120_1_b1)]
set_option maxRecDepth 20000 in
theorem pgc_120_1 : pgB_120_1.all (fun q => q.2.all (pg_ok (pg_cc 120))) = true := by decide +kernel
def pgB_120 : pg_Bk := pgB_120_0 ++ (pgB_120_1)
theorem pgc_120 : pgB_120.all (fun q => q.2.all (pg_ok (pg_cc 120))) = true := pg_all2 pgc_120_0 (pgc_120_1)
/-- MarkovDesk.requireExplored()V -/
def pgb_121_b0 : List pg_R := [(0, .aload_n 0, 1, 0), (1, .getfield 40, 4, 0), (4, .getfield 159, 7, 0), (7, .ifCond .ne 11, 10, 18), (10, .new 147, 13, 0), (13, .dup, 14, 0), (14, .invokespecial 149, 17, 0), (17, .athrow, 18, 0)]
def pgb_121_b1 : List pg_R := [(18, .return_, 19, 0)]
def pgB_121 : pg_Bk := [(18, pgb_121_b0), (19, pgb_121_b1)]
set_option maxRecDepth 20000 in
theorem pgc_121 : pgB_121.all (fun q => q.2.all (pg_ok (pg_cc 121))) = true := by decide +kernel
/-- MarkovDesk$Ratio.hold(LMarkovDesk$Nat;LMarkovDesk$Nat;)V -/
def pgb_122_b0 : List pg_R := [(0, .aload_n 0, 1, 0), (1, .getfield 23, 4, 0), (4, .aload_n 1, 5, 0), (5, .invokevirtual 36, 8, 0), (8, .aload_n 0, 9, 0), (9, .getfield 26, 12, 0), (12, .aload_n 2, 13, 0), (13, .invokevirtual 36, 16, 0)]
def pgb_122_b1 : List pg_R := [(16, .aload_n 0, 17, 0), (17, .invokevirtual 40, 20, 0), (20, .astore_n 3, 21, 0), (21, .aload_n 3, 22, 0), (22, .aload_n 0, 23, 0), (23, .getfield 23, 26, 0), (26, .if_acmp .ne 10, 29, 36), (29, .aload_n 0, 30, 0)]
def pgb_122_b2 : List pg_R := [(30, .getfield 26, 33, 0), (33, .goto 7, 36, 40), (36, .aload_n 0, 37, 0), (37, .getfield 23, 40, 0), (40, .astore 4, 42, 0), (42, .aload 4, 44, 0), (44, .aload_n 1, 45, 0), (45, .invokevirtual 36, 48, 0)]
def pgb_122_b3 : List pg_R := [(48, .aload_n 0, 49, 0), (49, .getfield 14, 52, 0), (52, .aload 4, 54, 0), (54, .aload_n 3, 55, 0), (55, .invokevirtual 44, 58, 0), (58, .aload 4, 60, 0), (60, .aload_n 2, 61, 0), (61, .invokevirtual 36, 64, 0)]
def pgb_122_b4 : List pg_R := [(64, .aload_n 0, 65, 0), (65, .getfield 20, 68, 0), (68, .aload 4, 70, 0), (70, .aload_n 3, 71, 0), (71, .invokevirtual 44, 74, 0), (74, .return_, 75, 0)]
def pgB_122 : pg_Bk := [(16, pgb_122_b0), (30, pgb_122_b1), (48, pgb_122_b2), (64, pgb_122_b3), (75, pgb_122_b4)]
set_option maxRecDepth 20000 in
theorem pgc_122 : pgB_122.all (fun q => q.2.all (pg_ok (pg_cc 122))) = true := by decide +kernel
/-- MarkovDesk$Nat.copy(LMarkovDesk$Nat;)V -/
def pgb_123_b0 : List pg_R := [(0, .aload_n 0, 1, 0), (1, .aload_n 1, 2, 0), (2, .getfield 21, 5, 0), (5, .aload_n 0, 6, 0), (6, .getfield 15, 9, 0), (9, .arraylength, 10, 0), (10, .invokestatic 27, 13, 0), (13, .putfield 21, 16, 0)]
def pgb_123_b1 : List pg_R := [(16, .aload_n 1, 17, 0), (17, .getfield 15, 20, 0), (20, .iconst 0, 21, 0), (21, .aload_n 0, 22, 0), (22, .getfield 15, 25, 0), (25, .iconst 0, 26, 0), (26, .aload_n 0, 27, 0), (27, .getfield 21, 30, 0)]
def pgb_123_b2 : List pg_R := [(30, .invokestatic 30, 33, 0), (33, .return_, 34, 0)]
def pgB_123 : pg_Bk := [(16, pgb_123_b0), (30, pgb_123_b1), (34, pgb_123_b2)]
set_option maxRecDepth 20000 in
theorem pgc_123 : pgB_123.all (fun q => q.2.all (pg_ok (pg_cc 123))) = true := by decide +kernel
/-- MarkovDesk$Ratio.spendForDivisor()LMarkovDesk$Nat; -/
def pgb_124_b0 : List pg_R := [(0, .aload_n 0, 1, 0), (1, .getfield 23, 4, 0), (4, .astore_n 1, 5, 0), (5, .aload_n 0, 6, 0), (6, .getfield 26, 9, 0), (9, .astore_n 2, 10, 0), (10, .iconst 0, 11, 0), (11, .istore_n 3, 12, 0)]
def pgb_124_b1 : List pg_R := [(12, .iload_n 3, 13, 0), (13, .ldc 48, 15, 0), (15, .if_icmp .ge 83, 18, 98), (18, .aload_n 2, 19, 0), (19, .getfield 49, 22, 0), (22, .ifCond .le 76, 25, 98), (25, .aload_n 1, 26, 0), (26, .aload_n 2, 27, 0)]
def pgb_124_b2 : List pg_R := [(27, .invokevirtual 53, 30, 0), (30, .ifCond .ge 14, 33, 44), (33, .aload_n 1, 34, 0), (34, .astore 4, 36, 0), (36, .aload_n 2, 37, 0), (37, .astore_n 1, 38, 0), (38, .aload 4, 40, 0), (40, .astore_n 2, 41, 0)]
def pgb_124_b3 : List pg_R := [(41, .goto 51, 44, 92), (44, .aload_n 1, 45, 0), (45, .getfield 49, 48, 0), (48, .iconst 2, 49, 0), (49, .if_icmp .gt 26, 52, 75), (52, .aload_n 1, 53, 0), (53, .aload_n 1, 54, 0), (54, .invokevirtual 57, 57, 0)]
def pgb_124_b4 : List pg_R := [(57, .aload_n 2, 58, 0), (58, .invokevirtual 57, 61, 0), (61, .invokestatic 61, 64, 0), (64, .invokevirtual 32, 67, 0), (67, .aload_n 2, 68, 0), (68, .lconst 0, 69, 0), (69, .invokevirtual 32, 72, 0), (72, .goto 20, 75, 92)]
def pgb_124_b5 : List pg_R := [(75, .aload_n 1, 76, 0), (76, .aload_n 2, 77, 0), (77, .invokestatic 65, 80, 0), (80, .ifCond .ne 12, 83, 92), (83, .aload_n 0, 84, 0), (84, .getfield 29, 87, 0), (87, .aload_n 1, 88, 0), (88, .aload_n 2, 89, 0)]
def pgb_124_b6 : List pg_R := [(89, .invokevirtual 44, 92, 0), (92, .iinc 3 1, 95, 0), (95, .goto (-83), 98, 12), (98, .aload_n 1, 99, 0), (99, .areturn, 100, 0)]
def pgB_124 : pg_Bk := [(12, pgb_124_b0), (27, pgb_124_b1), (41, pgb_124_b2), (57, pgb_124_b3), (75, pgb_124_b4), (89, pgb_124_b5), (100, pgb_124_b6)]
set_option maxRecDepth 20000 in
theorem pgc_124 : pgB_124.all (fun q => q.2.all (pg_ok (pg_cc 124))) = true := by decide +kernel
/-- MarkovDesk$Nat.against(LMarkovDesk$Nat;)I -/
def pgb_125_b0 : List pg_R := [(0, .aload_n 0, 1, 0), (1, .getfield 21, 4, 0), (4, .aload_n 1, 5, 0), (5, .getfield 21, 8, 0), (8, .if_icmp .eq 20, 11, 28), (11, .aload_n 0, 12, 0), (12, .getfield 21, 15, 0), (15, .aload_n 1, 16, 0)]
def pgb_125_b1 : List pg_R := [(16, .getfield 21, 19, 0), (19, .if_icmp .ge 7, 22, 26), (22, .iconst (-1), 23, 0), (23, .goto 4, 26, 27), (26, .iconst 1, 27, 0), (27, .ireturn, 28, 0), (28, .aload_n 0, 29, 0), (29, .getfield 21, 32, 0)]
def pgb_125_b2 : List pg_R := [(32, .iconst 1, 33, 0), (33, .isub, 34, 0), (34, .istore_n 2, 35, 0), (35, .iload_n 2, 36, 0), (36, .ifCond .lt 41, 39, 77), (39, .aload_n 0, 40, 0), (40, .iload_n 2, 41, 0), (41, .invokevirtual 36, 44, 0)]
def pgb_125_b3 : List pg_R := [(44, .aload_n 1, 45, 0), (45, .iload_n 2, 46, 0), (46, .invokevirtual 36, 49, 0), (49, .if_icmp .eq 22, 52, 71), (52, .aload_n 0, 53, 0), (53, .iload_n 2, 54, 0), (54, .invokevirtual 36, 57, 0), (57, .aload_n 1, 58, 0)]
def pgb_125_b4 : List pg_R := [(58, .iload_n 2, 59, 0), (59, .invokevirtual 36, 62, 0), (62, .if_icmp .ge 7, 65, 69), (65, .iconst (-1), 66, 0), (66, .goto 4, 69, 70), (69, .iconst 1, 70, 0), (70, .ireturn, 71, 0), (71, .iinc 2 (-1), 74, 0)]
def pgb_125_b5 : List pg_R := [(74, .goto (-39), 77, 35), (77, .iconst 0, 78, 0), (78, .ireturn, 79, 0)]
def pgB_125 : pg_Bk := [(16, pgb_125_b0), (32, pgb_125_b1), (44, pgb_125_b2), (58, pgb_125_b3), (74, pgb_125_b4), (79, pgb_125_b5)]
set_option maxRecDepth 20000 in
theorem pgc_125 : pgB_125.all (fun q => q.2.all (pg_ok (pg_cc 125))) = true := by decide +kernel
/-- MarkovDesk$Nat.small()J -/
def pgb_126_b0 : List pg_R := [(0, .aload_n 0, 1, 0), (1, .iconst 1, 2, 0), (2, .invokevirtual 36, 5, 0), (5, .i2l, 6, 0), (6, .bipush 31, 8, 0), (8, .lshl, 9, 0), (9, .aload_n 0, 10, 0), (10, .iconst 0, 11, 0)]
def pgb_126_b1 : List pg_R := [(11, .invokevirtual 36, 14, 0), (14, .i2l, 15, 0), (15, .ladd, 16, 0), (16, .lreturn, 17, 0)]
def pgB_126 : pg_Bk := [(11, pgb_126_b0), (17, pgb_126_b1)]
set_option maxRecDepth 20000 in
theorem pgc_126 : pgB_126.all (fun q => q.2.all (pg_ok (pg_cc 126))) = true := by decide +kernel
/-- MarkovDesk$Ratio.leap(LMarkovDesk$Nat;LMarkovDesk$Nat;)Z -/
def pgb_127_0_b0 : List pg_R := [(0, .aload_n 0, 1, 0), (1, .getfield 49, 4, 0), (4, .istore_n 2, 5, 0), (5, .aload_n 0, 6, 0), (6, .iload_n 2, 7, 0), (7, .iconst 1, 8, 0), (8, .isub, 9, 0), (9, .invokevirtual 69, 12, 0)]
def pgb_127_0_b1 : List pg_R := [(12, .invokestatic 73, 15, 0), (15, .iconst 1, 16, 0), (16, .isub, 17, 0), (17, .istore_n 3, 18, 0), (18, .aload_n 0, 19, 0), (19, .iload_n 2, 20, 0), (20, .iload_n 3, 21, 0), (21, .invokevirtual 78, 24, 0)]
def pgb_127_0_b2 : List pg_R := [(24, .lstore 4, 26, 0), (26, .aload_n 1, 27, 0), (27, .iload_n 2, 28, 0), (28, .iload_n 3, 29, 0), (29, .invokevirtual 78, 32, 0), (32, .lstore 6, 34, 0), (34, .lconst 1, 35, 0), (35, .lstore 8, 37, 0)]
def pgb_127_0_b3 : List pg_R := [(37, .lconst 0, 38, 0), (38, .lstore 10, 40, 0), (40, .lconst 0, 41, 0), (41, .lstore 12, 43, 0), (43, .lconst 1, 44, 0), (44, .lstore 14, 46, 0), (46, .iconst 0, 47, 0), (47, .istore 16, 49, 0)]
def pgb_127_0_b4 : List pg_R := [(49, .iload 16, 51, 0), (51, .bipush 100, 53, 0), (53, .if_icmp .ge 152, 56, 205), (56, .lload 6, 58, 0), (58, .lload 12, 60, 0), (60, .ladd, 61, 0), (61, .lconst 0, 62, 0), (62, .lcmp, 63, 0)]
def pgb_127_0_b5 : List pg_R := [(63, .ifCond .le 142, 66, 205), (66, .lload 6, 68, 0), (68, .lload 14, 70, 0), (70, .ladd, 71, 0), (71, .lconst 0, 72, 0), (72, .lcmp, 73, 0), (73, .ifCond .le 132, 76, 205), (76, .lload 4, 78, 0)]
def pgb_127_0_b6 : List pg_R := [(78, .lload 8, 80, 0), (80, .ladd, 81, 0), (81, .lload 6, 83, 0), (83, .lload 12, 85, 0), (85, .ladd, 86, 0), (86, .ldiv, 87, 0), (87, .lstore 17, 89, 0), (89, .lload 17, 91, 0)]
def pgb_127_0_b7 : List pg_R := [(91, .ldc2_w 82, 94, 0), (94, .lcmp, 95, 0), (95, .ifCond .gt 110, 98, 205), (98, .lload 17, 100, 0)]
def pgB_127_0 : pg_Bk := [(12, pgb_127_0_b0), (24, pgb_127_0_b1), (37, pgb_127_0_b2), (49, pgb_127_0_b3), (63, pgb_127_0_b4), (78, pgb_127_0_b5), (91, pgb_127_0_b6), (99, pgb_127_0_b7)]
set_option maxRecDepth 20000 in
theorem pgc_127_0 : pgB_127_0.all (fun q => q.2.all (pg_ok (pg_cc 127))) = true := by decide +kernel
/-- MarkovDesk$Ratio.leap(LMarkovDesk$Nat;LMarkovDesk$Nat;)Z -/
def pgb_127_1_b0 : List pg_R := [(100, .lload 4, 102, 0), (102, .lload 10, 104, 0), (104, .ladd, 105, 0), (105, .lload 6, 107, 0), (107, .lload 14, 109, 0), (109, .ladd, 110, 0), (110, .ldiv, 111, 0), (111, .lcmp, 112, 0)]
def pgb_127_1_b1 : List pg_R := [(112, .ifCond .eq 6, 115, 118), (115, .goto 90, 118, 205), (118, .lload 8, 120, 0), (120, .lload 17, 122, 0), (122, .lload 12, 124, 0), (124, .lmul, 125, 0), (125, .lsub, 126, 0), (126, .lstore 19, 128, 0)]
def pgb_127_1_b2 : List pg_R := [(128, .lload 10, 130, 0), (130, .lload 17, 132, 0), (132, .lload 14, 134, 0), (134, .lmul, 135, 0), (135, .lsub, 136, 0), (136, .lstore 21, 138, 0), (138, .lload 19, 140, 0), (140, .invokestatic 84, 143, 0)]
def pgb_127_1_b3 : List pg_R := [(143, .ldc2_w 82, 146, 0), (146, .lcmp, 147, 0), (147, .ifCond .gt 58, 150, 205), (150, .lload 21, 152, 0), (152, .invokestatic 84, 155, 0), (155, .ldc2_w 82, 158, 0), (158, .lcmp, 159, 0), (159, .ifCond .le 6, 162, 165)]
def pgb_127_1_b4 : List pg_R := [(162, .goto 43, 165, 205), (165, .lload 12, 167, 0), (167, .lstore 8, 169, 0), (169, .lload 14, 171, 0), (171, .lstore 10, 173, 0), (173, .lload 19, 175, 0), (175, .lstore 12, 177, 0), (177, .lload 21, 179, 0)]
def pgb_127_1_b5 : List pg_R := [(179, .lstore 14, 181, 0), (181, .lload 4, 183, 0), (183, .lload 17, 185, 0), (185, .lload 6, 187, 0), (187, .lmul, 188, 0), (188, .lsub, 189, 0), (189, .lstore 23, 191, 0), (191, .lload 6, 193, 0)]
def pgb_127_1_b6 : List pg_R := [(193, .lstore 4, 195, 0), (195, .lload 23, 197, 0), (197, .lstore 6, 199, 0), (199, .iinc 16 1, 202, 0), (202, .goto (-153), 205, 49), (205, .lload 10, 207, 0), (207, .lconst 0, 208, 0), (208, .lcmp, 209, 0)]
def pgb_127_1_b7 : List pg_R := [(209, .ifCond .ne 5, 212, 214), (212, .iconst 0, 213, 0), (213, .ireturn, 214, 0), (214, .aload_n 0, 215, 0)]
def pgB_127_1 : pg_Bk := [(112, pgb_127_1_b0), (128, pgb_127_1_b1), (143, pgb_127_1_b2), (162, pgb_127_1_b3), (179, pgb_127_1_b4), (193, pgb_127_1_b5), (209, pgb_127_1_b6), (215, pgb_127_1_b7)]
set_option maxRecDepth 20000 in
theorem pgc_127_1 : pgB_127_1.all (fun q => q.2.all (pg_ok (pg_cc 127))) = true := by decide +kernel
/-- MarkovDesk$Ratio.leap(LMarkovDesk$Nat;LMarkovDesk$Nat;)Z -/
def pgb_127_2_b0 : List pg_R := [(215, .aload_n 1, 216, 0), (216, .lload 8, 218, 0), (218, .lload 10, 220, 0), (220, .lload 12, 222, 0), (222, .lload 14, 224, 0), (224, .invokestatic 90, 227, 0), (227, .iconst 1, 228, 0), (228, .ireturn, 229, 0)]
def pgB_127_2 : pg_Bk := [(229, pgb_127_2_b0)]
set_option maxRecDepth 20000 in
theorem pgc_127_2 : pgB_127_2.all (fun q => q.2.all (pg_ok (pg_cc 127))) = true := by decide +kernel
def pgB_127 : pg_Bk := pgB_127_0 ++ (pgB_127_1 ++ (pgB_127_2))
theorem pgc_127 : pgB_127.all (fun q => q.2.all (pg_ok (pg_cc 127))) = true := pg_all2 pgc_127_0 (pg_all2 pgc_127_1 (pgc_127_2))
/-- MarkovDesk$Nat.head(II)J -/
def pgb_128_b0 : List pg_R := [(0, .aload_n 0, 1, 0), (1, .iload_n 1, 2, 0), (2, .iconst 1, 3, 0), (3, .isub, 4, 0), (4, .invokevirtual 36, 7, 0), (7, .i2l, 8, 0), (8, .bipush 31, 10, 0), (10, .iload_n 2, 11, 0)]
def pgb_128_b1 : List pg_R := [(11, .iadd, 12, 0), (12, .lshl, 13, 0), (13, .aload_n 0, 14, 0), (14, .iload_n 1, 15, 0), (15, .iconst 2, 16, 0), (16, .isub, 17, 0), (17, .invokevirtual 36, 20, 0), (20, .i2l, 21, 0)]
def pgb_128_b2 : List pg_R := [(21, .iload_n 2, 22, 0), (22, .lshl, 23, 0), (23, .ladd, 24, 0), (24, .aload_n 0, 25, 0), (25, .iload_n 1, 26, 0), (26, .iconst 3, 27, 0), (27, .isub, 28, 0), (28, .invokevirtual 36, 31, 0)]
def pgb_128_b3 : List pg_R := [(31, .bipush 31, 33, 0), (33, .iload_n 2, 34, 0), (34, .isub, 35, 0), (35, .iushr, 36, 0), (36, .i2l, 37, 0), (37, .ladd, 38, 0), (38, .lreturn, 39, 0)]
def pgB_128 : pg_Bk := [(11, pgb_128_b0), (21, pgb_128_b1), (31, pgb_128_b2), (39, pgb_128_b3)]
set_option maxRecDepth 20000 in
theorem pgc_128 : pgB_128.all (fun q => q.2.all (pg_ok (pg_cc 128))) = true := by decide +kernel
/-- java/lang/Math.abs(J)J -/
def pgb_129_b0 : List pg_R := [(0, .lload_n 0, 1, 0), (1, .lconst 0, 2, 0), (2, .lcmp, 3, 0), (3, .ifCond .ge 8, 6, 11), (6, .lload_n 0, 7, 0), (7, .lneg, 8, 0), (8, .goto 4, 11, 12), (11, .lload_n 0, 12, 0)]
def pgb_129_b1 : List pg_R := [(12, .lreturn, 13, 0)]
def pgB_129 : pg_Bk := [(12, pgb_129_b0), (13, pgb_129_b1)]
set_option maxRecDepth 20000 in
theorem pgc_129 : pgB_129.all (fun q => q.2.all (pg_ok (pg_cc 129))) = true := by decide +kernel
/-- MarkovDesk$Ratio.mix(LMarkovDesk$Nat;LMarkovDesk$Nat;JJJJ)V -/
def pgb_130_0_b0 : List pg_R := [(0, .aload_n 1, 1, 0), (1, .aload_n 0, 2, 0), (2, .getfield 49, 5, 0), (5, .invokevirtual 94, 8, 0), (8, .ifCond .ne 4, 11, 12), (11, .return_, 12, 0), (12, .lconst 0, 13, 0), (13, .lstore 10, 15, 0)]
def pgb_130_0_b1 : List pg_R := [(15, .lconst 0, 16, 0), (16, .lstore 12, 18, 0), (18, .iconst 0, 19, 0), (19, .istore 14, 21, 0), (21, .iload 14, 23, 0), (23, .aload_n 0, 24, 0), (24, .getfield 49, 27, 0), (27, .if_icmp .ge 111, 30, 138)]
def pgb_130_0_b2 : List pg_R := [(30, .iload 14, 32, 0), (32, .aload_n 1, 33, 0), (33, .getfield 49, 36, 0), (36, .if_icmp .ge 102, 39, 138), (39, .aload_n 0, 40, 0), (40, .getfield 98, 43, 0), (43, .iload 14, 45, 0), (45, .iaload, 46, 0)]
def pgb_130_0_b3 : List pg_R := [(46, .i2l, 47, 0), (47, .lstore 15, 49, 0), (49, .aload_n 1, 50, 0), (50, .getfield 98, 53, 0), (53, .iload 14, 55, 0), (55, .iaload, 56, 0), (56, .i2l, 57, 0), (57, .lstore 17, 59, 0)]
def pgb_130_0_b4 : List pg_R := [(59, .lload 10, 61, 0), (61, .lload_n 2, 62, 0), (62, .lload 15, 64, 0), (64, .lmul, 65, 0), (65, .lload 4, 67, 0), (67, .lload 17, 69, 0), (69, .lmul, 70, 0), (70, .ladd, 71, 0)]
def pgb_130_0_b5 : List pg_R := [(71, .ladd, 72, 0), (72, .lstore 10, 74, 0), (74, .lload 12, 76, 0), (76, .lload 6, 78, 0), (78, .lload 15, 80, 0), (80, .lmul, 81, 0), (81, .lload 8, 83, 0), (83, .lload 17, 85, 0)]
def pgb_130_0_b6 : List pg_R := [(85, .lmul, 86, 0), (86, .ladd, 87, 0), (87, .ladd, 88, 0), (88, .lstore 12, 90, 0), (90, .aload_n 0, 91, 0), (91, .getfield 98, 94, 0), (94, .iload 14, 96, 0), (96, .lload 10, 98, 0)]
def pgb_130_0_b7 : List pg_R := [(98, .ldc2_w 82, 101, 0), (101, .land, 102, 0), (102, .l2i, 103, 0), (103, .iastore, 104, 0)]
def pgB_130_0 : pg_Bk := [(15, pgb_130_0_b0), (30, pgb_130_0_b1), (46, pgb_130_0_b2), (59, pgb_130_0_b3), (71, pgb_130_0_b4), (85, pgb_130_0_b5), (98, pgb_130_0_b6), (104, pgb_130_0_b7)]
set_option maxRecDepth 20000 in
theorem pgc_130_0 : pgB_130_0.all (fun q => q.2.all (pg_ok (pg_cc 130))) = true := by decide +kernel
/-- MarkovDesk$Ratio.mix(LMarkovDesk$Nat;LMarkovDesk$Nat;JJJJ)V -/
def pgb_130_1_b0 : List pg_R := [(104, .aload_n 1, 105, 0), (105, .getfield 98, 108, 0), (108, .iload 14, 110, 0), (110, .lload 12, 112, 0), (112, .ldc2_w 82, 115, 0), (115, .land, 116, 0), (116, .l2i, 117, 0), (117, .iastore, 118, 0)]
def pgb_130_1_b1 : List pg_R := [(118, .lload 10, 120, 0), (120, .bipush 31, 122, 0), (122, .lshr, 123, 0), (123, .lstore 10, 125, 0), (125, .lload 12, 127, 0), (127, .bipush 31, 129, 0), (129, .lshr, 130, 0), (130, .lstore 12, 132, 0)]
def pgb_130_1_b2 : List pg_R := [(132, .iinc 14 1, 135, 0), (135, .goto (-114), 138, 21), (138, .aload_n 0, 139, 0), (139, .invokevirtual 102, 142, 0), (142, .aload_n 1, 143, 0), (143, .invokevirtual 102, 146, 0), (146, .return_, 147, 0)]
def pgB_130_1 : pg_Bk := [(118, pgb_130_1_b0), (132, pgb_130_1_b1), (147, pgb_130_1_b2)]
set_option maxRecDepth 20000 in
theorem pgc_130_1 : pgB_130_1.all (fun q => q.2.all (pg_ok (pg_cc 130))) = true := by decide +kernel
def pgB_130 : pg_Bk := pgB_130_0 ++ (pgB_130_1)
theorem pgc_130 : pgB_130.all (fun q => q.2.all (pg_ok (pg_cc 130))) = true := pg_all2 pgc_130_0 (pgc_130_1)
/-- MarkovDesk$Nat.stretch(I)Z -/
def pgb_131_b0 : List pg_R := [(0, .iload_n 1, 1, 0), (1, .aload_n 0, 2, 0), (2, .getfield 15, 5, 0), (5, .arraylength, 6, 0), (6, .if_icmp .le 5, 9, 11), (9, .iconst 0, 10, 0), (10, .ireturn, 11, 0), (11, .aload_n 0, 12, 0)]
def pgb_131_b1 : List pg_R := [(12, .getfield 21, 15, 0), (15, .iload_n 1, 16, 0), (16, .if_icmp .ge 26, 19, 42), (19, .aload_n 0, 20, 0), (20, .getfield 15, 23, 0), (23, .aload_n 0, 24, 0), (24, .getfield 21, 27, 0), (27, .iconst 0, 28, 0)]
def pgb_131_b2 : List pg_R := [(28, .iastore, 29, 0), (29, .aload_n 0, 30, 0), (30, .dup, 31, 0), (31, .getfield 21, 34, 0), (34, .iconst 1, 35, 0), (35, .iadd, 36, 0), (36, .putfield 21, 39, 0), (39, .goto (-28), 42, 11)]
def pgb_131_b3 : List pg_R := [(42, .iconst 1, 43, 0), (43, .ireturn, 44, 0)]
def pgB_131 : pg_Bk := [(12, pgb_131_b0), (28, pgb_131_b1), (42, pgb_131_b2), (44, pgb_131_b3)]
set_option maxRecDepth 20000 in
theorem pgc_131 : pgB_131.all (fun q => q.2.all (pg_ok (pg_cc 131))) = true := by decide +kernel
/-- MarkovDesk$Nat.trim()V -/
def pgb_132_b0 : List pg_R := [(0, .aload_n 0, 1, 0), (1, .getfield 21, 4, 0), (4, .ifCond .le 30, 7, 34), (7, .aload_n 0, 8, 0), (8, .getfield 15, 11, 0), (11, .aload_n 0, 12, 0), (12, .getfield 21, 15, 0), (15, .iconst 1, 16, 0)]
def pgb_132_b1 : List pg_R := [(16, .isub, 17, 0), (17, .iaload, 18, 0), (18, .ifCond .ne 16, 21, 34), (21, .aload_n 0, 22, 0), (22, .dup, 23, 0), (23, .getfield 21, 26, 0), (26, .iconst 1, 27, 0), (27, .isub, 28, 0)]
def pgb_132_b2 : List pg_R := [(28, .putfield 21, 31, 0), (31, .goto (-31), 34, 0), (34, .return_, 35, 0)]
def pgB_132 : pg_Bk := [(16, pgb_132_b0), (28, pgb_132_b1), (35, pgb_132_b2)]
set_option maxRecDepth 20000 in
theorem pgc_132 : pgB_132.all (fun q => q.2.all (pg_ok (pg_cc 132))) = true := by decide +kernel
/-- MarkovDesk$Nat.toQuotient(LMarkovDesk$Nat;LMarkovDesk$Nat;)V -/
def pgb_133_0_b0 : List pg_R := [(0, .aload_n 0, 1, 0), (1, .iconst 0, 2, 0), (2, .putfield 21, 5, 0), (5, .aload_n 2, 6, 0), (6, .getfield 21, 9, 0), (9, .ifCond .eq 11, 12, 20), (12, .aload_n 1, 13, 0), (13, .aload_n 2, 14, 0)]
def pgb_133_0_b1 : List pg_R := [(14, .invokevirtual 56, 17, 0), (17, .ifCond .ge 4, 20, 21), (20, .return_, 21, 0), (21, .aload_n 2, 22, 0), (22, .aload_n 2, 23, 0), (23, .getfield 21, 26, 0), (26, .iconst 1, 27, 0), (27, .isub, 28, 0)]
def pgb_133_0_b2 : List pg_R := [(28, .invokevirtual 36, 31, 0), (31, .invokestatic 40, 34, 0), (34, .iconst 1, 35, 0), (35, .isub, 36, 0), (36, .istore_n 3, 37, 0), (37, .aload_n 1, 38, 0), (38, .iload_n 3, 39, 0), (39, .invokevirtual 60, 42, 0)]
def pgb_133_0_b3 : List pg_R := [(42, .aload_n 2, 43, 0), (43, .iload_n 3, 44, 0), (44, .invokevirtual 60, 47, 0), (47, .aload_n 0, 48, 0), (48, .aload_n 1, 49, 0), (49, .getfield 21, 52, 0), (52, .aload_n 2, 53, 0), (53, .getfield 21, 56, 0)]
def pgb_133_0_b4 : List pg_R := [(56, .isub, 57, 0), (57, .iconst 1, 58, 0), (58, .iadd, 59, 0), (59, .invokevirtual 49, 62, 0), (62, .ifCond .eq 43, 65, 105), (65, .aload_n 1, 66, 0), (66, .getfield 21, 69, 0), (69, .aload_n 2, 70, 0)]
def pgb_133_0_b5 : List pg_R := [(70, .getfield 21, 73, 0), (73, .isub, 74, 0), (74, .istore 4, 76, 0), (76, .iload 4, 78, 0), (78, .ifCond .lt 23, 81, 101), (81, .aload_n 0, 82, 0), (82, .getfield 15, 85, 0), (85, .iload 4, 87, 0)]
def pgb_133_0_b6 : List pg_R := [(87, .aload_n 1, 88, 0), (88, .aload_n 2, 89, 0), (89, .iload 4, 91, 0), (91, .invokevirtual 64, 94, 0), (94, .iastore, 95, 0), (95, .iinc 4 (-1), 98, 0), (98, .goto (-22), 101, 76), (101, .aload_n 0, 102, 0)]
def pgb_133_0_b7 : List pg_R := [(102, .invokevirtual 53, 105, 0), (105, .aload_n 1, 106, 0), (106, .iload_n 3, 107, 0), (107, .invokevirtual 68, 110, 0)]
def pgB_133_0 : pg_Bk := [(14, pgb_133_0_b0), (28, pgb_133_0_b1), (42, pgb_133_0_b2), (56, pgb_133_0_b3), (70, pgb_133_0_b4), (87, pgb_133_0_b5), (102, pgb_133_0_b6), (108, pgb_133_0_b7)]
set_option maxRecDepth 20000 in
theorem pgc_133_0 : pgB_133_0.all (fun q => q.2.all (pg_ok (pg_cc 133))) = true := by decide +kernel
/-- MarkovDesk$Nat.toQuotient(LMarkovDesk$Nat;LMarkovDesk$Nat;)V -/
def pgb_133_1_b0 : List pg_R := [(110, .aload_n 2, 111, 0), (111, .iload_n 3, 112, 0), (112, .invokevirtual 68, 115, 0), (115, .return_, 116, 0)]
def pgB_133_1 : pg_Bk := [(116, pgb_133_1_b0)]
set_option maxRecDepth 20000 in
theorem pgc_133_1 : pgB_133_1.all (fun q => q.2.all (pg_ok (pg_cc 133))) = true := by decide +kernel
def pgB_133 : pg_Bk := pgB_133_0 ++ (pgB_133_1)
theorem pgc_133 : pgB_133.all (fun q => q.2.all (pg_ok (pg_cc 133))) = true := pg_all2 pgc_133_0 (pgc_133_1)
/-- MarkovDesk$Nat.shiftUp(I)V -/
def pgb_134_b0 : List pg_R := [(0, .lconst 0, 1, 0), (1, .lstore_n 2, 2, 0), (2, .iconst 0, 3, 0), (3, .istore 4, 5, 0), (5, .iload 4, 7, 0), (7, .aload_n 0, 8, 0), (8, .getfield 21, 11, 0), (11, .if_icmp .ge 43, 14, 54)]
def pgb_134_b1 : List pg_R := [(14, .aload_n 0, 15, 0), (15, .getfield 15, 18, 0), (18, .iload 4, 20, 0), (20, .iaload, 21, 0), (21, .i2l, 22, 0), (22, .iload_n 1, 23, 0), (23, .lshl, 24, 0), (24, .lload_n 2, 25, 0)]
def pgb_134_b2 : List pg_R := [(25, .ladd, 26, 0), (26, .lstore 5, 28, 0), (28, .aload_n 0, 29, 0), (29, .getfield 15, 32, 0), (32, .iload 4, 34, 0), (34, .lload 5, 36, 0), (36, .ldc2_w 25, 39, 0), (39, .land, 40, 0)]
def pgb_134_b3 : List pg_R := [(40, .l2i, 41, 0), (41, .iastore, 42, 0), (42, .lload 5, 44, 0), (44, .bipush 31, 46, 0), (46, .lushr, 47, 0), (47, .lstore_n 2, 48, 0), (48, .iinc 4 1, 51, 0), (51, .goto (-46), 54, 5)]
def pgb_134_b4 : List pg_R := [(54, .lload_n 2, 55, 0), (55, .lconst 0, 56, 0), (56, .lcmp, 57, 0), (57, .ifCond .eq 36, 60, 93), (60, .aload_n 0, 61, 0), (61, .getfield 21, 64, 0), (64, .aload_n 0, 65, 0), (65, .getfield 15, 68, 0)]
def pgb_134_b5 : List pg_R := [(68, .arraylength, 69, 0), (69, .if_icmp .ge 24, 72, 93), (72, .aload_n 0, 73, 0), (73, .getfield 15, 76, 0), (76, .aload_n 0, 77, 0), (77, .getfield 21, 80, 0), (80, .lload_n 2, 81, 0), (81, .l2i, 82, 0)]
def pgb_134_b6 : List pg_R := [(82, .iastore, 83, 0), (83, .aload_n 0, 84, 0), (84, .dup, 85, 0), (85, .getfield 21, 88, 0), (88, .iconst 1, 89, 0), (89, .iadd, 90, 0), (90, .putfield 21, 93, 0), (93, .return_, 94, 0)]
def pgB_134 : pg_Bk := [(14, pgb_134_b0), (25, pgb_134_b1), (40, pgb_134_b2), (54, pgb_134_b3), (68, pgb_134_b4), (82, pgb_134_b5), (94, pgb_134_b6)]
set_option maxRecDepth 20000 in
theorem pgc_134 : pgB_134.all (fun q => q.2.all (pg_ok (pg_cc 134))) = true := by decide +kernel
/-- MarkovDesk$Nat.takeOff(LMarkovDesk$Nat;I)I -/
def pgb_135_0_b0 : List pg_R := [(0, .aload_n 1, 1, 0), (1, .getfield 21, 4, 0), (4, .istore_n 3, 5, 0), (5, .aload_n 1, 6, 0), (6, .iload_n 3, 7, 0), (7, .iconst 1, 8, 0), (8, .isub, 9, 0), (9, .invokevirtual 36, 12, 0)]
def pgb_135_0_b1 : List pg_R := [(12, .i2l, 13, 0), (13, .lstore 4, 15, 0), (15, .lload 4, 17, 0), (17, .lconst 0, 18, 0), (18, .lcmp, 19, 0), (19, .ifCond .ne 5, 22, 24), (22, .iconst 0, 23, 0), (23, .ireturn, 24, 0)]
def pgb_135_0_b2 : List pg_R := [(24, .aload_n 0, 25, 0), (25, .iload_n 2, 26, 0), (26, .iload_n 3, 27, 0), (27, .iadd, 28, 0), (28, .invokevirtual 36, 31, 0), (31, .i2l, 32, 0), (32, .bipush 31, 34, 0), (34, .lshl, 35, 0)]
def pgb_135_0_b3 : List pg_R := [(35, .aload_n 0, 36, 0), (36, .iload_n 2, 37, 0), (37, .iload_n 3, 38, 0), (38, .iadd, 39, 0), (39, .iconst 1, 40, 0), (40, .isub, 41, 0), (41, .invokevirtual 36, 44, 0), (44, .i2l, 45, 0)]
def pgb_135_0_b4 : List pg_R := [(45, .ladd, 46, 0), (46, .lstore 6, 48, 0), (48, .lload 6, 50, 0), (50, .lload 4, 52, 0), (52, .ldiv, 53, 0), (53, .lstore 8, 55, 0), (55, .lload 6, 57, 0), (57, .lload 4, 59, 0)]
def pgb_135_0_b5 : List pg_R := [(59, .lrem, 60, 0), (60, .lstore 10, 62, 0), (62, .iconst 0, 63, 0), (63, .istore 12, 65, 0), (65, .iload 12, 67, 0), (67, .iconst 3, 68, 0), (68, .if_icmp .ge 71, 71, 139), (71, .lload 10, 73, 0)]
def pgb_135_0_b6 : List pg_R := [(73, .ldc2_w 25, 76, 0), (76, .lcmp, 77, 0), (77, .ifCond .gt 62, 80, 139), (80, .lload 8, 82, 0), (82, .ldc2_w 25, 85, 0), (85, .lcmp, 86, 0), (86, .ifCond .gt 34, 89, 120), (89, .lload 8, 91, 0)]
def pgb_135_0_b7 : List pg_R := [(91, .aload_n 1, 92, 0), (92, .iload_n 3, 93, 0), (93, .iconst 2, 94, 0), (94, .isub, 95, 0)]
def pgB_135_0 : pg_Bk := [(12, pgb_135_0_b0), (24, pgb_135_0_b1), (35, pgb_135_0_b2), (45, pgb_135_0_b3), (59, pgb_135_0_b4), (73, pgb_135_0_b5), (91, pgb_135_0_b6), (95, pgb_135_0_b7)]
set_option maxRecDepth 20000 in
theorem pgc_135_0 : pgB_135_0.all (fun q => q.2.all (pg_ok (pg_cc 135))) = true := by decide +kernel
/-- MarkovDesk$Nat.takeOff(LMarkovDesk$Nat;I)I -/
def pgb_135_1_b0 : List pg_R := [(95, .invokevirtual 36, 98, 0), (98, .i2l, 99, 0), (99, .lmul, 100, 0), (100, .lload 10, 102, 0), (102, .bipush 31, 104, 0), (104, .lshl, 105, 0), (105, .aload_n 0, 106, 0), (106, .iload_n 2, 107, 0)]
def pgb_135_1_b1 : List pg_R := [(107, .iload_n 3, 108, 0), (108, .iadd, 109, 0), (109, .iconst 2, 110, 0), (110, .isub, 111, 0), (111, .invokevirtual 36, 114, 0), (114, .i2l, 115, 0), (115, .ladd, 116, 0), (116, .lcmp, 117, 0)]
def pgb_135_1_b2 : List pg_R := [(117, .ifCond .le 22, 120, 139), (120, .lload 8, 122, 0), (122, .lconst 1, 123, 0), (123, .lsub, 124, 0), (124, .lstore 8, 126, 0), (126, .lload 10, 128, 0), (128, .lload 4, 130, 0), (130, .ladd, 131, 0)]
def pgb_135_1_b3 : List pg_R := [(131, .lstore 10, 133, 0), (133, .iinc 12 1, 136, 0), (136, .goto (-71), 139, 65), (139, .lload 8, 141, 0), (141, .lconst 0, 142, 0), (142, .lcmp, 143, 0), (143, .ifCond .le 31, 146, 174), (146, .aload_n 0, 147, 0)]
def pgb_135_1_b4 : List pg_R := [(147, .aload_n 1, 148, 0), (148, .lload 8, 150, 0), (150, .lneg, 151, 0), (151, .iload_n 2, 152, 0), (152, .invokevirtual 71, 155, 0), (155, .lconst 0, 156, 0), (156, .lcmp, 157, 0), (157, .ifCond .ge 17, 160, 174)]
def pgb_135_1_b5 : List pg_R := [(160, .aload_n 0, 161, 0), (161, .aload_n 1, 162, 0), (162, .lconst 1, 163, 0), (163, .iload_n 2, 164, 0), (164, .invokevirtual 71, 167, 0), (167, .pop2, 168, 0), (168, .lload 8, 170, 0), (170, .lconst 1, 171, 0)]
def pgb_135_1_b6 : List pg_R := [(171, .lsub, 172, 0), (172, .lstore 8, 174, 0), (174, .lload 8, 176, 0), (176, .l2i, 177, 0), (177, .ireturn, 178, 0)]
def pgB_135_1 : pg_Bk := [(107, pgb_135_1_b0), (117, pgb_135_1_b1), (131, pgb_135_1_b2), (147, pgb_135_1_b3), (160, pgb_135_1_b4), (171, pgb_135_1_b5), (178, pgb_135_1_b6)]
set_option maxRecDepth 20000 in
theorem pgc_135_1 : pgB_135_1.all (fun q => q.2.all (pg_ok (pg_cc 135))) = true := by decide +kernel
def pgB_135 : pg_Bk := pgB_135_0 ++ (pgB_135_1)
theorem pgc_135 : pgB_135.all (fun q => q.2.all (pg_ok (pg_cc 135))) = true := pg_all2 pgc_135_0 (pgc_135_1)
/-- MarkovDesk$Nat.addMultiple(LMarkovDesk$Nat;JI)J -/
def pgb_136_0_b0 : List pg_R := [(0, .lconst 0, 1, 0), (1, .lstore 5, 3, 0), (3, .iconst 0, 4, 0), (4, .istore 7, 6, 0), (6, .iload 7, 8, 0), (8, .aload_n 1, 9, 0), (9, .getfield 21, 12, 0), (12, .if_icmp .ge 72, 15, 84)]
def pgb_136_0_b1 : List pg_R := [(15, .iload 7, 17, 0), (17, .iload 4, 19, 0), (19, .iadd, 20, 0), (20, .aload_n 0, 21, 0), (21, .getfield 21, 24, 0), (24, .if_icmp .ge 60, 27, 84), (27, .lload_n 2, 28, 0), (28, .aload_n 1, 29, 0)]
def pgb_136_0_b2 : List pg_R := [(29, .getfield 15, 32, 0), (32, .iload 7, 34, 0), (34, .iaload, 35, 0), (35, .i2l, 36, 0), (36, .lmul, 37, 0), (37, .aload_n 0, 38, 0), (38, .getfield 15, 41, 0), (41, .iload 7, 43, 0)]
def pgb_136_0_b3 : List pg_R := [(43, .iload 4, 45, 0), (45, .iadd, 46, 0), (46, .iaload, 47, 0), (47, .i2l, 48, 0), (48, .ladd, 49, 0), (49, .lload 5, 51, 0), (51, .ladd, 52, 0), (52, .lstore 8, 54, 0)]
def pgb_136_0_b4 : List pg_R := [(54, .aload_n 0, 55, 0), (55, .getfield 15, 58, 0), (58, .iload 7, 60, 0), (60, .iload 4, 62, 0), (62, .iadd, 63, 0), (63, .lload 8, 65, 0), (65, .ldc2_w 25, 68, 0), (68, .land, 69, 0)]
def pgb_136_0_b5 : List pg_R := [(69, .l2i, 70, 0), (70, .iastore, 71, 0), (71, .lload 8, 73, 0), (73, .bipush 31, 75, 0), (75, .lshr, 76, 0), (76, .lstore 5, 78, 0), (78, .iinc 7 1, 81, 0), (81, .goto (-75), 84, 6)]
def pgb_136_0_b6 : List pg_R := [(84, .iload 7, 86, 0), (86, .iload 4, 88, 0), (88, .iadd, 89, 0), (89, .aload_n 0, 90, 0), (90, .getfield 21, 93, 0), (93, .if_icmp .ge 36, 96, 129), (96, .lload 5, 98, 0), (98, .aload_n 0, 99, 0)]
def pgb_136_0_b7 : List pg_R := [(99, .getfield 15, 102, 0), (102, .iload 7, 104, 0), (104, .iload 4, 106, 0), (106, .iadd, 107, 0)]
def pgB_136_0 : pg_Bk := [(15, pgb_136_0_b0), (29, pgb_136_0_b1), (43, pgb_136_0_b2), (54, pgb_136_0_b3), (69, pgb_136_0_b4), (84, pgb_136_0_b5), (99, pgb_136_0_b6), (107, pgb_136_0_b7)]
set_option maxRecDepth 20000 in
theorem pgc_136_0 : pgB_136_0.all (fun q => q.2.all (pg_ok (pg_cc 136))) = true := by decide +kernel
/-- MarkovDesk$Nat.addMultiple(LMarkovDesk$Nat;JI)J -/
def pgb_136_1_b0 : List pg_R := [(107, .iaload, 108, 0), (108, .i2l, 109, 0), (109, .ladd, 110, 0), (110, .lstore 5, 112, 0), (112, .aload_n 0, 113, 0), (113, .getfield 15, 116, 0), (116, .iload 7, 118, 0), (118, .iload 4, 120, 0)]
def pgb_136_1_b1 : List pg_R := [(120, .iadd, 121, 0), (121, .lload 5, 123, 0), (123, .ldc2_w 25, 126, 0), (126, .land, 127, 0), (127, .l2i, 128, 0), (128, .iastore, 129, 0), (129, .lload 5, 131, 0), (131, .lreturn, 132, 0)]
def pgB_136_1 : pg_Bk := [(120, pgb_136_1_b0), (132, pgb_136_1_b1)]
set_option maxRecDepth 20000 in
theorem pgc_136_1 : pgB_136_1.all (fun q => q.2.all (pg_ok (pg_cc 136))) = true := by decide +kernel
def pgB_136 : pg_Bk := pgB_136_0 ++ (pgB_136_1)
theorem pgc_136 : pgB_136.all (fun q => q.2.all (pg_ok (pg_cc 136))) = true := pg_all2 pgc_136_0 (pgc_136_1)
