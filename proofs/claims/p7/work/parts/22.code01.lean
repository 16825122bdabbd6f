/-- MarkovDesk.forget()V -/
def pgb_26_b0 : List pg_R := [(0, .aload_n 0, 1, 0), (1, .getfield 40, 4, 0), (4, .iconst 0, 5, 0), (5, .putfield 159, 8, 0), (8, .aload_n 0, 9, 0), (9, .getfield 58, 12, 0), (12, .invokevirtual 285, 15, 0), (15, .aload_n 0, 16, 0)]
def pgb_26_b1 : List pg_R := [(16, .getfield 62, 19, 0), (19, .invokevirtual 285, 22, 0), (22, .iconst 0, 23, 0), (23, .istore_n 1, 24, 0), (24, .iload_n 1, 25, 0), (25, .bipush 24, 27, 0), (27, .if_icmp .ge 29, 30, 56), (30, .aload_n 0, 31, 0)]
def pgb_26_b2 : List pg_R := [(31, .getfield 81, 34, 0), (34, .iload_n 1, 35, 0), (35, .aaload, 36, 0), (36, .lconst 0, 37, 0), (37, .invokevirtual 202, 40, 0), (40, .aload_n 0, 41, 0), (41, .getfield 85, 44, 0), (44, .iload_n 1, 45, 0)]
def pgb_26_b3 : List pg_R := [(45, .aaload, 46, 0), (46, .lconst 1, 47, 0), (47, .invokevirtual 202, 50, 0), (50, .iinc 1 1, 53, 0), (53, .goto (-29), 56, 24), (56, .return_, 57, 0)]
def pgB_26 : pg_Bk := [(16, pgb_26_b0), (31, pgb_26_b1), (45, pgb_26_b2), (57, pgb_26_b3)]
set_option maxRecDepth 20000 in
theorem pgc_26 : pgB_26.all (fun q => q.2.all (pg_ok (pg_cc 26))) = true := by decide +kernel
/-- MarkovDesk$Answer.clear()V -/
def pgb_27_b0 : List pg_R := [(0, .aload_n 0, 1, 0), (1, .iconst 0, 2, 0), (2, .putfield 36, 5, 0), (5, .aload_n 0, 6, 0), (6, .iconst 0, 7, 0), (7, .putfield 39, 10, 0), (10, .return_, 11, 0)]
def pgB_27 : pg_Bk := [(11, pgb_27_b0)]
set_option maxRecDepth 20000 in
theorem pgc_27 : pgB_27.all (fun q => q.2.all (pg_ok (pg_cc 27))) = true := by decide +kernel
/-- MarkovDesk$Reader.startOn(I)V -/
def pgb_28_b0 : List pg_R := [(0, .aload_n 0, 1, 0), (1, .iconst (-1), 2, 0), (2, .putfield 39, 5, 0), (5, .aload_n 0, 6, 0), (6, .getfield 51, 9, 0), (9, .invokevirtual 55, 12, 0), (12, .aload_n 0, 13, 0), (13, .getfield 47, 16, 0)]
def pgb_28_b1 : List pg_R := [(16, .iconst 0, 17, 0), (17, .putfield 60, 20, 0), (20, .aload_n 0, 21, 0), (21, .iconst 0, 22, 0), (22, .putfield 65, 25, 0), (25, .aload_n 0, 26, 0), (26, .getfield 43, 29, 0), (29, .iload_n 1, 30, 0)]
def pgb_28_b2 : List pg_R := [(30, .invokevirtual 68, 33, 0), (33, .istore_n 2, 34, 0), (34, .iload_n 2, 35, 0), (35, .ifCond .lt 8, 38, 43), (38, .aload_n 0, 39, 0), (39, .iload_n 2, 40, 0), (40, .invokevirtual 74, 43, 0), (43, .aload_n 0, 44, 0)]
def pgb_28_b3 : List pg_R := [(44, .getfield 43, 47, 0), (47, .iload_n 1, 48, 0), (48, .invokevirtual 78, 51, 0), (51, .aload_n 0, 52, 0), (52, .iconst (-1), 53, 0), (53, .putfield 81, 56, 0), (56, .aload_n 0, 57, 0), (57, .invokevirtual 84, 60, 0)]
def pgb_28_b4 : List pg_R := [(60, .aload_n 0, 61, 0), (61, .iconst 5, 62, 0), (62, .invokevirtual 87, 65, 0), (65, .return_, 66, 0)]
def pgB_28 : pg_Bk := [(16, pgb_28_b0), (30, pgb_28_b1), (44, pgb_28_b2), (60, pgb_28_b3), (66, pgb_28_b4)]
set_option maxRecDepth 20000 in
theorem pgc_28 : pgB_28.all (fun q => q.2.all (pg_ok (pg_cc 28))) = true := by decide +kernel
/-- MarkovDesk$Model.clear()V -/
def pgb_29_b0 : List pg_R := [(0, .aload_n 0, 1, 0), (1, .iconst 0, 2, 0), (2, .putfield 52, 5, 0), (5, .aload_n 0, 6, 0), (6, .iconst 0, 7, 0), (7, .putfield 56, 10, 0), (10, .aload_n 0, 11, 0), (11, .iconst 0, 12, 0)]
def pgb_29_b1 : List pg_R := [(12, .putfield 59, 15, 0), (15, .aload_n 0, 16, 0), (16, .iconst 0, 17, 0), (17, .putfield 62, 20, 0), (20, .aload_n 0, 21, 0), (21, .iconst 0, 22, 0), (22, .putfield 65, 25, 0), (25, .aload_n 0, 26, 0)]
def pgb_29_b2 : List pg_R := [(26, .iconst 0, 27, 0), (27, .putfield 68, 30, 0), (30, .return_, 31, 0)]
def pgB_29 : pg_Bk := [(12, pgb_29_b0), (26, pgb_29_b1), (31, pgb_29_b2)]
set_option maxRecDepth 20000 in
theorem pgc_29 : pgB_29.all (fun q => q.2.all (pg_ok (pg_cc 29))) = true := by decide +kernel
/-- MarkovDesk$Tokens.foreignOctet(I)I -/
def pgb_30_b0 : List pg_R := [(0, .iconst 0, 1, 0), (1, .istore_n 2, 2, 0), (2, .iload_n 2, 3, 0), (3, .iload_n 1, 4, 0), (4, .if_icmp .ge 53, 7, 57), (7, .iload_n 2, 8, 0), (8, .aload_n 0, 9, 0), (9, .getfield 9, 12, 0)]
def pgb_30_b1 : List pg_R := [(12, .arraylength, 13, 0), (13, .if_icmp .ge 44, 16, 57), (16, .aload_n 0, 17, 0), (17, .getfield 9, 20, 0), (20, .iload_n 2, 21, 0), (21, .iaload, 22, 0), (22, .bipush 10, 24, 0), (24, .if_icmp .eq 27, 27, 51)]
def pgb_30_b2 : List pg_R := [(27, .aload_n 0, 28, 0), (28, .getfield 9, 31, 0), (31, .iload_n 2, 32, 0), (32, .iaload, 33, 0), (33, .bipush 32, 35, 0), (35, .if_icmp .lt 14, 38, 49), (38, .aload_n 0, 39, 0), (39, .getfield 9, 42, 0)]
def pgb_30_b3 : List pg_R := [(42, .iload_n 2, 43, 0), (43, .iaload, 44, 0), (44, .bipush 126, 46, 0), (46, .if_icmp .le 5, 49, 51), (49, .iload_n 2, 50, 0), (50, .ireturn, 51, 0), (51, .iinc 2 1, 54, 0), (54, .goto (-52), 57, 2)]
def pgb_30_b4 : List pg_R := [(57, .iconst (-1), 58, 0), (58, .ireturn, 59, 0)]
def pgB_30 : pg_Bk := [(12, pgb_30_b0), (27, pgb_30_b1), (42, pgb_30_b2), (57, pgb_30_b3), (59, pgb_30_b4)]
set_option maxRecDepth 20000 in
theorem pgc_30 : pgB_30.all (fun q => q.2.all (pg_ok (pg_cc 30))) = true := by decide +kernel
/-- MarkovDesk$Reader.fail(I)V -/
def pgb_31_b0 : List pg_R := [(0, .aload_n 0, 1, 0), (1, .iload_n 1, 2, 0), (2, .putfield 39, 5, 0), (5, .new 282, 8, 0), (8, .dup, 9, 0), (9, .invokespecial 284, 12, 0), (12, .athrow, 13, 0)]
def pgB_31 : pg_Bk := [(13, pgb_31_b0)]
set_option maxRecDepth 20000 in
theorem pgc_31 : pgB_31.all (fun q => q.2.all (pg_ok (pg_cc 31))) = true := by decide +kernel
/-- java/lang/IllegalArgumentException.<init>()V -/
def pgb_32_b0 : List pg_R := [(0, .aload_n 0, 1, 0), (1, .invokespecial 1, 4, 0), (4, .return_, 5, 0)]
def pgB_32 : pg_Bk := [(5, pgb_32_b0)]
set_option maxRecDepth 20000 in
theorem pgc_32 : pgB_32.all (fun q => q.2.all (pg_ok (pg_cc 32))) = true := by decide +kernel
/-- MarkovDesk$Tokens.scan(I)V -/
def pgb_33_0_b0 : List pg_R := [(0, .aload_n 0, 1, 0), (1, .iload_n 1, 2, 0), (2, .aload_n 0, 3, 0), (3, .getfield 9, 6, 0), (6, .arraylength, 7, 0), (7, .invokestatic 31, 10, 0), (10, .putfield 37, 13, 0), (13, .aload_n 0, 14, 0)]
def pgb_33_0_b1 : List pg_R := [(14, .iconst 0, 15, 0), (15, .putfield 40, 18, 0), (18, .iconst 0, 19, 0), (19, .istore_n 2, 20, 0), (20, .iconst 1, 21, 0), (21, .istore_n 3, 22, 0), (22, .iconst 0, 23, 0), (23, .istore 4, 25, 0)]
def pgb_33_0_b2 : List pg_R := [(25, .iload 4, 27, 0), (27, .aload_n 0, 28, 0), (28, .getfield 15, 31, 0), (31, .arraylength, 32, 0), (32, .if_icmp .ge 87, 35, 119), (35, .iload_n 3, 36, 0), (36, .ifCond .eq 83, 39, 119), (39, .aload_n 0, 40, 0)]
def pgb_33_0_b3 : List pg_R := [(40, .iload_n 2, 41, 0), (41, .invokevirtual 43, 44, 0), (44, .istore_n 2, 45, 0), (45, .aload_n 0, 46, 0), (46, .iload 4, 48, 0), (48, .iload_n 2, 49, 0), (49, .invokevirtual 47, 52, 0), (52, .iload 4, 54, 0)]
def pgb_33_0_b4 : List pg_R := [(54, .sipush 1500, 57, 0), (57, .if_icmp .ne 11, 60, 68), (60, .aload_n 0, 61, 0), (61, .getfield 15, 64, 0), (64, .iload 4, 66, 0), (66, .iconst 1, 67, 0), (67, .iastore, 68, 0), (68, .aload_n 0, 69, 0)]
def pgb_33_0_b5 : List pg_R := [(69, .iload 4, 71, 0), (71, .iconst 1, 72, 0), (72, .iadd, 73, 0), (73, .putfield 40, 76, 0), (76, .aload_n 0, 77, 0), (77, .getfield 15, 80, 0), (80, .iload 4, 82, 0), (82, .iaload, 83, 0)]
def pgb_33_0_b6 : List pg_R := [(83, .ifCond .eq 18, 86, 101), (86, .aload_n 0, 87, 0), (87, .getfield 15, 90, 0), (90, .iload 4, 92, 0), (92, .iaload, 93, 0), (93, .iconst 1, 94, 0), (94, .if_icmp .eq 7, 97, 101), (97, .iconst 1, 98, 0)]
def pgb_33_0_b7 : List pg_R := [(98, .goto 4, 101, 102), (101, .iconst 0, 102, 0), (102, .istore_n 3, 103, 0), (103, .iload_n 2, 104, 0)]
def pgB_33_0 : pg_Bk := [(14, pgb_33_0_b0), (25, pgb_33_0_b1), (40, pgb_33_0_b2), (54, pgb_33_0_b3), (69, pgb_33_0_b4), (83, pgb_33_0_b5), (98, pgb_33_0_b6), (104, pgb_33_0_b7)]
set_option maxRecDepth 20000 in
theorem pgc_33_0 : pgB_33_0.all (fun q => q.2.all (pg_ok (pg_cc 33))) = true := by decide +kernel
/-- MarkovDesk$Tokens.scan(I)V -/
def pgb_33_1_b0 : List pg_R := [(104, .aload_n 0, 105, 0), (105, .getfield 21, 108, 0), (108, .iload 4, 110, 0), (110, .iaload, 111, 0), (111, .iadd, 112, 0), (112, .istore_n 2, 113, 0), (113, .iinc 4 1, 116, 0), (116, .goto (-91), 119, 25)]
def pgb_33_1_b1 : List pg_R := [(119, .return_, 120, 0)]
def pgB_33_1 : pg_Bk := [(119, pgb_33_1_b0), (120, pgb_33_1_b1)]
set_option maxRecDepth 20000 in
theorem pgc_33_1 : pgB_33_1.all (fun q => q.2.all (pg_ok (pg_cc 33))) = true := by decide +kernel
def pgB_33 : pg_Bk := pgB_33_0 ++ (pgB_33_1)
theorem pgc_33 : pgB_33.all (fun q => q.2.all (pg_ok (pg_cc 33))) = true := pg_all2 pgc_33_0 (pgc_33_1)
/-- java/lang/Math.min(II)I -/
def pgb_34_b0 : List pg_R := [(0, .iload_n 0, 1, 0), (1, .iload_n 1, 2, 0), (2, .if_icmp .gt 7, 5, 9), (5, .iload_n 0, 6, 0), (6, .goto 4, 9, 10), (9, .iload_n 1, 10, 0), (10, .ireturn, 11, 0)]
def pgB_34 : pg_Bk := [(11, pgb_34_b0)]
set_option maxRecDepth 20000 in
theorem pgc_34 : pgB_34.all (fun q => q.2.all (pg_ok (pg_cc 34))) = true := by decide +kernel
/-- MarkovDesk$Tokens.afterBlanks(I)I -/
def pgb_35_b0 : List pg_R := [(0, .iconst 0, 1, 0), (1, .istore_n 2, 2, 0), (2, .iload_n 1, 3, 0), (3, .istore_n 3, 4, 0), (4, .iload_n 3, 5, 0), (5, .aload_n 0, 6, 0), (6, .getfield 37, 9, 0), (9, .if_icmp .ge 76, 12, 85)]
def pgb_35_b1 : List pg_R := [(12, .aload_n 0, 13, 0), (13, .iload_n 3, 14, 0), (14, .invokevirtual 51, 17, 0), (17, .istore 4, 19, 0), (19, .iload_n 2, 20, 0), (20, .ifCond .eq 19, 23, 39), (23, .iload 4, 25, 0), (25, .bipush 10, 27, 0)]
def pgb_35_b2 : List pg_R := [(27, .if_icmp .eq 7, 30, 34), (30, .iconst 1, 31, 0), (31, .goto 4, 34, 35), (34, .iconst 0, 35, 0), (35, .istore_n 2, 36, 0), (36, .goto 43, 39, 79), (39, .iload 4, 41, 0), (41, .bipush 47, 43, 0)]
def pgb_35_b3 : List pg_R := [(43, .if_icmp .ne 20, 46, 63), (46, .aload_n 0, 47, 0), (47, .iload_n 3, 48, 0), (48, .iconst 1, 49, 0), (49, .iadd, 50, 0), (50, .invokevirtual 51, 53, 0), (53, .bipush 47, 55, 0), (55, .if_icmp .ne 8, 58, 63)]
def pgb_35_b4 : List pg_R := [(58, .iconst 1, 59, 0), (59, .istore_n 2, 60, 0), (60, .goto 19, 63, 79), (63, .iload 4, 65, 0), (65, .bipush 10, 67, 0), (67, .if_icmp .eq 12, 70, 79), (70, .iload 4, 72, 0), (72, .bipush 32, 74, 0)]
def pgb_35_b5 : List pg_R := [(74, .if_icmp .eq 5, 77, 79), (77, .iload_n 3, 78, 0), (78, .ireturn, 79, 0), (79, .iinc 3 1, 82, 0), (82, .goto (-78), 85, 4), (85, .aload_n 0, 86, 0), (86, .getfield 37, 89, 0), (89, .ireturn, 90, 0)]
def pgB_35 : pg_Bk := [(12, pgb_35_b0), (27, pgb_35_b1), (43, pgb_35_b2), (58, pgb_35_b3), (74, pgb_35_b4), (90, pgb_35_b5)]
set_option maxRecDepth 20000 in
theorem pgc_35 : pgB_35.all (fun q => q.2.all (pg_ok (pg_cc 35))) = true := by decide +kernel
/-- MarkovDesk$Tokens.octetAt(I)I -/
def pgb_36_b0 : List pg_R := [(0, .iload_n 1, 1, 0), (1, .ifCond .lt 20, 4, 21), (4, .iload_n 1, 5, 0), (5, .aload_n 0, 6, 0), (6, .getfield 37, 9, 0), (9, .if_icmp .ge 12, 12, 21), (12, .aload_n 0, 13, 0), (13, .getfield 9, 16, 0)]
def pgb_36_b1 : List pg_R := [(16, .iload_n 1, 17, 0), (17, .iaload, 18, 0), (18, .goto 4, 21, 22), (21, .iconst 0, 22, 0), (22, .ireturn, 23, 0)]
def pgB_36 : pg_Bk := [(16, pgb_36_b0), (23, pgb_36_b1)]
set_option maxRecDepth 20000 in
theorem pgc_36 : pgB_36.all (fun q => q.2.all (pg_ok (pg_cc 36))) = true := by decide +kernel
/-- MarkovDesk$Tokens.scanToken(II)V -/
def pgb_37_b0 : List pg_R := [(0, .aload_n 0, 1, 0), (1, .getfield 18, 4, 0), (4, .iload_n 1, 5, 0), (5, .iload_n 2, 6, 0), (6, .iastore, 7, 0), (7, .aload_n 0, 8, 0), (8, .getfield 24, 11, 0), (11, .iload_n 1, 12, 0)]
def pgb_37_b1 : List pg_R := [(12, .iconst 0, 13, 0), (13, .iastore, 14, 0), (14, .aload_n 0, 15, 0), (15, .iload_n 2, 16, 0), (16, .invokevirtual 51, 19, 0), (19, .istore_n 3, 20, 0), (20, .iload_n 2, 21, 0), (21, .aload_n 0, 22, 0)]
def pgb_37_b2 : List pg_R := [(22, .getfield 37, 25, 0), (25, .if_icmp .lt 20, 28, 45), (28, .aload_n 0, 29, 0), (29, .getfield 15, 32, 0), (32, .iload_n 1, 33, 0), (33, .iconst 0, 34, 0), (34, .iastore, 35, 0), (35, .aload_n 0, 36, 0)]
def pgb_37_b3 : List pg_R := [(36, .getfield 21, 39, 0), (39, .iload_n 1, 40, 0), (40, .iconst 0, 41, 0), (41, .iastore, 42, 0), (42, .goto 48, 45, 90), (45, .iload_n 3, 46, 0), (46, .invokestatic 54, 49, 0), (49, .ifCond .eq 12, 52, 61)]
def pgb_37_b4 : List pg_R := [(52, .aload_n 0, 53, 0), (53, .iload_n 1, 54, 0), (54, .iload_n 2, 55, 0), (55, .invokevirtual 58, 58, 0), (58, .goto 32, 61, 90), (61, .iload_n 3, 62, 0), (62, .invokestatic 61, 65, 0), (65, .ifCond .eq 12, 68, 77)]
def pgb_37_b5 : List pg_R := [(68, .aload_n 0, 69, 0), (69, .iload_n 1, 70, 0), (70, .iload_n 2, 71, 0), (71, .invokevirtual 64, 74, 0), (74, .goto 16, 77, 90), (77, .aload_n 0, 78, 0), (78, .iload_n 1, 79, 0), (79, .iload_n 3, 80, 0)]
def pgb_37_b6 : List pg_R := [(80, .aload_n 0, 81, 0), (81, .iload_n 2, 82, 0), (82, .iconst 1, 83, 0), (83, .iadd, 84, 0), (84, .invokevirtual 51, 87, 0), (87, .invokevirtual 67, 90, 0), (90, .return_, 91, 0)]
def pgB_37 : pg_Bk := [(12, pgb_37_b0), (22, pgb_37_b1), (36, pgb_37_b2), (52, pgb_37_b3), (68, pgb_37_b4), (80, pgb_37_b5), (91, pgb_37_b6)]
set_option maxRecDepth 20000 in
theorem pgc_37 : pgB_37.all (fun q => q.2.all (pg_ok (pg_cc 37))) = true := by decide +kernel
/-- MarkovDesk$Tokens.isLetter(I)Z -/
def pgb_38_b0 : List pg_R := [(0, .iload_n 0, 1, 0), (1, .bipush 97, 3, 0), (3, .if_icmp .lt 9, 6, 12), (6, .iload_n 0, 7, 0), (7, .bipush 122, 9, 0), (9, .if_icmp .le 21, 12, 30), (12, .iload_n 0, 13, 0), (13, .bipush 65, 15, 0)]
def pgb_38_b1 : List pg_R := [(15, .if_icmp .lt 9, 18, 24), (18, .iload_n 0, 19, 0), (19, .bipush 90, 21, 0), (21, .if_icmp .le 9, 24, 30), (24, .iload_n 0, 25, 0), (25, .bipush 95, 27, 0), (27, .if_icmp .ne 7, 30, 34), (30, .iconst 1, 31, 0)]
def pgb_38_b2 : List pg_R := [(31, .goto 4, 34, 35), (34, .iconst 0, 35, 0), (35, .ireturn, 36, 0)]
def pgB_38 : pg_Bk := [(15, pgb_38_b0), (31, pgb_38_b1), (36, pgb_38_b2)]
set_option maxRecDepth 20000 in
theorem pgc_38 : pgB_38.all (fun q => q.2.all (pg_ok (pg_cc 38))) = true := by decide +kernel
/-- MarkovDesk$Tokens.scanName(II)V -/
def pgb_39_b0 : List pg_R := [(0, .iconst 1, 1, 0), (1, .istore_n 3, 2, 0), (2, .iconst 1, 3, 0), (3, .istore 4, 5, 0), (5, .iload 4, 7, 0), (7, .bipush 20, 9, 0), (9, .if_icmp .ge 43, 12, 52), (12, .aload_n 0, 13, 0)]
def pgb_39_b1 : List pg_R := [(13, .iload_n 2, 14, 0), (14, .iload 4, 16, 0), (16, .iadd, 17, 0), (17, .invokevirtual 51, 20, 0), (20, .istore 5, 22, 0), (22, .iload 5, 24, 0), (24, .invokestatic 54, 27, 0), (27, .ifCond .ne 14, 30, 41)]
def pgb_39_b2 : List pg_R := [(30, .iload 5, 32, 0), (32, .invokestatic 61, 35, 0), (35, .ifCond .ne 6, 38, 41), (38, .goto 14, 41, 52), (41, .iload 4, 43, 0), (43, .iconst 1, 44, 0), (44, .iadd, 45, 0), (45, .istore_n 3, 46, 0)]
def pgb_39_b3 : List pg_R := [(46, .iinc 4 1, 49, 0), (49, .goto (-44), 52, 5), (52, .aload_n 0, 53, 0), (53, .getfield 21, 56, 0), (56, .iload_n 1, 57, 0), (57, .iload_n 3, 58, 0), (58, .iastore, 59, 0), (59, .aload_n 0, 60, 0)]
def pgb_39_b4 : List pg_R := [(60, .getfield 15, 63, 0), (63, .iload_n 1, 64, 0), (64, .aload_n 0, 65, 0), (65, .iload_n 2, 66, 0), (66, .iload_n 3, 67, 0), (67, .invokevirtual 71, 70, 0), (70, .iastore, 71, 0), (71, .return_, 72, 0)]
def pgB_39 : pg_Bk := [(13, pgb_39_b0), (30, pgb_39_b1), (46, pgb_39_b2), (60, pgb_39_b3), (72, pgb_39_b4)]
set_option maxRecDepth 20000 in
theorem pgc_39 : pgB_39.all (fun q => q.2.all (pg_ok (pg_cc 39))) = true := by decide +kernel
/-- MarkovDesk$Tokens.isDigit(I)Z -/
def pgb_40_b0 : List pg_R := [(0, .iload_n 0, 1, 0), (1, .bipush 48, 3, 0), (3, .if_icmp .lt 13, 6, 16), (6, .iload_n 0, 7, 0), (7, .bipush 57, 9, 0), (9, .if_icmp .gt 7, 12, 16), (12, .iconst 1, 13, 0), (13, .goto 4, 16, 17)]
def pgb_40_b1 : List pg_R := [(16, .iconst 0, 17, 0), (17, .ireturn, 18, 0)]
def pgB_40 : pg_Bk := [(16, pgb_40_b0), (18, pgb_40_b1)]
set_option maxRecDepth 20000 in
theorem pgc_40 : pgB_40.all (fun q => q.2.all (pg_ok (pg_cc 40))) = true := by decide +kernel
/-- MarkovDesk$Tokens.wordOrName(II)I -/
def pgb_41_b0 : List pg_R := [(0, .iconst 5, 1, 0), (1, .istore_n 3, 2, 0), (2, .iconst 0, 3, 0), (3, .istore 4, 5, 0), (5, .iconst 0, 6, 0), (6, .istore 5, 8, 0), (8, .iload 5, 10, 0), (10, .ldc 74, 12, 0)]
def pgb_41_b1 : List pg_R := [(12, .invokevirtual 76, 15, 0), (15, .if_icmp .ge 52, 18, 67), (18, .ldc 74, 20, 0), (20, .iload 5, 22, 0), (22, .invokevirtual 81, 25, 0), (25, .bipush 32, 27, 0), (27, .if_icmp .ne 34, 30, 61), (30, .iload 5, 32, 0)]
def pgb_41_b2 : List pg_R := [(32, .iload 4, 34, 0), (34, .isub, 35, 0), (35, .iload_n 2, 36, 0), (36, .if_icmp .ne 16, 39, 52), (39, .aload_n 0, 40, 0), (40, .iload_n 1, 41, 0), (41, .iload 4, 43, 0), (43, .iload_n 2, 44, 0)]
def pgb_41_b3 : List pg_R := [(44, .invokevirtual 85, 47, 0), (47, .ifCond .eq 5, 50, 52), (50, .iload_n 3, 51, 0), (51, .ireturn, 52, 0), (52, .iinc 3 1, 55, 0), (55, .iload 5, 57, 0), (57, .iconst 1, 58, 0), (58, .iadd, 59, 0)]
def pgb_41_b4 : List pg_R := [(59, .istore 4, 61, 0), (61, .iinc 5 1, 64, 0), (64, .goto (-56), 67, 8), (67, .iconst 2, 68, 0), (68, .ireturn, 69, 0)]
def pgB_41 : pg_Bk := [(12, pgb_41_b0), (32, pgb_41_b1), (44, pgb_41_b2), (59, pgb_41_b3), (69, pgb_41_b4)]
set_option maxRecDepth 20000 in
theorem pgc_41 : pgB_41.all (fun q => q.2.all (pg_ok (pg_cc 41))) = true := by decide +kernel
/-- java/lang/String.length()I -/
def pgb_42_b0 : List pg_R := [(0, .aload_n 0, 1, 0), (1, .getfield 9, 4, 0), (4, .arraylength, 5, 0), (5, .aload_n 0, 6, 0), (6, .invokevirtual 335, 9, 0), (9, .ishr, 10, 0), (10, .ireturn, 11, 0)]
def pgB_42 : pg_Bk := [(11, pgb_42_b0)]
set_option maxRecDepth 20000 in
theorem pgc_42 : pgB_42.all (fun q => q.2.all (pg_ok (pg_cc 42))) = true := by decide +kernel
/-- java/lang/String.coder()B -/
def pgb_43_b0 : List pg_R := [(0, .getstatic 38, 3, 0), (3, .ifCond .eq 10, 6, 13), (6, .aload_n 0, 7, 0), (7, .getfield 15, 10, 0), (10, .goto 4, 13, 14), (13, .iconst 1, 14, 0), (14, .ireturn, 15, 0)]
def pgB_43 : pg_Bk := [(15, pgb_43_b0)]
set_option maxRecDepth 20000 in
theorem pgc_43 : pgB_43.all (fun q => q.2.all (pg_ok (pg_cc 43))) = true := by decide +kernel
/-- java/lang/String.charAt(I)C -/
def pgb_44_b0 : List pg_R := [(0, .aload_n 0, 1, 0), (1, .invokevirtual 492, 4, 0), (4, .ifCond .eq 12, 7, 16), (7, .aload_n 0, 8, 0), (8, .getfield 9, 11, 0), (11, .iload_n 1, 12, 0), (12, .invokestatic 495, 15, 0), (15, .ireturn, 16, 0)]
def pgb_44_b1 : List pg_R := [(16, .aload_n 0, 17, 0), (17, .getfield 9, 20, 0), (20, .iload_n 1, 21, 0), (21, .invokestatic 498, 24, 0), (24, .ireturn, 25, 0)]
def pgB_44 : pg_Bk := [(16, pgb_44_b0), (25, pgb_44_b1)]
set_option maxRecDepth 20000 in
theorem pgc_44 : pgB_44.all (fun q => q.2.all (pg_ok (pg_cc 44))) = true := by decide +kernel
/-- java/lang/String.isLatin1()Z -/
def pgb_45_b0 : List pg_R := [(0, .getstatic 38, 3, 0), (3, .ifCond .eq 14, 6, 17), (6, .aload_n 0, 7, 0), (7, .getfield 15, 10, 0), (10, .ifCond .ne 7, 13, 17), (13, .iconst 1, 14, 0), (14, .goto 4, 17, 18), (17, .iconst 0, 18, 0)]
def pgb_45_b1 : List pg_R := [(18, .ireturn, 19, 0)]
def pgB_45 : pg_Bk := [(18, pgb_45_b0), (19, pgb_45_b1)]
set_option maxRecDepth 20000 in
theorem pgc_45 : pgB_45.all (fun q => q.2.all (pg_ok (pg_cc 45))) = true := by decide +kernel
/-- java/lang/StringLatin1.charAt([BI)C -/
def pgb_46_b0 : List pg_R := [(0, .iload_n 1, 1, 0), (1, .aload_n 0, 2, 0), (2, .arraylength, 3, 0), (3, .invokestatic 9, 6, 0), (6, .aload_n 0, 7, 0), (7, .iload_n 1, 8, 0), (8, .baload, 9, 0), (9, .sipush 255, 12, 0)]
def pgb_46_b1 : List pg_R := [(12, .iand, 13, 0), (13, .i2c, 14, 0), (14, .ireturn, 15, 0)]
def pgB_46 : pg_Bk := [(12, pgb_46_b0), (15, pgb_46_b1)]
set_option maxRecDepth 20000 in
theorem pgc_46 : pgB_46.all (fun q => q.2.all (pg_ok (pg_cc 46))) = true := by decide +kernel
/-- java/lang/String.checkIndex(II)V -/
def pgb_47_b0 : List pg_R := [(0, .iload_n 0, 1, 0), (1, .iload_n 1, 2, 0), (2, .getstatic 1053, 5, 0), (5, .invokestatic 1059, 8, 0), (8, .pop, 9, 0), (9, .return_, 10, 0)]
def pgB_47 : pg_Bk := [(10, pgb_47_b0)]
set_option maxRecDepth 20000 in
theorem pgc_47 : pgB_47.all (fun q => q.2.all (pg_ok (pg_cc 47))) = true := by decide +kernel
/-- jdk/internal/util/Preconditions.checkIndex(IILjava/util/function/BiFunction;)I -/
def pgb_48_b0 : List pg_R := [(0, .iload_n 0, 1, 0), (1, .ifCond .lt 8, 4, 9), (4, .iload_n 0, 5, 0), (5, .iload_n 1, 6, 0), (6, .if_icmp .lt 10, 9, 16), (9, .aload_n 2, 10, 0), (10, .iload_n 0, 11, 0), (11, .iload_n 1, 12, 0)]
def pgb_48_b1 : List pg_R := [(12, .invokestatic 95, 15, 0), (15, .athrow, 16, 0), (16, .iload_n 0, 17, 0), (17, .ireturn, 18, 0)]
def pgB_48 : pg_Bk := [(12, pgb_48_b0), (18, pgb_48_b1)]
set_option maxRecDepth 20000 in
theorem pgc_48 : pgB_48.all (fun q => q.2.all (pg_ok (pg_cc 48))) = true := by decide +kernel
/-- MarkovDesk$Tokens.isWord(III)Z -/
def pgb_49_b0 : List pg_R := [(0, .iconst 0, 1, 0), (1, .istore 4, 3, 0), (3, .iload 4, 5, 0), (5, .iload_n 3, 6, 0), (6, .if_icmp .ge 43, 9, 49), (9, .iload_n 2, 10, 0), (10, .iload 4, 12, 0), (12, .iadd, 13, 0)]
def pgb_49_b1 : List pg_R := [(13, .ldc 74, 15, 0), (15, .invokevirtual 76, 18, 0), (18, .if_icmp .ge 31, 21, 49), (21, .aload_n 0, 22, 0), (22, .iload_n 1, 23, 0), (23, .iload 4, 25, 0), (25, .iadd, 26, 0), (26, .invokevirtual 51, 29, 0)]
def pgb_49_b2 : List pg_R := [(29, .ldc 74, 31, 0), (31, .iload_n 2, 32, 0), (32, .iload 4, 34, 0), (34, .iadd, 35, 0), (35, .invokevirtual 81, 38, 0), (38, .if_icmp .eq 5, 41, 43), (41, .iconst 0, 42, 0), (42, .ireturn, 43, 0)]
def pgb_49_b3 : List pg_R := [(43, .iinc 4 1, 46, 0), (46, .goto (-43), 49, 3), (49, .iconst 1, 50, 0), (50, .ireturn, 51, 0)]
def pgB_49 : pg_Bk := [(13, pgb_49_b0), (29, pgb_49_b1), (43, pgb_49_b2), (51, pgb_49_b3)]
set_option maxRecDepth 20000 in
theorem pgc_49 : pgB_49.all (fun q => q.2.all (pg_ok (pg_cc 49))) = true := by decide +kernel
/-- MarkovDesk$Tokens.scanNumber(II)V -/
def pgb_50_0_b0 : List pg_R := [(0, .aload_n 0, 1, 0), (1, .iload_n 2, 2, 0), (2, .invokevirtual 89, 5, 0), (5, .istore_n 3, 6, 0), (6, .iconst 0, 7, 0), (7, .istore 4, 9, 0), (9, .iload_n 3, 10, 0), (10, .iconst 3, 11, 0)]
def pgb_50_0_b1 : List pg_R := [(11, .if_icmp .gt 26, 14, 37), (14, .aload_n 0, 15, 0), (15, .iload_n 2, 16, 0), (16, .iload_n 3, 17, 0), (17, .iadd, 18, 0), (18, .invokevirtual 51, 21, 0), (21, .bipush 46, 23, 0), (23, .if_icmp .ne 14, 26, 37)]
def pgb_50_0_b2 : List pg_R := [(26, .aload_n 0, 27, 0), (27, .iload_n 2, 28, 0), (28, .iload_n 3, 29, 0), (29, .iadd, 30, 0), (30, .iconst 1, 31, 0), (31, .iadd, 32, 0), (32, .invokevirtual 89, 35, 0), (35, .istore 4, 37, 0)]
def pgb_50_0_b3 : List pg_R := [(37, .iload 4, 39, 0), (39, .ifCond .le 12, 42, 51), (42, .iload_n 3, 43, 0), (43, .iconst 1, 44, 0), (44, .iadd, 45, 0), (45, .iload 4, 47, 0), (47, .iadd, 48, 0), (48, .goto 4, 51, 52)]
def pgb_50_0_b4 : List pg_R := [(51, .iload_n 3, 52, 0), (52, .istore 5, 54, 0), (54, .aload_n 0, 55, 0), (55, .getfield 21, 58, 0), (58, .iload_n 1, 59, 0), (59, .iload 5, 61, 0), (61, .iastore, 62, 0), (62, .iload_n 3, 63, 0)]
def pgb_50_0_b5 : List pg_R := [(63, .bipush 6, 65, 0), (65, .if_icmp .gt 23, 68, 88), (68, .iload 4, 70, 0), (70, .iconst 3, 71, 0), (71, .if_icmp .gt 17, 74, 88), (74, .aload_n 0, 75, 0), (75, .iload_n 2, 76, 0), (76, .iload 5, 78, 0)]
def pgb_50_0_b6 : List pg_R := [(78, .iadd, 79, 0), (79, .invokevirtual 51, 82, 0), (82, .invokestatic 54, 85, 0), (85, .ifCond .eq 13, 88, 98), (88, .aload_n 0, 89, 0), (89, .getfield 15, 92, 0), (92, .iload_n 1, 93, 0), (93, .iconst 1, 94, 0)]
def pgb_50_0_b7 : List pg_R := [(94, .iastore, 95, 0), (95, .goto 92, 98, 187), (98, .iload 4, 100, 0), (100, .ifCond .le 68, 103, 168)]
def pgB_50_0 : pg_Bk := [(11, pgb_50_0_b0), (26, pgb_50_0_b1), (37, pgb_50_0_b2), (51, pgb_50_0_b3), (63, pgb_50_0_b4), (78, pgb_50_0_b5), (94, pgb_50_0_b6), (101, pgb_50_0_b7)]
set_option maxRecDepth 20000 in
theorem pgc_50_0 : pgB_50_0.all (fun q => q.2.all (pg_ok (pg_cc 50))) = true := by decide +kernel
/-- MarkovDesk$Tokens.scanNumber(II)V -/
def pgb_50_1_b0 : List pg_R := [(103, .aload_n 0, 104, 0), (104, .getfield 15, 107, 0), (107, .iload_n 1, 108, 0), (108, .iconst 4, 109, 0), (109, .iastore, 110, 0), (110, .aload_n 0, 111, 0), (111, .iload_n 2, 112, 0), (112, .iload_n 3, 113, 0)]
def pgb_50_1_b1 : List pg_R := [(113, .iadd, 114, 0), (114, .iconst 1, 115, 0), (115, .iadd, 116, 0), (116, .iload 4, 118, 0), (118, .invokevirtual 92, 121, 0), (121, .istore 6, 123, 0), (123, .iload 4, 125, 0), (125, .istore 7, 127, 0)]
def pgb_50_1_b2 : List pg_R := [(127, .iload 7, 129, 0), (129, .iconst 3, 130, 0), (130, .if_icmp .ge 16, 133, 146), (133, .iload 6, 135, 0), (135, .bipush 10, 137, 0), (137, .imul, 138, 0), (138, .istore 6, 140, 0), (140, .iinc 7 1, 143, 0)]
def pgb_50_1_b3 : List pg_R := [(143, .goto (-16), 146, 127), (146, .aload_n 0, 147, 0), (147, .getfield 24, 150, 0), (150, .iload_n 1, 151, 0), (151, .aload_n 0, 152, 0), (152, .iload_n 2, 153, 0), (153, .iload_n 3, 154, 0), (154, .invokevirtual 92, 157, 0)]
def pgb_50_1_b4 : List pg_R := [(157, .sipush 1000, 160, 0), (160, .imul, 161, 0), (161, .iload 6, 163, 0), (163, .iadd, 164, 0), (164, .iastore, 165, 0), (165, .goto 22, 168, 187), (168, .aload_n 0, 169, 0), (169, .getfield 15, 172, 0)]
def pgb_50_1_b5 : List pg_R := [(172, .iload_n 1, 173, 0), (173, .iconst 3, 174, 0), (174, .iastore, 175, 0), (175, .aload_n 0, 176, 0), (176, .getfield 24, 179, 0), (179, .iload_n 1, 180, 0), (180, .aload_n 0, 181, 0), (181, .iload_n 2, 182, 0)]
def pgb_50_1_b6 : List pg_R := [(182, .iload_n 3, 183, 0), (183, .invokevirtual 92, 186, 0), (186, .iastore, 187, 0), (187, .return_, 188, 0)]
def pgB_50_1 : pg_Bk := [(113, pgb_50_1_b0), (127, pgb_50_1_b1), (143, pgb_50_1_b2), (157, pgb_50_1_b3), (172, pgb_50_1_b4), (182, pgb_50_1_b5), (188, pgb_50_1_b6)]
set_option maxRecDepth 20000 in
theorem pgc_50_1 : pgB_50_1.all (fun q => q.2.all (pg_ok (pg_cc 50))) = true := by decide +kernel
def pgB_50 : pg_Bk := pgB_50_0 ++ (pgB_50_1)
theorem pgc_50 : pgB_50.all (fun q => q.2.all (pg_ok (pg_cc 50))) = true := pg_all2 pgc_50_0 (pgc_50_1)
/-- MarkovDesk$Tokens.digitsFrom(I)I -/
def pgb_51_b0 : List pg_R := [(0, .iconst 0, 1, 0), (1, .istore_n 2, 2, 0), (2, .iload_n 1, 3, 0), (3, .istore_n 3, 4, 0), (4, .iload_n 3, 5, 0), (5, .aload_n 0, 6, 0), (6, .getfield 37, 9, 0), (9, .if_icmp .ge 23, 12, 32)]
def pgb_51_b1 : List pg_R := [(12, .aload_n 0, 13, 0), (13, .iload_n 3, 14, 0), (14, .invokevirtual 51, 17, 0), (17, .invokestatic 61, 20, 0), (20, .ifCond .eq 12, 23, 32), (23, .iinc 2 1, 26, 0), (26, .iinc 3 1, 29, 0), (29, .goto (-25), 32, 4)]
def pgb_51_b2 : List pg_R := [(32, .iload_n 2, 33, 0), (33, .ireturn, 34, 0)]
def pgB_51 : pg_Bk := [(12, pgb_51_b0), (32, pgb_51_b1), (34, pgb_51_b2)]
set_option maxRecDepth 20000 in
theorem pgc_51 : pgB_51.all (fun q => q.2.all (pg_ok (pg_cc 51))) = true := by decide +kernel
/-- MarkovDesk$Tokens.decimal(II)I -/
def pgb_52_b0 : List pg_R := [(0, .iconst 0, 1, 0), (1, .istore_n 3, 2, 0), (2, .iconst 0, 3, 0), (3, .istore 4, 5, 0), (5, .iload 4, 7, 0), (7, .iload_n 2, 8, 0), (8, .if_icmp .ge 26, 11, 34), (11, .iload_n 3, 12, 0)]
def pgb_52_b1 : List pg_R := [(12, .bipush 10, 14, 0), (14, .imul, 15, 0), (15, .aload_n 0, 16, 0), (16, .iload_n 1, 17, 0), (17, .iload 4, 19, 0), (19, .iadd, 20, 0), (20, .invokevirtual 51, 23, 0), (23, .iadd, 24, 0)]
def pgb_52_b2 : List pg_R := [(24, .bipush 48, 26, 0), (26, .isub, 27, 0), (27, .istore_n 3, 28, 0), (28, .iinc 4 1, 31, 0), (31, .goto (-26), 34, 5), (34, .iload_n 3, 35, 0), (35, .ireturn, 36, 0)]
def pgB_52 : pg_Bk := [(12, pgb_52_b0), (24, pgb_52_b1), (36, pgb_52_b2)]
set_option maxRecDepth 20000 in
theorem pgc_52 : pgB_52.all (fun q => q.2.all (pg_ok (pg_cc 52))) = true := by decide +kernel
/-- MarkovDesk$Tokens.scanSign(III)V -/
def pgb_53_b0 : List pg_R := [(0, .iconst 0, 1, 0), (1, .istore 4, 3, 0), (3, .iload 4, 5, 0), (5, .iconst 1, 6, 0), (6, .iadd, 7, 0), (7, .ldc 95, 9, 0), (9, .invokevirtual 76, 12, 0), (12, .if_icmp .ge 54, 15, 66)]
def pgb_53_b1 : List pg_R := [(15, .iload_n 2, 16, 0), (16, .ldc 95, 18, 0), (18, .iload 4, 20, 0), (20, .invokevirtual 81, 23, 0), (23, .if_icmp .ne 37, 26, 60), (26, .iload_n 3, 27, 0), (27, .ldc 95, 29, 0), (29, .iload 4, 31, 0)]
def pgb_53_b2 : List pg_R := [(31, .iconst 1, 32, 0), (32, .iadd, 33, 0), (33, .invokevirtual 81, 36, 0), (36, .if_icmp .ne 24, 39, 60), (39, .aload_n 0, 40, 0), (40, .getfield 15, 43, 0), (43, .iload_n 1, 44, 0), (44, .bipush 18, 46, 0)]
def pgb_53_b3 : List pg_R := [(46, .iload 4, 48, 0), (48, .iconst 2, 49, 0), (49, .idiv, 50, 0), (50, .iadd, 51, 0), (51, .iastore, 52, 0), (52, .aload_n 0, 53, 0), (53, .getfield 21, 56, 0), (56, .iload_n 1, 57, 0)]
def pgb_53_b4 : List pg_R := [(57, .iconst 2, 58, 0), (58, .iastore, 59, 0), (59, .return_, 60, 0), (60, .iinc 4 2, 63, 0), (63, .goto (-60), 66, 3), (66, .ldc 97, 68, 0), (68, .iload_n 2, 69, 0), (69, .i2c, 70, 0)]
def pgb_53_b5 : List pg_R := [(70, .invokevirtual 99, 73, 0), (73, .istore 4, 75, 0), (75, .aload_n 0, 76, 0), (76, .getfield 15, 79, 0), (79, .iload_n 1, 80, 0), (80, .iload 4, 82, 0), (82, .ifCond .ge 7, 85, 89), (85, .iconst 1, 86, 0)]
def pgb_53_b6 : List pg_R := [(86, .goto 8, 89, 94), (89, .bipush 24, 91, 0), (91, .iload 4, 93, 0), (93, .iadd, 94, 0), (94, .iastore, 95, 0), (95, .aload_n 0, 96, 0), (96, .getfield 21, 99, 0), (99, .iload_n 1, 100, 0)]
def pgb_53_b7 : List pg_R := [(100, .iconst 1, 101, 0), (101, .iastore, 102, 0), (102, .return_, 103, 0)]
def pgB_53 : pg_Bk := [(15, pgb_53_b0), (31, pgb_53_b1), (46, pgb_53_b2), (57, pgb_53_b3), (70, pgb_53_b4), (86, pgb_53_b5), (100, pgb_53_b6), (103, pgb_53_b7)]
set_option maxRecDepth 20000 in
theorem pgc_53 : pgB_53.all (fun q => q.2.all (pg_ok (pg_cc 53))) = true := by decide +kernel
/-- java/lang/String.indexOf(I)I -/
def pgb_54_b0 : List pg_R := [(0, .aload_n 0, 1, 0), (1, .iload_n 1, 2, 0), (2, .iconst 0, 3, 0), (3, .invokevirtual 633, 6, 0), (6, .ireturn, 7, 0)]
def pgB_54 : pg_Bk := [(7, pgb_54_b0)]
set_option maxRecDepth 20000 in
theorem pgc_54 : pgB_54.all (fun q => q.2.all (pg_ok (pg_cc 54))) = true := by decide +kernel
/-- java/lang/String.indexOf(II)I -/
def pgb_55_b0 : List pg_R := [(0, .aload_n 0, 1, 0), (1, .invokevirtual 492, 4, 0), (4, .ifCond .eq 19, 7, 23), (7, .aload_n 0, 8, 0), (8, .getfield 9, 11, 0), (11, .iload_n 1, 12, 0), (12, .iload_n 2, 13, 0), (13, .aload_n 0, 14, 0)]
def pgb_55_b1 : List pg_R := [(14, .invokevirtual 505, 17, 0), (17, .invokestatic 637, 20, 0), (20, .goto 16, 23, 36), (23, .aload_n 0, 24, 0), (24, .getfield 9, 27, 0), (27, .iload_n 1, 28, 0), (28, .iload_n 2, 29, 0), (29, .aload_n 0, 30, 0)]
def pgb_55_b2 : List pg_R := [(30, .invokevirtual 505, 33, 0), (33, .invokestatic 640, 36, 0), (36, .ireturn, 37, 0)]
def pgB_55 : pg_Bk := [(14, pgb_55_b0), (30, pgb_55_b1), (37, pgb_55_b2)]
set_option maxRecDepth 20000 in
theorem pgc_55 : pgB_55.all (fun q => q.2.all (pg_ok (pg_cc 55))) = true := by decide +kernel
/-- java/lang/StringLatin1.indexOf([BIII)I -/
def pgb_56_b0 : List pg_R := [(0, .iload_n 1, 1, 0), (1, .invokestatic 88, 4, 0), (4, .ifCond .ne 5, 7, 9), (7, .iconst (-1), 8, 0), (8, .ireturn, 9, 0), (9, .iload_n 2, 10, 0), (10, .iconst 0, 11, 0), (11, .invokestatic 92, 14, 0)]
def pgb_56_b1 : List pg_R := [(14, .istore_n 2, 15, 0), (15, .iload_n 3, 16, 0), (16, .aload_n 0, 17, 0), (17, .arraylength, 18, 0), (18, .invokestatic 38, 21, 0), (21, .istore_n 3, 22, 0), (22, .iload_n 2, 23, 0), (23, .iload_n 3, 24, 0)]
def pgb_56_b2 : List pg_R := [(24, .if_icmp .lt 5, 27, 29), (27, .iconst (-1), 28, 0), (28, .ireturn, 29, 0), (29, .aload_n 0, 30, 0), (30, .iload_n 1, 31, 0), (31, .iload_n 2, 32, 0), (32, .iload_n 3, 33, 0), (33, .invokestatic 95, 36, 0)]
def pgb_56_b3 : List pg_R := [(36, .ireturn, 37, 0)]
def pgB_56 : pg_Bk := [(14, pgb_56_b0), (24, pgb_56_b1), (36, pgb_56_b2), (37, pgb_56_b3)]
set_option maxRecDepth 20000 in
theorem pgc_56 : pgB_56.all (fun q => q.2.all (pg_ok (pg_cc 56))) = true := by decide +kernel
/-- java/lang/StringLatin1.canEncode(I)Z -/
def pgb_57_b0 : List pg_R := [(0, .iload_n 0, 1, 0), (1, .ifCond .lt 14, 4, 15), (4, .iload_n 0, 5, 0), (5, .sipush 255, 8, 0), (8, .if_icmp .gt 7, 11, 15), (11, .iconst 1, 12, 0), (12, .goto 4, 15, 16), (15, .iconst 0, 16, 0)]
def pgb_57_b1 : List pg_R := [(16, .ireturn, 17, 0)]
def pgB_57 : pg_Bk := [(16, pgb_57_b0), (17, pgb_57_b1)]
set_option maxRecDepth 20000 in
theorem pgc_57 : pgB_57.all (fun q => q.2.all (pg_ok (pg_cc 57))) = true := by decide +kernel
/-- java/lang/StringLatin1.indexOfChar([BIII)I -/
def pgb_58_b0 : List pg_R := [(0, .iload_n 1, 1, 0), (1, .i2b, 2, 0), (2, .istore 4, 4, 0), (4, .iload_n 2, 5, 0), (5, .istore 5, 7, 0), (7, .iload 5, 9, 0), (9, .iload_n 3, 10, 0), (10, .if_icmp .ge 21, 13, 31)]
def pgb_58_b1 : List pg_R := [(13, .aload_n 0, 14, 0), (14, .iload 5, 16, 0), (16, .baload, 17, 0), (17, .iload 4, 19, 0), (19, .if_icmp .ne 6, 22, 25), (22, .iload 5, 24, 0), (24, .ireturn, 25, 0), (25, .iinc 5 1, 28, 0)]
def pgb_58_b2 : List pg_R := [(28, .goto (-21), 31, 7), (31, .iconst (-1), 32, 0), (32, .ireturn, 33, 0)]
def pgB_58 : pg_Bk := [(13, pgb_58_b0), (28, pgb_58_b1), (33, pgb_58_b2)]
set_option maxRecDepth 20000 in
theorem pgc_58 : pgB_58.all (fun q => q.2.all (pg_ok (pg_cc 58))) = true := by decide +kernel
/-- MarkovDesk$Reader.advance()V -/
def pgb_59_b0 : List pg_R := [(0, .aload_n 0, 1, 0), (1, .getfield 81, 4, 0), (4, .iconst 1, 5, 0), (5, .iadd, 6, 0), (6, .aload_n 0, 7, 0), (7, .getfield 43, 10, 0), (10, .getfield 270, 13, 0), (13, .if_icmp .ge 13, 16, 26)]
def pgb_59_b1 : List pg_R := [(16, .aload_n 0, 17, 0), (17, .dup, 18, 0), (18, .getfield 81, 21, 0), (21, .iconst 1, 22, 0), (22, .iadd, 23, 0), (23, .putfield 81, 26, 0), (26, .aload_n 0, 27, 0), (27, .invokevirtual 118, 30, 0)]
def pgb_59_b2 : List pg_R := [(30, .iconst 1, 31, 0), (31, .if_icmp .ne 11, 34, 42), (34, .aload_n 0, 35, 0), (35, .aload_n 0, 36, 0), (36, .invokevirtual 98, 39, 0), (39, .invokevirtual 74, 42, 0), (42, .return_, 43, 0)]
def pgB_59 : pg_Bk := [(16, pgb_59_b0), (30, pgb_59_b1), (43, pgb_59_b2)]
set_option maxRecDepth 20000 in
theorem pgc_59 : pgB_59.all (fun q => q.2.all (pg_ok (pg_cc 59))) = true := by decide +kernel
/-- MarkovDesk$Reader.kind()I -/
def pgb_60_b0 : List pg_R := [(0, .aload_n 0, 1, 0), (1, .getfield 81, 4, 0), (4, .ifCond .lt 32, 7, 36), (7, .aload_n 0, 8, 0), (8, .getfield 81, 11, 0), (11, .aload_n 0, 12, 0), (12, .getfield 43, 15, 0), (15, .getfield 270, 18, 0)]
def pgb_60_b1 : List pg_R := [(18, .if_icmp .ge 18, 21, 36), (21, .aload_n 0, 22, 0), (22, .getfield 43, 25, 0), (25, .getfield 273, 28, 0), (28, .aload_n 0, 29, 0), (29, .getfield 81, 32, 0), (32, .iaload, 33, 0), (33, .goto 4, 36, 37)]
def pgb_60_b2 : List pg_R := [(36, .iconst 0, 37, 0), (37, .ireturn, 38, 0)]
def pgB_60 : pg_Bk := [(18, pgb_60_b0), (36, pgb_60_b1), (38, pgb_60_b2)]
set_option maxRecDepth 20000 in
theorem pgc_60 : pgB_60.all (fun q => q.2.all (pg_ok (pg_cc 60))) = true := by decide +kernel
/-- MarkovDesk$Reader.place()I -/
def pgb_61_b0 : List pg_R := [(0, .aload_n 0, 1, 0), (1, .getfield 81, 4, 0), (4, .ifCond .lt 32, 7, 36), (7, .aload_n 0, 8, 0), (8, .getfield 81, 11, 0), (11, .aload_n 0, 12, 0), (12, .getfield 43, 15, 0), (15, .getfield 270, 18, 0)]
def pgb_61_b1 : List pg_R := [(18, .if_icmp .ge 18, 21, 36), (21, .aload_n 0, 22, 0), (22, .getfield 43, 25, 0), (25, .getfield 275, 28, 0), (28, .aload_n 0, 29, 0), (29, .getfield 81, 32, 0), (32, .iaload, 33, 0), (33, .goto 10, 36, 43)]
def pgb_61_b2 : List pg_R := [(36, .aload_n 0, 37, 0), (37, .getfield 43, 40, 0), (40, .getfield 277, 43, 0), (43, .ireturn, 44, 0)]
def pgB_61 : pg_Bk := [(18, pgb_61_b0), (36, pgb_61_b1), (44, pgb_61_b2)]
set_option maxRecDepth 20000 in
theorem pgc_61 : pgB_61.all (fun q => q.2.all (pg_ok (pg_cc 61))) = true := by decide +kernel
/-- MarkovDesk$Reader.take(I)V -/
def pgb_62_b0 : List pg_R := [(0, .aload_n 0, 1, 0), (1, .invokevirtual 118, 4, 0), (4, .iload_n 1, 5, 0), (5, .if_icmp .eq 11, 8, 16), (8, .aload_n 0, 9, 0), (9, .aload_n 0, 10, 0), (10, .invokevirtual 98, 13, 0), (13, .invokevirtual 74, 16, 0)]
def pgb_62_b1 : List pg_R := [(16, .aload_n 0, 17, 0), (17, .invokevirtual 84, 20, 0), (20, .return_, 21, 0)]
def pgB_62 : pg_Bk := [(16, pgb_62_b0), (21, pgb_62_b1)]
set_option maxRecDepth 20000 in
theorem pgc_62 : pgB_62.all (fun q => q.2.all (pg_ok (pg_cc 62))) = true := by decide +kernel
/-- MarkovDesk$Reader.readConstant()V -/
def pgb_63_b0 : List pg_R := [(0, .aload_n 0, 1, 0), (1, .bipush 6, 3, 0), (3, .invokevirtual 87, 6, 0), (6, .aload_n 0, 7, 0), (7, .bipush 7, 9, 0), (9, .invokevirtual 87, 12, 0), (12, .aload_n 0, 13, 0), (13, .invokevirtual 90, 16, 0)]
def pgb_63_b1 : List pg_R := [(16, .istore_n 1, 17, 0), (17, .aload_n 0, 18, 0), (18, .bipush 24, 20, 0), (20, .invokevirtual 87, 23, 0), (23, .aload_n 0, 24, 0), (24, .iconst 1, 25, 0), (25, .iconst 0, 26, 0), (26, .invokevirtual 94, 29, 0)]
def pgb_63_b2 : List pg_R := [(29, .istore_n 2, 30, 0), (30, .aload_n 0, 31, 0), (31, .invokevirtual 98, 34, 0), (34, .istore_n 3, 35, 0), (35, .aload_n 0, 36, 0), (36, .bipush 36, 38, 0), (38, .invokevirtual 87, 41, 0), (41, .aload_n 0, 42, 0)]
def pgb_63_b3 : List pg_R := [(42, .iload_n 1, 43, 0), (43, .iconst 0, 44, 0), (44, .aload_n 0, 45, 0), (45, .iload_n 2, 46, 0), (46, .iload_n 3, 47, 0), (47, .invokevirtual 101, 50, 0), (50, .invokevirtual 105, 53, 0), (53, .return_, 54, 0)]
def pgB_63 : pg_Bk := [(16, pgb_63_b0), (29, pgb_63_b1), (42, pgb_63_b2), (54, pgb_63_b3)]
set_option maxRecDepth 20000 in
theorem pgc_63 : pgB_63.all (fun q => q.2.all (pg_ok (pg_cc 63))) = true := by decide +kernel
