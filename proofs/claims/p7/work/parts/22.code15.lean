/-- MarkovDeskModel.baseOf(I)V -/
def pgb_264_b0 : List pg_R := [(0, .aload_n 0, 1, 0), (1, .getfield 300, 4, 0), (4, .invokevirtual 573, 7, 0), (7, .aload_n 0, 8, 0), (8, .getfield 175, 11, 0), (11, .iload_n 1, 12, 0), (12, .iaload, 13, 0), (13, .istore_n 2, 14, 0)]
def pgb_264_b1 : List pg_R := [(14, .iload_n 2, 15, 0), (15, .aload_n 0, 16, 0), (16, .getfield 175, 19, 0), (19, .iload_n 1, 20, 0), (20, .iconst 1, 21, 0), (21, .iadd, 22, 0), (22, .iaload, 23, 0), (23, .if_icmp .ge 94, 26, 117)]
def pgb_264_b2 : List pg_R := [(26, .aload_n 0, 27, 0), (27, .getfield 297, 30, 0), (30, .aload_n 0, 31, 0), (31, .getfield 203, 34, 0), (34, .iload_n 2, 35, 0), (35, .bipush 20, 37, 0), (37, .imul, 38, 0), (38, .bipush 20, 40, 0)]
def pgb_264_b3 : List pg_R := [(40, .invokevirtual 604, 43, 0), (43, .aload_n 0, 44, 0), (44, .aload_n 0, 45, 0), (45, .getfield 300, 48, 0), (48, .aload_n 0, 49, 0), (49, .getfield 297, 52, 0), (52, .invokevirtual 625, 55, 0), (55, .aload_n 0, 56, 0)]
def pgb_264_b4 : List pg_R := [(56, .getfield 239, 59, 0), (59, .aload_n 0, 60, 0), (60, .getfield 227, 63, 0), (63, .invokevirtual 615, 66, 0), (66, .aload_n 0, 67, 0), (67, .getfield 233, 70, 0), (70, .aload_n 0, 71, 0), (71, .getfield 297, 74, 0)]
def pgb_264_b5 : List pg_R := [(74, .aload_n 0, 75, 0), (75, .getfield 239, 78, 0), (78, .aload_n 0, 79, 0), (79, .getfield 236, 82, 0), (82, .invokevirtual 621, 85, 0), (85, .aload_n 0, 86, 0), (86, .getfield 239, 89, 0), (89, .aload_n 0, 90, 0)]
def pgb_264_b6 : List pg_R := [(90, .getfield 300, 93, 0), (93, .aload_n 0, 94, 0), (94, .getfield 233, 97, 0), (97, .invokevirtual 607, 100, 0), (100, .aload_n 0, 101, 0), (101, .getfield 300, 104, 0), (104, .aload_n 0, 105, 0), (105, .getfield 239, 108, 0)]
def pgb_264_b7 : List pg_R := [(108, .invokevirtual 615, 111, 0), (111, .iinc 2 1, 114, 0), (114, .goto (-100), 117, 14), (117, .return_, 118, 0)]
def pgB_264 : pg_Bk := [(14, pgb_264_b0), (26, pgb_264_b1), (40, pgb_264_b2), (56, pgb_264_b3), (74, pgb_264_b4), (90, pgb_264_b5), (108, pgb_264_b6), (118, pgb_264_b7)]
set_option maxRecDepth 20000 in
theorem pgc_264 : pgB_264.all (fun q => q.2.all (pg_ok (pg_cc 264))) = true := by decide +kernel
/-- MarkovDeskModel.chanceOf(ILMarkovDeskModel$Whole;)V -/
def pgb_265_b0 : List pg_R := [(0, .aload_n 0, 1, 0), (1, .getfield 297, 4, 0), (4, .aload_n 0, 5, 0), (5, .getfield 203, 8, 0), (8, .iload_n 1, 9, 0), (9, .bipush 20, 11, 0), (11, .imul, 12, 0), (12, .bipush 20, 14, 0)]
def pgb_265_b1 : List pg_R := [(14, .invokevirtual 604, 17, 0), (17, .aload_n 0, 18, 0), (18, .getfield 233, 21, 0), (21, .aload_n 0, 22, 0), (22, .getfield 300, 25, 0), (25, .aload_n 0, 26, 0), (26, .getfield 297, 29, 0), (29, .aload_n 0, 30, 0)]
def pgb_265_b2 : List pg_R := [(30, .getfield 236, 33, 0), (33, .invokevirtual 621, 36, 0), (36, .aload_n 0, 37, 0), (37, .getfield 294, 40, 0), (40, .aload_n 0, 41, 0), (41, .getfield 200, 44, 0), (44, .iload_n 1, 45, 0), (45, .bipush 20, 47, 0)]
def pgb_265_b3 : List pg_R := [(47, .imul, 48, 0), (48, .bipush 20, 50, 0), (50, .invokevirtual 604, 53, 0), (53, .aload_n 2, 54, 0), (54, .aload_n 0, 55, 0), (55, .getfield 233, 58, 0), (58, .aload_n 0, 59, 0), (59, .getfield 294, 62, 0)]
def pgb_265_b4 : List pg_R := [(62, .invokevirtual 607, 65, 0), (65, .return_, 66, 0)]
def pgB_265 : pg_Bk := [(14, pgb_265_b0), (30, pgb_265_b1), (47, pgb_265_b2), (62, pgb_265_b3), (66, pgb_265_b4)]
set_option maxRecDepth 20000 in
theorem pgc_265 : pgB_265.all (fun q => q.2.all (pg_ok (pg_cc 265))) = true := by decide +kernel
/-- MarkovDeskModel$Whole.less(LMarkovDeskModel$Whole;)V -/
def pgb_266_b0 : List pg_R := [(0, .iconst 0, 1, 0), (1, .istore_n 2, 2, 0), (2, .iconst 0, 3, 0), (3, .istore_n 3, 4, 0), (4, .iload_n 3, 5, 0), (5, .aload_n 0, 6, 0), (6, .getfield 13, 9, 0), (9, .if_icmp .ge 52, 12, 61)]
def pgb_266_b1 : List pg_R := [(12, .iload_n 2, 13, 0), (13, .aload_n 0, 14, 0), (14, .getfield 7, 17, 0), (17, .iload_n 3, 18, 0), (18, .iaload, 19, 0), (19, .iload_n 3, 20, 0), (20, .aload_n 1, 21, 0), (21, .getfield 13, 24, 0)]
def pgb_266_b2 : List pg_R := [(24, .if_icmp .ge 12, 27, 36), (27, .aload_n 1, 28, 0), (28, .getfield 7, 31, 0), (31, .iload_n 3, 32, 0), (32, .iaload, 33, 0), (33, .goto 4, 36, 37), (36, .iconst 0, 37, 0), (37, .isub, 38, 0)]
def pgb_266_b3 : List pg_R := [(38, .iadd, 39, 0), (39, .istore_n 2, 40, 0), (40, .aload_n 0, 41, 0), (41, .getfield 7, 44, 0), (44, .iload_n 3, 45, 0), (45, .iload_n 2, 46, 0), (46, .ldc 26, 48, 0), (48, .iand, 49, 0)]
def pgb_266_b4 : List pg_R := [(49, .iastore, 50, 0), (50, .iload_n 2, 51, 0), (51, .bipush 16, 53, 0), (53, .ishr, 54, 0), (54, .istore_n 2, 55, 0), (55, .iinc 3 1, 58, 0), (58, .goto (-54), 61, 4), (61, .aload_n 0, 62, 0)]
def pgb_266_b5 : List pg_R := [(62, .invokevirtual 23, 65, 0), (65, .return_, 66, 0)]
def pgB_266 : pg_Bk := [(12, pgb_266_b0), (24, pgb_266_b1), (38, pgb_266_b2), (49, pgb_266_b3), (62, pgb_266_b4), (66, pgb_266_b5)]
set_option maxRecDepth 20000 in
theorem pgc_266 : pgB_266.all (fun q => q.2.all (pg_ok (pg_cc 266))) = true := by decide +kernel
/-- MarkovDeskModel.step(LMarkovDeskModel$Whole;LMarkovDeskModel$Whole;LMarkovDeskModel$Whole;IZ)V -/
def pgb_267_b0 : List pg_R := [(0, .aload_n 0, 1, 0), (1, .getfield 315, 4, 0), (4, .aload_n 1, 5, 0), (5, .aload_n 0, 6, 0), (6, .getfield 279, 9, 0), (9, .iload 4, 11, 0), (11, .aaload, 12, 0), (12, .invokevirtual 607, 15, 0)]
def pgb_267_b1 : List pg_R := [(15, .aload_n 0, 16, 0), (16, .getfield 318, 19, 0), (19, .aload_n 2, 20, 0), (20, .aload_n 3, 21, 0), (21, .invokevirtual 607, 24, 0), (24, .iload 5, 26, 0), (26, .ifCond .eq 17, 29, 43), (29, .aload_n 0, 30, 0)]
def pgb_267_b2 : List pg_R := [(30, .getfield 315, 33, 0), (33, .aload_n 0, 34, 0), (34, .getfield 318, 37, 0), (37, .invokevirtual 642, 40, 0), (40, .goto 14, 43, 54), (43, .aload_n 0, 44, 0), (44, .getfield 315, 47, 0), (47, .aload_n 0, 48, 0)]
def pgb_267_b3 : List pg_R := [(48, .getfield 318, 51, 0), (51, .invokevirtual 611, 54, 0), (54, .aload_n 0, 55, 0), (55, .getfield 233, 58, 0), (58, .aload_n 0, 59, 0), (59, .getfield 315, 62, 0), (62, .aload_n 0, 63, 0), (63, .getfield 321, 66, 0)]
def pgb_267_b4 : List pg_R := [(66, .aload_n 0, 67, 0), (67, .getfield 236, 70, 0), (70, .invokevirtual 621, 73, 0), (73, .aload_n 1, 74, 0), (74, .aload_n 0, 75, 0), (75, .getfield 233, 78, 0), (78, .invokevirtual 615, 81, 0), (81, .return_, 82, 0)]
def pgB_267 : pg_Bk := [(15, pgb_267_b0), (30, pgb_267_b1), (48, pgb_267_b2), (66, pgb_267_b3), (82, pgb_267_b4)]
set_option maxRecDepth 20000 in
theorem pgc_267 : pgB_267.all (fun q => q.2.all (pg_ok (pg_cc 267))) = true := by decide +kernel
/-- MarkovDeskModel.sumOf(II)V -/
def pgb_268_b0 : List pg_R := [(0, .aload_n 0, 1, 0), (1, .iload_n 2, 2, 0), (2, .invokevirtual 635, 5, 0), (5, .aload_n 0, 6, 0), (6, .getfield 312, 9, 0), (9, .aload_n 0, 10, 0), (10, .getfield 300, 13, 0), (13, .invokevirtual 615, 16, 0)]
def pgb_268_b1 : List pg_R := [(16, .aload_n 0, 17, 0), (17, .getfield 309, 20, 0), (20, .iconst 0, 21, 0), (21, .putfield 570, 24, 0), (24, .aload_n 0, 25, 0), (25, .getfield 175, 28, 0), (28, .iload_n 2, 29, 0), (29, .iaload, 30, 0)]
def pgb_268_b2 : List pg_R := [(30, .istore_n 3, 31, 0), (31, .iload_n 3, 32, 0), (32, .aload_n 0, 33, 0), (33, .getfield 175, 36, 0), (36, .iload_n 2, 37, 0), (37, .iconst 1, 38, 0), (38, .iadd, 39, 0), (39, .iaload, 40, 0)]
def pgb_268_b3 : List pg_R := [(40, .if_icmp .ge 56, 43, 96), (43, .aload_n 0, 44, 0), (44, .iload_n 3, 45, 0), (45, .aload_n 0, 46, 0), (46, .getfield 239, 49, 0), (49, .invokevirtual 638, 52, 0), (52, .aload_n 0, 53, 0), (53, .getfield 315, 56, 0)]
def pgb_268_b4 : List pg_R := [(56, .aload_n 0, 57, 0), (57, .getfield 239, 60, 0), (60, .aload_n 0, 61, 0), (61, .getfield 266, 64, 0), (64, .iload_n 1, 65, 0), (65, .bipush 24, 67, 0), (67, .imul, 68, 0), (68, .aload_n 0, 69, 0)]
def pgb_268_b5 : List pg_R := [(69, .getfield 178, 72, 0), (72, .iload_n 3, 73, 0), (73, .iaload, 74, 0), (74, .iadd, 75, 0), (75, .aaload, 76, 0), (76, .invokevirtual 607, 79, 0), (79, .aload_n 0, 80, 0), (80, .getfield 309, 83, 0)]
def pgb_268_b6 : List pg_R := [(83, .aload_n 0, 84, 0), (84, .getfield 315, 87, 0), (87, .invokevirtual 611, 90, 0), (90, .iinc 3 1, 93, 0), (93, .goto (-62), 96, 31), (96, .return_, 97, 0)]
def pgB_268 : pg_Bk := [(16, pgb_268_b0), (30, pgb_268_b1), (40, pgb_268_b2), (56, pgb_268_b3), (69, pgb_268_b4), (83, pgb_268_b5), (97, pgb_268_b6)]
set_option maxRecDepth 20000 in
theorem pgc_268 : pgB_268.all (fun q => q.2.all (pg_ok (pg_cc 268))) = true := by decide +kernel
/-- MarkovDeskModel.value(ZI)Z -/
def pgb_269_0_b0 : List pg_R := [(0, .aload_n 0, 1, 0), (1, .iconst 0, 2, 0), (2, .putfield 339, 5, 0), (5, .iload_n 1, 6, 0), (6, .ifCond .eq 7, 9, 13), (9, .iconst 1, 10, 0), (10, .goto 4, 13, 14), (13, .iconst 0, 14, 0)]
def pgb_269_0_b1 : List pg_R := [(14, .istore_n 3, 15, 0), (15, .aload_n 0, 16, 0), (16, .aload_n 0, 17, 0), (17, .getfield 353, 20, 0), (20, .ifCond .eq 12, 23, 32), (23, .aload_n 0, 24, 0), (24, .getfield 242, 27, 0), (27, .iload_n 3, 28, 0)]
def pgb_269_0_b2 : List pg_R := [(28, .baload, 29, 0), (29, .ifCond .ne 7, 32, 36), (32, .iconst 1, 33, 0), (33, .goto 4, 36, 37), (36, .iconst 0, 37, 0), (37, .iconst 1, 38, 0), (38, .invokevirtual 345, 41, 0), (41, .ifCond .ne 30, 44, 71)]
def pgb_269_0_b3 : List pg_R := [(44, .aload_n 0, 45, 0), (45, .iload_n 2, 46, 0), (46, .iconst 0, 47, 0), (47, .aload_n 0, 48, 0), (48, .getfield 555, 51, 0), (51, .iconst 1, 52, 0), (52, .isub, 53, 0), (53, .invokestatic 359, 56, 0)]
def pgb_269_0_b4 : List pg_R := [(56, .ifCond .ne 7, 59, 63), (59, .iconst 1, 60, 0), (60, .goto 4, 63, 64), (63, .iconst 0, 64, 0), (64, .iconst 2, 65, 0), (65, .invokevirtual 345, 68, 0), (68, .ifCond .eq 5, 71, 73), (71, .iconst 0, 72, 0)]
def pgb_269_0_b5 : List pg_R := [(72, .ireturn, 73, 0), (73, .aload_n 0, 74, 0), (74, .getfield 324, 77, 0), (77, .aload_n 0, 78, 0), (78, .getfield 266, 81, 0), (81, .iload_n 3, 82, 0), (82, .bipush 24, 84, 0), (84, .imul, 85, 0)]
def pgb_269_0_b6 : List pg_R := [(85, .iload_n 2, 86, 0), (86, .iadd, 87, 0), (87, .aaload, 88, 0), (88, .invokevirtual 615, 91, 0), (91, .aload_n 0, 92, 0), (92, .getfield 327, 95, 0), (95, .aload_n 0, 96, 0), (96, .getfield 270, 99, 0)]
def pgb_269_0_b7 : List pg_R := [(99, .iload_n 3, 100, 0), (100, .aaload, 101, 0), (101, .invokevirtual 615, 104, 0), (104, .aload_n 0, 105, 0)]
def pgB_269_0 : pg_Bk := [(14, pgb_269_0_b0), (28, pgb_269_0_b1), (44, pgb_269_0_b2), (56, pgb_269_0_b3), (72, pgb_269_0_b4), (85, pgb_269_0_b5), (99, pgb_269_0_b6), (105, pgb_269_0_b7)]
set_option maxRecDepth 20000 in
theorem pgc_269_0 : pgB_269_0.all (fun q => q.2.all (pg_ok (pg_cc 269))) = true := by decide +kernel
/-- MarkovDeskModel.value(ZI)Z -/
def pgb_269_1_b0 : List pg_R := [(105, .aload_n 0, 106, 0), (106, .getfield 324, 109, 0), (109, .aload_n 0, 110, 0), (110, .getfield 327, 113, 0), (113, .invokevirtual 618, 116, 0), (116, .aload_n 0, 117, 0), (117, .getfield 324, 120, 0), (120, .aload_n 0, 121, 0)]
def pgb_269_1_b1 : List pg_R := [(121, .getfield 327, 124, 0), (124, .invokevirtual 656, 127, 0), (127, .ifCond .ne 7, 130, 134), (130, .iconst 1, 131, 0), (131, .goto 4, 134, 135), (134, .iconst 0, 135, 0), (135, .ireturn, 136, 0)]
def pgB_269_1 : pg_Bk := [(121, pgb_269_1_b0), (136, pgb_269_1_b1)]
set_option maxRecDepth 20000 in
theorem pgc_269_1 : pgB_269_1.all (fun q => q.2.all (pg_ok (pg_cc 269))) = true := by decide +kernel
def pgB_269 : pg_Bk := pgB_269_0 ++ (pgB_269_1)
theorem pgc_269 : pgB_269.all (fun q => q.2.all (pg_ok (pg_cc 269))) = true := pg_all2 pgc_269_0 (pgc_269_1)
/-- MarkovDeskModel.within(ZII)Z -/
def pgb_270_0_b0 : List pg_R := [(0, .aload_n 0, 1, 0), (1, .iconst 0, 2, 0), (2, .putfield 339, 5, 0), (5, .iload_n 1, 6, 0), (6, .ifCond .eq 7, 9, 13), (9, .iconst 1, 10, 0), (10, .goto 4, 13, 14), (13, .iconst 0, 14, 0)]
def pgb_270_0_b1 : List pg_R := [(14, .istore 4, 16, 0), (16, .aload_n 0, 17, 0), (17, .iload_n 3, 18, 0), (18, .iconst 0, 19, 0), (19, .bipush 12, 21, 0), (21, .invokestatic 359, 24, 0), (24, .ifCond .ne 7, 27, 31), (27, .iconst 1, 28, 0)]
def pgb_270_0_b2 : List pg_R := [(28, .goto 4, 31, 32), (31, .iconst 0, 32, 0), (32, .iconst 1, 33, 0), (33, .invokevirtual 345, 36, 0), (36, .ifCond .ne 60, 39, 96), (39, .aload_n 0, 40, 0), (40, .aload_n 0, 41, 0), (41, .getfield 353, 44, 0)]
def pgb_270_0_b3 : List pg_R := [(44, .ifCond .eq 13, 47, 57), (47, .aload_n 0, 48, 0), (48, .getfield 242, 51, 0), (51, .iload 4, 53, 0), (53, .baload, 54, 0), (54, .ifCond .ne 7, 57, 61), (57, .iconst 1, 58, 0), (58, .goto 4, 61, 62)]
def pgb_270_0_b4 : List pg_R := [(61, .iconst 0, 62, 0), (62, .iconst 2, 63, 0), (63, .invokevirtual 345, 66, 0), (66, .ifCond .ne 30, 69, 96), (69, .aload_n 0, 70, 0), (70, .iload_n 2, 71, 0), (71, .iconst 0, 72, 0), (72, .aload_n 0, 73, 0)]
def pgb_270_0_b5 : List pg_R := [(73, .getfield 555, 76, 0), (76, .iconst 1, 77, 0), (77, .isub, 78, 0), (78, .invokestatic 359, 81, 0), (81, .ifCond .ne 7, 84, 88), (84, .iconst 1, 85, 0), (85, .goto 4, 88, 89), (88, .iconst 0, 89, 0)]
def pgb_270_0_b6 : List pg_R := [(89, .iconst 3, 90, 0), (90, .invokevirtual 345, 93, 0), (93, .ifCond .eq 5, 96, 98), (96, .iconst 0, 97, 0), (97, .ireturn, 98, 0), (98, .aload_n 0, 99, 0), (99, .getfield 330, 102, 0), (102, .invokevirtual 573, 105, 0)]
def pgb_270_0_b7 : List pg_R := [(105, .iconst 0, 106, 0), (106, .istore 5, 108, 0), (108, .iload 5, 110, 0), (110, .aload_n 0, 111, 0)]
def pgB_270_0 : pg_Bk := [(14, pgb_270_0_b0), (28, pgb_270_0_b1), (44, pgb_270_0_b2), (61, pgb_270_0_b3), (73, pgb_270_0_b4), (89, pgb_270_0_b5), (105, pgb_270_0_b6), (111, pgb_270_0_b7)]
set_option maxRecDepth 20000 in
theorem pgc_270_0 : pgB_270_0.all (fun q => q.2.all (pg_ok (pg_cc 270))) = true := by decide +kernel
/-- MarkovDeskModel.within(ZII)Z -/
def pgb_270_1_b0 : List pg_R := [(111, .getfield 555, 114, 0), (114, .if_icmp .ge 102, 117, 216), (117, .aload_n 0, 118, 0), (118, .aload_n 0, 119, 0), (119, .getfield 172, 122, 0), (122, .iload 5, 124, 0), (124, .iaload, 125, 0), (125, .aload_n 0, 126, 0)]
def pgb_270_1_b1 : List pg_R := [(126, .getfield 251, 129, 0), (129, .iload 4, 131, 0), (131, .bipush 24, 133, 0), (133, .imul, 134, 0), (134, .iload 5, 136, 0), (136, .iadd, 137, 0), (137, .iaload, 138, 0), (138, .iadd, 139, 0)]
def pgb_270_1_b2 : List pg_R := [(139, .invokevirtual 635, 142, 0), (142, .aload_n 0, 143, 0), (143, .aload_n 0, 144, 0), (144, .getfield 330, 147, 0), (147, .aload_n 0, 148, 0), (148, .getfield 300, 151, 0), (151, .invokevirtual 625, 154, 0), (154, .aload_n 0, 155, 0)]
def pgb_270_1_b3 : List pg_R := [(155, .getfield 239, 158, 0), (158, .aload_n 0, 159, 0), (159, .getfield 227, 162, 0), (162, .invokevirtual 615, 165, 0), (165, .aload_n 0, 166, 0), (166, .getfield 233, 169, 0), (169, .aload_n 0, 170, 0), (170, .getfield 300, 173, 0)]
def pgb_270_1_b4 : List pg_R := [(173, .aload_n 0, 174, 0), (174, .getfield 239, 177, 0), (177, .aload_n 0, 178, 0), (178, .getfield 236, 181, 0), (181, .invokevirtual 621, 184, 0), (184, .aload_n 0, 185, 0), (185, .getfield 239, 188, 0), (188, .aload_n 0, 189, 0)]
def pgb_270_1_b5 : List pg_R := [(189, .getfield 330, 192, 0), (192, .aload_n 0, 193, 0), (193, .getfield 233, 196, 0), (196, .invokevirtual 607, 199, 0), (199, .aload_n 0, 200, 0), (200, .getfield 330, 203, 0), (203, .aload_n 0, 204, 0), (204, .getfield 239, 207, 0)]
def pgb_270_1_b6 : List pg_R := [(207, .invokevirtual 615, 210, 0), (210, .iinc 5 1, 213, 0), (213, .goto (-105), 216, 108), (216, .aload_n 0, 217, 0), (217, .getfield 327, 220, 0), (220, .invokevirtual 573, 223, 0), (223, .iconst 0, 224, 0), (224, .istore 5, 226, 0)]
def pgb_270_1_b7 : List pg_R := [(226, .iload 5, 228, 0), (228, .aload_n 0, 229, 0), (229, .getfield 555, 232, 0), (232, .if_icmp .ge 40, 235, 272)]
def pgB_270_1 : pg_Bk := [(126, pgb_270_1_b0), (139, pgb_270_1_b1), (155, pgb_270_1_b2), (173, pgb_270_1_b3), (189, pgb_270_1_b4), (207, pgb_270_1_b5), (226, pgb_270_1_b6), (233, pgb_270_1_b7)]
set_option maxRecDepth 20000 in
theorem pgc_270_1 : pgB_270_1.all (fun q => q.2.all (pg_ok (pg_cc 270))) = true := by decide +kernel
/-- MarkovDeskModel.within(ZII)Z -/
def pgb_270_2_b0 : List pg_R := [(235, .aload_n 0, 236, 0), (236, .getfield 288, 239, 0), (239, .iload 5, 241, 0), (241, .aaload, 242, 0), (242, .iconst 0, 243, 0), (243, .putfield 570, 246, 0), (246, .aload_n 0, 247, 0), (247, .getfield 193, 250, 0)]
def pgb_270_2_b1 : List pg_R := [(250, .iload 5, 252, 0), (252, .baload, 253, 0), (253, .ifCond .eq 13, 256, 266), (256, .aload_n 0, 257, 0), (257, .getfield 288, 260, 0), (260, .iload 5, 262, 0), (262, .aaload, 263, 0), (263, .invokevirtual 573, 266, 0)]
def pgb_270_2_b2 : List pg_R := [(266, .iinc 5 1, 269, 0), (269, .goto (-43), 272, 226), (272, .iconst 0, 273, 0), (273, .istore 5, 275, 0), (275, .iload 5, 277, 0), (277, .iload_n 3, 278, 0), (278, .if_icmp .ge 292, 281, 570), (281, .iconst 0, 282, 0)]
def pgb_270_2_b3 : List pg_R := [(282, .istore 6, 284, 0), (284, .iload 6, 286, 0), (286, .aload_n 0, 287, 0), (287, .getfield 555, 290, 0), (290, .if_icmp .ge 213, 293, 503), (293, .aload_n 0, 294, 0), (294, .getfield 291, 297, 0), (297, .iload 6, 299, 0)]
def pgb_270_2_b4 : List pg_R := [(299, .aaload, 300, 0), (300, .iconst 0, 301, 0), (301, .putfield 570, 304, 0), (304, .aload_n 0, 305, 0), (305, .getfield 193, 308, 0), (308, .iload 6, 310, 0), (310, .baload, 311, 0), (311, .ifCond .eq 27, 314, 338)]
def pgb_270_2_b5 : List pg_R := [(314, .aload_n 0, 315, 0), (315, .getfield 291, 318, 0), (318, .iload 6, 320, 0), (320, .aaload, 321, 0), (321, .aload_n 0, 322, 0), (322, .getfield 288, 325, 0), (325, .iload 6, 327, 0), (327, .aaload, 328, 0)]
def pgb_270_2_b6 : List pg_R := [(328, .aload_n 0, 329, 0), (329, .getfield 330, 332, 0), (332, .invokevirtual 607, 335, 0), (335, .goto 162, 338, 497), (338, .aload_n 0, 339, 0), (339, .getfield 172, 342, 0), (342, .iload 6, 344, 0), (344, .iaload, 345, 0)]
def pgb_270_2_b7 : List pg_R := [(345, .aload_n 0, 346, 0), (346, .getfield 251, 349, 0), (349, .iload 4, 351, 0), (351, .bipush 24, 353, 0)]
def pgB_270_2 : pg_Bk := [(250, pgb_270_2_b0), (266, pgb_270_2_b1), (282, pgb_270_2_b2), (299, pgb_270_2_b3), (314, pgb_270_2_b4), (328, pgb_270_2_b5), (345, pgb_270_2_b6), (352, pgb_270_2_b7)]
set_option maxRecDepth 20000 in
theorem pgc_270_2 : pgB_270_2.all (fun q => q.2.all (pg_ok (pg_cc 270))) = true := by decide +kernel
/-- MarkovDeskModel.within(ZII)Z -/
def pgb_270_3_b0 : List pg_R := [(353, .imul, 354, 0), (354, .iload 6, 356, 0), (356, .iadd, 357, 0), (357, .iaload, 358, 0), (358, .iadd, 359, 0), (359, .istore 7, 361, 0), (361, .aload_n 0, 362, 0), (362, .getfield 175, 365, 0)]
def pgb_270_3_b1 : List pg_R := [(365, .iload 7, 367, 0), (367, .iaload, 368, 0), (368, .istore 8, 370, 0), (370, .iload 8, 372, 0), (372, .aload_n 0, 373, 0), (373, .getfield 175, 376, 0), (376, .iload 7, 378, 0), (378, .iconst 1, 379, 0)]
def pgb_270_3_b2 : List pg_R := [(379, .iadd, 380, 0), (380, .iaload, 381, 0), (381, .if_icmp .ge 116, 384, 497), (384, .aload_n 0, 385, 0), (385, .getfield 297, 388, 0), (388, .aload_n 0, 389, 0), (389, .getfield 203, 392, 0), (392, .iload 8, 394, 0)]
def pgb_270_3_b3 : List pg_R := [(394, .bipush 20, 396, 0), (396, .imul, 397, 0), (397, .bipush 20, 399, 0), (399, .invokevirtual 604, 402, 0), (402, .aload_n 0, 403, 0), (403, .getfield 233, 406, 0), (406, .aload_n 0, 407, 0), (407, .getfield 330, 410, 0)]
def pgb_270_3_b4 : List pg_R := [(410, .aload_n 0, 411, 0), (411, .getfield 297, 414, 0), (414, .aload_n 0, 415, 0), (415, .getfield 236, 418, 0), (418, .invokevirtual 621, 421, 0), (421, .aload_n 0, 422, 0), (422, .getfield 294, 425, 0), (425, .aload_n 0, 426, 0)]
def pgb_270_3_b5 : List pg_R := [(426, .getfield 200, 429, 0), (429, .iload 8, 431, 0), (431, .bipush 20, 433, 0), (433, .imul, 434, 0), (434, .bipush 20, 436, 0), (436, .invokevirtual 604, 439, 0), (439, .aload_n 0, 440, 0), (440, .getfield 239, 443, 0)]
def pgb_270_3_b6 : List pg_R := [(443, .aload_n 0, 444, 0), (444, .getfield 233, 447, 0), (447, .aload_n 0, 448, 0), (448, .getfield 294, 451, 0), (451, .invokevirtual 607, 454, 0), (454, .aload_n 0, 455, 0), (455, .getfield 233, 458, 0), (458, .aload_n 0, 459, 0)]
def pgb_270_3_b7 : List pg_R := [(459, .getfield 239, 462, 0), (462, .aload_n 0, 463, 0), (463, .getfield 288, 466, 0), (466, .aload_n 0, 467, 0)]
def pgB_270_3 : pg_Bk := [(365, pgb_270_3_b0), (379, pgb_270_3_b1), (394, pgb_270_3_b2), (410, pgb_270_3_b3), (426, pgb_270_3_b4), (443, pgb_270_3_b5), (459, pgb_270_3_b6), (467, pgb_270_3_b7)]
set_option maxRecDepth 20000 in
theorem pgc_270_3 : pgB_270_3.all (fun q => q.2.all (pg_ok (pg_cc 270))) = true := by decide +kernel
/-- MarkovDeskModel.within(ZII)Z -/
def pgb_270_4_b0 : List pg_R := [(467, .getfield 178, 470, 0), (470, .iload 8, 472, 0), (472, .iaload, 473, 0), (473, .aaload, 474, 0), (474, .invokevirtual 607, 477, 0), (477, .aload_n 0, 478, 0), (478, .getfield 291, 481, 0), (481, .iload 6, 483, 0)]
def pgb_270_4_b1 : List pg_R := [(483, .aaload, 484, 0), (484, .aload_n 0, 485, 0), (485, .getfield 233, 488, 0), (488, .invokevirtual 611, 491, 0), (491, .iinc 8 1, 494, 0), (494, .goto (-124), 497, 370), (497, .iinc 6 1, 500, 0), (500, .goto (-216), 503, 284)]
def pgb_270_4_b2 : List pg_R := [(503, .iconst 0, 504, 0), (504, .istore 6, 506, 0), (506, .iload 6, 508, 0), (508, .aload_n 0, 509, 0), (509, .getfield 555, 512, 0), (512, .if_icmp .ge 26, 515, 538), (515, .aload_n 0, 516, 0), (516, .getfield 288, 519, 0)]
def pgb_270_4_b3 : List pg_R := [(519, .iload 6, 521, 0), (521, .aaload, 522, 0), (522, .aload_n 0, 523, 0), (523, .getfield 291, 526, 0), (526, .iload 6, 528, 0), (528, .aaload, 529, 0), (529, .invokevirtual 615, 532, 0), (532, .iinc 6 1, 535, 0)]
def pgb_270_4_b4 : List pg_R := [(535, .goto (-29), 538, 506), (538, .aload_n 0, 539, 0), (539, .getfield 239, 542, 0), (542, .aload_n 0, 543, 0), (543, .getfield 327, 546, 0), (546, .aload_n 0, 547, 0), (547, .getfield 330, 550, 0), (550, .invokevirtual 607, 553, 0)]
def pgb_270_4_b5 : List pg_R := [(553, .aload_n 0, 554, 0), (554, .getfield 327, 557, 0), (557, .aload_n 0, 558, 0), (558, .getfield 239, 561, 0), (561, .invokevirtual 615, 564, 0), (564, .iinc 5 1, 567, 0), (567, .goto (-292), 570, 275), (570, .aload_n 0, 571, 0)]
def pgb_270_4_b6 : List pg_R := [(571, .getfield 324, 574, 0), (574, .aload_n 0, 575, 0), (575, .getfield 288, 578, 0), (578, .iload_n 2, 579, 0), (579, .aaload, 580, 0), (580, .invokevirtual 615, 583, 0), (583, .aload_n 0, 584, 0), (584, .aload_n 0, 585, 0)]
def pgb_270_4_b7 : List pg_R := [(585, .getfield 324, 588, 0), (588, .aload_n 0, 589, 0), (589, .getfield 327, 592, 0), (592, .invokevirtual 618, 595, 0)]
def pgB_270_4 : pg_Bk := [(483, pgb_270_4_b0), (503, pgb_270_4_b1), (519, pgb_270_4_b2), (535, pgb_270_4_b3), (553, pgb_270_4_b4), (571, pgb_270_4_b5), (585, pgb_270_4_b6), (593, pgb_270_4_b7)]
set_option maxRecDepth 20000 in
theorem pgc_270_4 : pgB_270_4.all (fun q => q.2.all (pg_ok (pg_cc 270))) = true := by decide +kernel
/-- MarkovDeskModel.within(ZII)Z -/
def pgb_270_5_b0 : List pg_R := [(595, .aload_n 0, 596, 0), (596, .getfield 324, 599, 0), (599, .getfield 570, 602, 0), (602, .ifCond .ne 7, 605, 609), (605, .iconst 1, 606, 0), (606, .goto 4, 609, 610), (609, .iconst 0, 610, 0), (610, .ireturn, 611, 0)]
def pgB_270_5 : pg_Bk := [(611, pgb_270_5_b0)]
set_option maxRecDepth 20000 in
theorem pgc_270_5 : pgB_270_5.all (fun q => q.2.all (pg_ok (pg_cc 270))) = true := by decide +kernel
def pgB_270 : pg_Bk := pgB_270_0 ++ (pgB_270_1 ++ (pgB_270_2 ++ (pgB_270_3 ++ (pgB_270_4 ++ (pgB_270_5)))))
theorem pgc_270 : pgB_270.all (fun q => q.2.all (pg_ok (pg_cc 270))) = true := pg_all2 pgc_270_0 (pg_all2 pgc_270_1 (pg_all2 pgc_270_2 (pg_all2 pgc_270_3 (pg_all2 pgc_270_4 (pgc_270_5)))))
/-- MarkovDeskModel.claim(IJJ)V -/
def pgb_271_b0 : List pg_R := [(0, .aload_n 0, 1, 0), (1, .iconst 0, 2, 0), (2, .putfield 339, 5, 0), (5, .aload_n 0, 6, 0), (6, .lload 4, 8, 0), (8, .lconst 0, 9, 0), (9, .lcmp, 10, 0), (10, .ifCond .le 9, 13, 19)]
def pgb_271_b1 : List pg_R := [(13, .lload_n 2, 14, 0), (14, .lconst 0, 15, 0), (15, .lcmp, 16, 0), (16, .ifCond .ge 7, 19, 23), (19, .iconst 1, 20, 0), (20, .goto 4, 23, 24), (23, .iconst 0, 24, 0), (24, .iconst 1, 25, 0)]
def pgb_271_b2 : List pg_R := [(25, .invokevirtual 345, 28, 0), (28, .ifCond .ne 50, 31, 78), (31, .aload_n 0, 32, 0), (32, .aload_n 0, 33, 0), (33, .getfield 353, 36, 0), (36, .ifCond .ne 7, 39, 43), (39, .iconst 1, 40, 0), (40, .goto 4, 43, 44)]
def pgb_271_b3 : List pg_R := [(43, .iconst 0, 44, 0), (44, .iconst 2, 45, 0), (45, .invokevirtual 345, 48, 0), (48, .ifCond .ne 30, 51, 78), (51, .aload_n 0, 52, 0), (52, .iload_n 1, 53, 0), (53, .iconst 0, 54, 0), (54, .aload_n 0, 55, 0)]
def pgb_271_b4 : List pg_R := [(55, .getfield 555, 58, 0), (58, .iconst 1, 59, 0), (59, .isub, 60, 0), (60, .invokestatic 359, 63, 0), (63, .ifCond .ne 7, 66, 70), (66, .iconst 1, 67, 0), (67, .goto 4, 70, 71), (70, .iconst 0, 71, 0)]
def pgb_271_b5 : List pg_R := [(71, .iconst 3, 72, 0), (72, .invokevirtual 345, 75, 0), (75, .ifCond .eq 4, 78, 79), (78, .return_, 79, 0), (79, .aload_n 0, 80, 0), (80, .getfield 282, 83, 0), (83, .iload_n 1, 84, 0), (84, .aaload, 85, 0)]
def pgb_271_b6 : List pg_R := [(85, .lload_n 2, 86, 0), (86, .invokevirtual 597, 89, 0), (89, .aload_n 0, 90, 0), (90, .getfield 285, 93, 0), (93, .iload_n 1, 94, 0), (94, .aaload, 95, 0), (95, .lload 4, 97, 0), (97, .invokevirtual 597, 100, 0)]
def pgb_271_b7 : List pg_R := [(100, .return_, 101, 0)]
def pgB_271 : pg_Bk := [(13, pgb_271_b0), (25, pgb_271_b1), (43, pgb_271_b2), (55, pgb_271_b3), (71, pgb_271_b4), (85, pgb_271_b5), (100, pgb_271_b6), (101, pgb_271_b7)]
set_option maxRecDepth 20000 in
theorem pgc_271 : pgB_271.all (fun q => q.2.all (pg_ok (pg_cc 271))) = true := by decide +kernel
/-- MarkovDeskModel.claimResult(I)V -/
def pgb_272_b0 : List pg_R := [(0, .aload_n 0, 1, 0), (1, .iconst 0, 2, 0), (2, .putfield 339, 5, 0), (5, .aload_n 0, 6, 0), (6, .aload_n 0, 7, 0), (7, .getfield 353, 10, 0), (10, .ifCond .ne 7, 13, 17), (13, .iconst 1, 14, 0)]
def pgb_272_b1 : List pg_R := [(14, .goto 4, 17, 18), (17, .iconst 0, 18, 0), (18, .iconst 1, 19, 0), (19, .invokevirtual 345, 22, 0), (22, .ifCond .ne 56, 25, 78), (25, .aload_n 0, 26, 0), (26, .iload_n 1, 27, 0), (27, .iconst 0, 28, 0)]
def pgb_272_b2 : List pg_R := [(28, .aload_n 0, 29, 0), (29, .getfield 555, 32, 0), (32, .iconst 1, 33, 0), (33, .isub, 34, 0), (34, .invokestatic 359, 37, 0), (37, .ifCond .ne 7, 40, 44), (40, .iconst 1, 41, 0), (41, .goto 4, 44, 45)]
def pgb_272_b3 : List pg_R := [(44, .iconst 0, 45, 0), (45, .iconst 2, 46, 0), (46, .invokevirtual 345, 49, 0), (49, .ifCond .ne 29, 52, 78), (52, .aload_n 0, 53, 0), (53, .aload_n 0, 54, 0), (54, .getfield 327, 57, 0), (57, .invokevirtual 663, 60, 0)]
def pgb_272_b4 : List pg_R := [(60, .sipush 5000, 63, 0), (63, .if_icmp .le 7, 66, 70), (66, .iconst 1, 67, 0), (67, .goto 4, 70, 71), (70, .iconst 0, 71, 0), (71, .iconst 3, 72, 0), (72, .invokevirtual 345, 75, 0), (75, .ifCond .eq 4, 78, 79)]
def pgb_272_b5 : List pg_R := [(78, .return_, 79, 0), (79, .aload_n 0, 80, 0), (80, .getfield 282, 83, 0), (83, .iload_n 1, 84, 0), (84, .aaload, 85, 0), (85, .aload_n 0, 86, 0), (86, .getfield 324, 89, 0), (89, .invokevirtual 615, 92, 0)]
def pgb_272_b6 : List pg_R := [(92, .aload_n 0, 93, 0), (93, .getfield 285, 96, 0), (96, .iload_n 1, 97, 0), (97, .aaload, 98, 0), (98, .aload_n 0, 99, 0), (99, .getfield 327, 102, 0), (102, .invokevirtual 615, 105, 0), (105, .return_, 106, 0)]
def pgB_272 : pg_Bk := [(14, pgb_272_b0), (28, pgb_272_b1), (44, pgb_272_b2), (60, pgb_272_b3), (78, pgb_272_b4), (92, pgb_272_b5), (106, pgb_272_b6)]
set_option maxRecDepth 20000 in
theorem pgc_272 : pgB_272.all (fun q => q.2.all (pg_ok (pg_cc 272))) = true := by decide +kernel
/-- MarkovDeskModel$Whole.bits()I -/
def pgb_273_b0 : List pg_R := [(0, .aload_n 0, 1, 0), (1, .getfield 13, 4, 0), (4, .ifCond .ne 7, 7, 11), (7, .iconst 0, 8, 0), (8, .goto 12, 11, 20), (11, .bipush 16, 13, 0), (13, .aload_n 0, 14, 0), (14, .getfield 13, 17, 0)]
def pgb_273_b1 : List pg_R := [(17, .iconst 1, 18, 0), (18, .isub, 19, 0), (19, .imul, 20, 0), (20, .istore_n 1, 21, 0), (21, .aload_n 0, 22, 0), (22, .getfield 13, 25, 0), (25, .ifCond .ne 7, 28, 32), (28, .iconst 0, 29, 0)]
def pgb_273_b2 : List pg_R := [(29, .goto 14, 32, 43), (32, .aload_n 0, 33, 0), (33, .getfield 7, 36, 0), (36, .aload_n 0, 37, 0), (37, .getfield 13, 40, 0), (40, .iconst 1, 41, 0), (41, .isub, 42, 0), (42, .iaload, 43, 0)]
def pgb_273_b3 : List pg_R := [(43, .istore_n 2, 44, 0), (44, .iload_n 2, 45, 0), (45, .ifCond .eq 13, 48, 58), (48, .iinc 1 1, 51, 0), (51, .iload_n 2, 52, 0), (52, .iconst 1, 53, 0), (53, .ishr, 54, 0), (54, .istore_n 2, 55, 0)]
def pgb_273_b4 : List pg_R := [(55, .goto (-11), 58, 44), (58, .iload_n 1, 59, 0), (59, .ireturn, 60, 0)]
def pgB_273 : pg_Bk := [(17, pgb_273_b0), (29, pgb_273_b1), (43, pgb_273_b2), (55, pgb_273_b3), (60, pgb_273_b4)]
set_option maxRecDepth 20000 in
theorem pgc_273 : pgB_273.all (fun q => q.2.all (pg_ok (pg_cc 273))) = true := by decide +kernel
/-- MarkovDeskModel.check(Z)Z -/
def pgb_274_0_b0 : List pg_R := [(0, .aload_n 0, 1, 0), (1, .iconst 0, 2, 0), (2, .putfield 339, 5, 0), (5, .aload_n 0, 6, 0), (6, .aload_n 0, 7, 0), (7, .getfield 353, 10, 0), (10, .ifCond .ne 7, 13, 17), (13, .iconst 1, 14, 0)]
def pgb_274_0_b1 : List pg_R := [(14, .goto 4, 17, 18), (17, .iconst 0, 18, 0), (18, .iconst 1, 19, 0), (19, .invokevirtual 345, 22, 0), (22, .ifCond .eq 5, 25, 27), (25, .iconst 0, 26, 0), (26, .ireturn, 27, 0), (27, .iload_n 1, 28, 0)]
def pgb_274_0_b2 : List pg_R := [(28, .ifCond .eq 7, 31, 35), (31, .iconst 1, 32, 0), (32, .goto 4, 35, 36), (35, .iconst 0, 36, 0), (36, .istore_n 2, 37, 0), (37, .aload_n 0, 38, 0), (38, .iload_n 2, 39, 0), (39, .invokevirtual 660, 42, 0)]
def pgb_274_0_b3 : List pg_R := [(42, .iconst 0, 43, 0), (43, .istore_n 3, 44, 0), (44, .iload_n 3, 45, 0), (45, .aload_n 0, 46, 0), (46, .getfield 555, 49, 0), (49, .if_icmp .ge 68, 52, 117), (52, .aload_n 0, 53, 0), (53, .getfield 233, 56, 0)]
def pgb_274_0_b4 : List pg_R := [(56, .aload_n 0, 57, 0), (57, .getfield 282, 60, 0), (60, .iload_n 3, 61, 0), (61, .aaload, 62, 0), (62, .aload_n 0, 63, 0), (63, .getfield 270, 66, 0), (66, .iload_n 2, 67, 0), (67, .aaload, 68, 0)]
def pgb_274_0_b5 : List pg_R := [(68, .invokevirtual 607, 71, 0), (71, .aload_n 0, 72, 0), (72, .getfield 236, 75, 0), (75, .aload_n 0, 76, 0), (76, .getfield 285, 79, 0), (79, .iload_n 3, 80, 0), (80, .aaload, 81, 0), (81, .aload_n 0, 82, 0)]
def pgb_274_0_b6 : List pg_R := [(82, .getfield 266, 85, 0), (85, .iload_n 2, 86, 0), (86, .bipush 24, 88, 0), (88, .imul, 89, 0), (89, .iload_n 3, 90, 0), (90, .iadd, 91, 0), (91, .aaload, 92, 0), (92, .invokevirtual 607, 95, 0)]
def pgb_274_0_b7 : List pg_R := [(95, .aload_n 0, 96, 0), (96, .getfield 233, 99, 0), (99, .aload_n 0, 100, 0), (100, .getfield 236, 103, 0)]
def pgB_274_0 : pg_Bk := [(14, pgb_274_0_b0), (28, pgb_274_0_b1), (42, pgb_274_0_b2), (56, pgb_274_0_b3), (68, pgb_274_0_b4), (82, pgb_274_0_b5), (95, pgb_274_0_b6), (101, pgb_274_0_b7)]
set_option maxRecDepth 20000 in
theorem pgc_274_0 : pgB_274_0.all (fun q => q.2.all (pg_ok (pg_cc 274))) = true := by decide +kernel
/-- MarkovDeskModel.check(Z)Z -/
def pgb_274_1_b0 : List pg_R := [(103, .invokevirtual 656, 106, 0), (106, .ifCond .eq 5, 109, 111), (109, .iconst 0, 110, 0), (110, .ireturn, 111, 0), (111, .iinc 3 1, 114, 0), (114, .goto (-70), 117, 44), (117, .iconst 1, 118, 0), (118, .ireturn, 119, 0)]
def pgB_274_1 : pg_Bk := [(119, pgb_274_1_b0)]
set_option maxRecDepth 20000 in
theorem pgc_274_1 : pgB_274_1.all (fun q => q.2.all (pg_ok (pg_cc 274))) = true := by decide +kernel
def pgB_274 : pg_Bk := pgB_274_0 ++ (pgB_274_1)
theorem pgc_274 : pgB_274.all (fun q => q.2.all (pg_ok (pg_cc 274))) = true := pg_all2 pgc_274_0 (pgc_274_1)
/-- MarkovDeskModel.state(III)I -/
def pgb_275_0_b0 : List pg_R := [(0, .aload_n 0, 1, 0), (1, .iconst 0, 2, 0), (2, .putfield 339, 5, 0), (5, .aload_n 0, 6, 0), (6, .iload_n 2, 7, 0), (7, .iconst 0, 8, 0), (8, .iconst 5, 9, 0), (9, .invokestatic 359, 12, 0)]
def pgb_275_0_b1 : List pg_R := [(12, .ifCond .ne 7, 15, 19), (15, .iconst 1, 16, 0), (16, .goto 4, 19, 20), (19, .iconst 0, 20, 0), (20, .iconst 1, 21, 0), (21, .invokevirtual 345, 24, 0), (24, .ifCond .ne 70, 27, 94), (27, .aload_n 0, 28, 0)]
def pgb_275_0_b2 : List pg_R := [(28, .aload_n 0, 29, 0), (29, .getfield 353, 32, 0), (32, .ifCond .eq 23, 35, 55), (35, .iload_n 2, 36, 0), (36, .iconst 2, 37, 0), (37, .iconst 3, 38, 0), (38, .invokestatic 359, 41, 0), (41, .ifCond .eq 18, 44, 59)]
def pgb_275_0_b3 : List pg_R := [(44, .aload_n 0, 45, 0), (45, .getfield 242, 48, 0), (48, .iload_n 2, 49, 0), (49, .iconst 2, 50, 0), (50, .isub, 51, 0), (51, .baload, 52, 0), (52, .ifCond .ne 7, 55, 59), (55, .iconst 1, 56, 0)]
def pgb_275_0_b4 : List pg_R := [(56, .goto 4, 59, 60), (59, .iconst 0, 60, 0), (60, .iconst 2, 61, 0), (61, .invokevirtual 345, 64, 0), (64, .ifCond .ne 30, 67, 94), (67, .aload_n 0, 68, 0), (68, .iload_n 1, 69, 0), (69, .iconst 0, 70, 0)]
def pgb_275_0_b5 : List pg_R := [(70, .aload_n 0, 71, 0), (71, .getfield 555, 74, 0), (74, .iconst 1, 75, 0), (75, .isub, 76, 0), (76, .invokestatic 359, 79, 0), (79, .ifCond .ne 7, 82, 86), (82, .iconst 1, 83, 0), (83, .goto 4, 86, 87)]
def pgb_275_0_b6 : List pg_R := [(86, .iconst 0, 87, 0), (87, .iconst 3, 88, 0), (88, .invokevirtual 345, 91, 0), (91, .ifCond .eq 5, 94, 96), (94, .iconst 0, 95, 0), (95, .ireturn, 96, 0), (96, .aload_n 0, 97, 0), (97, .iload_n 1, 98, 0)]
def pgb_275_0_b7 : List pg_R := [(98, .invokevirtual 628, 101, 0), (101, .aload_n 0, 102, 0), (102, .getfield 172, 105, 0), (105, .iload_n 1, 106, 0)]
def pgB_275_0 : pg_Bk := [(12, pgb_275_0_b0), (28, pgb_275_0_b1), (44, pgb_275_0_b2), (56, pgb_275_0_b3), (70, pgb_275_0_b4), (86, pgb_275_0_b5), (98, pgb_275_0_b6), (106, pgb_275_0_b7)]
set_option maxRecDepth 20000 in
theorem pgc_275_0 : pgB_275_0.all (fun q => q.2.all (pg_ok (pg_cc 275))) = true := by decide +kernel
/-- MarkovDeskModel.state(III)I -/
def pgb_275_1_b0 : List pg_R := [(106, .iaload, 107, 0), (107, .isub, 108, 0), (108, .istore 4, 110, 0), (110, .aload_n 0, 111, 0), (111, .iload_n 3, 112, 0), (112, .iconst 0, 113, 0), (113, .iload_n 2, 114, 0), (114, .iconst 4, 115, 0)]
def pgb_275_1_b1 : List pg_R := [(115, .if_icmp .ge 7, 118, 122), (118, .iconst 0, 119, 0), (119, .goto 21, 122, 140), (122, .iload_n 2, 123, 0), (123, .iconst 4, 124, 0), (124, .if_icmp .ne 12, 127, 136), (127, .aload_n 0, 128, 0), (128, .getfield 493, 131, 0)]
def pgb_275_1_b2 : List pg_R := [(131, .iconst 1, 132, 0), (132, .isub, 133, 0), (133, .goto 7, 136, 140), (136, .iload 4, 138, 0), (138, .iconst 1, 139, 0), (139, .isub, 140, 0), (140, .invokestatic 359, 143, 0), (143, .ifCond .ne 7, 146, 150)]
def pgb_275_1_b3 : List pg_R := [(146, .iconst 1, 147, 0), (147, .goto 4, 150, 151), (150, .iconst 0, 151, 0), (151, .iconst 3, 152, 0), (152, .invokevirtual 345, 155, 0), (155, .ifCond .eq 5, 158, 160), (158, .iconst 0, 159, 0), (159, .ireturn, 160, 0)]
def pgb_275_1_b4 : List pg_R := [(160, .iload_n 2, 161, 0), (161, .tableswitch 82 0 4 #[35, 38, 53, 60, 70], 196, 0), (196, .iload 4, 198, 0), (198, .ireturn, 199, 0), (199, .aload_n 0, 200, 0), (200, .getfield 193, 203, 0), (203, .iload_n 1, 204, 0), (204, .baload, 205, 0)]
def pgb_275_1_b5 : List pg_R := [(205, .ifCond .eq 7, 208, 212), (208, .iconst 1, 209, 0), (209, .goto 4, 212, 213), (212, .iconst 0, 213, 0), (213, .ireturn, 214, 0), (214, .aload_n 0, 215, 0), (215, .getfield 251, 218, 0), (218, .iload_n 1, 219, 0)]
def pgb_275_1_b6 : List pg_R := [(219, .iaload, 220, 0), (220, .ireturn, 221, 0), (221, .aload_n 0, 222, 0), (222, .getfield 251, 225, 0), (225, .bipush 24, 227, 0), (227, .iload_n 1, 228, 0), (228, .iadd, 229, 0), (229, .iaload, 230, 0)]
def pgb_275_1_b7 : List pg_R := [(230, .ireturn, 231, 0), (231, .aload_n 0, 232, 0), (232, .getfield 169, 235, 0), (235, .bipush 8, 237, 0)]
def pgB_275_1 : pg_Bk := [(115, pgb_275_1_b0), (131, pgb_275_1_b1), (146, pgb_275_1_b2), (160, pgb_275_1_b3), (205, pgb_275_1_b4), (219, pgb_275_1_b5), (230, pgb_275_1_b6), (236, pgb_275_1_b7)]
set_option maxRecDepth 20000 in
theorem pgc_275_1 : pgB_275_1.all (fun q => q.2.all (pg_ok (pg_cc 275))) = true := by decide +kernel
/-- MarkovDeskModel.state(III)I -/
def pgb_275_2_b0 : List pg_R := [(237, .iload_n 1, 238, 0), (238, .imul, 239, 0), (239, .iload_n 3, 240, 0), (240, .iadd, 241, 0), (241, .iaload, 242, 0), (242, .ireturn, 243, 0), (243, .aload_n 0, 244, 0), (244, .getfield 175, 247, 0)]
def pgb_275_2_b1 : List pg_R := [(247, .aload_n 0, 248, 0), (248, .getfield 172, 251, 0), (251, .iload_n 1, 252, 0), (252, .iaload, 253, 0), (253, .iload_n 3, 254, 0), (254, .iadd, 255, 0), (255, .iconst 1, 256, 0), (256, .iadd, 257, 0)]
def pgb_275_2_b2 : List pg_R := [(257, .iaload, 258, 0), (258, .aload_n 0, 259, 0), (259, .getfield 175, 262, 0), (262, .aload_n 0, 263, 0), (263, .getfield 172, 266, 0), (266, .iload_n 1, 267, 0), (267, .iaload, 268, 0), (268, .iload_n 3, 269, 0)]
def pgb_275_2_b3 : List pg_R := [(269, .iadd, 270, 0), (270, .iaload, 271, 0), (271, .isub, 272, 0), (272, .ireturn, 273, 0)]
def pgB_275_2 : pg_Bk := [(247, pgb_275_2_b0), (257, pgb_275_2_b1), (269, pgb_275_2_b2), (273, pgb_275_2_b3)]
set_option maxRecDepth 20000 in
theorem pgc_275_2 : pgB_275_2.all (fun q => q.2.all (pg_ok (pg_cc 275))) = true := by decide +kernel
def pgB_275 : pg_Bk := pgB_275_0 ++ (pgB_275_1 ++ (pgB_275_2))
theorem pgc_275 : pgB_275.all (fun q => q.2.all (pg_ok (pg_cc 275))) = true := pg_all2 pgc_275_0 (pg_all2 pgc_275_1 (pgc_275_2))
