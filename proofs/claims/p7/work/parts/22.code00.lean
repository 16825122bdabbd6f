/-- MarkovDesk.<init>()V -/
def pgb_1_0_b0 : List pg_R := [(0, .aload_n 0, 1, 0), (1, .invokespecial 3, 4, 0), (4, .new 9, 7, 0), (7, .dup, 8, 0), (8, .invokespecial 11, 11, 0), (11, .astore_n 1, 12, 0), (12, .aload_n 0, 13, 0), (13, .new 12, 16, 0)]
def pgb_1_0_b1 : List pg_R := [(16, .dup, 17, 0), (17, .invokespecial 14, 20, 0), (20, .putfield 15, 23, 0), (23, .aload_n 0, 24, 0), (24, .new 19, 27, 0), (27, .dup, 28, 0), (28, .invokespecial 21, 31, 0), (31, .putfield 22, 34, 0)]
def pgb_1_0_b2 : List pg_R := [(34, .aload_n 0, 35, 0), (35, .new 26, 38, 0), (38, .dup, 39, 0), (39, .aload_n 0, 40, 0), (40, .getfield 15, 43, 0), (43, .aload_n 1, 44, 0), (44, .aload_n 0, 45, 0), (45, .getfield 22, 48, 0)]
def pgb_1_0_b3 : List pg_R := [(48, .invokespecial 28, 51, 0), (51, .putfield 31, 54, 0), (54, .aload_n 0, 55, 0), (55, .new 35, 58, 0), (58, .dup, 59, 0), (59, .aload_n 1, 60, 0), (60, .aload_n 0, 61, 0), (61, .getfield 22, 64, 0)]
def pgb_1_0_b4 : List pg_R := [(64, .invokespecial 37, 67, 0), (67, .putfield 40, 70, 0), (70, .aload_n 0, 71, 0), (71, .new 44, 74, 0), (74, .dup, 75, 0), (75, .aload_n 0, 76, 0), (76, .getfield 40, 79, 0), (79, .invokespecial 46, 82, 0)]
def pgb_1_0_b5 : List pg_R := [(82, .putfield 49, 85, 0), (85, .aload_n 0, 86, 0), (86, .new 53, 89, 0), (89, .dup, 90, 0), (90, .iconst 0, 91, 0), (91, .invokespecial 55, 94, 0), (94, .putfield 58, 97, 0), (97, .aload_n 0, 98, 0)]
def pgb_1_0_b6 : List pg_R := [(98, .new 53, 101, 0), (101, .dup, 102, 0), (102, .iconst 1, 103, 0), (103, .invokespecial 55, 106, 0), (106, .putfield 62, 109, 0), (109, .aload_n 0, 110, 0), (110, .new 65, 113, 0), (113, .dup, 114, 0)]
def pgb_1_0_b7 : List pg_R := [(114, .aload_n 0, 115, 0), (115, .getfield 40, 118, 0), (118, .invokespecial 67, 121, 0), (121, .putfield 68, 124, 0)]
def pgB_1_0 : pg_Bk := [(16, pgb_1_0_b0), (34, pgb_1_0_b1), (48, pgb_1_0_b2), (64, pgb_1_0_b3), (82, pgb_1_0_b4), (98, pgb_1_0_b5), (114, pgb_1_0_b6), (122, pgb_1_0_b7)]
set_option maxRecDepth 20000 in
theorem pgc_1_0 : pgB_1_0.all (fun q => q.2.all (pg_ok (pg_cc 1))) = true := by decide +kernel
/-- MarkovDesk.<init>()V -/
def pgb_1_1_b0 : List pg_R := [(124, .aload_n 0, 125, 0), (125, .new 72, 128, 0), (128, .dup, 129, 0), (129, .invokespecial 74, 132, 0), (132, .putfield 75, 135, 0), (135, .aload_n 0, 136, 0), (136, .bipush 24, 138, 0), (138, .anewarray 79, 141, 0)]
def pgb_1_1_b1 : List pg_R := [(141, .putfield 81, 144, 0), (144, .aload_n 0, 145, 0), (145, .bipush 24, 147, 0), (147, .anewarray 79, 150, 0), (150, .putfield 85, 153, 0), (153, .iconst 0, 154, 0), (154, .istore_n 2, 155, 0), (155, .iload_n 2, 156, 0)]
def pgb_1_1_b2 : List pg_R := [(156, .bipush 24, 158, 0), (158, .if_icmp .ge 41, 161, 199), (161, .aload_n 0, 162, 0), (162, .getfield 81, 165, 0), (165, .iload_n 2, 166, 0), (166, .new 79, 169, 0), (169, .dup, 170, 0), (170, .sipush 163, 173, 0)]
def pgb_1_1_b3 : List pg_R := [(173, .invokespecial 88, 176, 0), (176, .aastore, 177, 0), (177, .aload_n 0, 178, 0), (178, .getfield 85, 181, 0), (181, .iload_n 2, 182, 0), (182, .new 79, 185, 0), (185, .dup, 186, 0), (186, .sipush 163, 189, 0)]
def pgb_1_1_b4 : List pg_R := [(189, .invokespecial 88, 192, 0), (192, .aastore, 193, 0), (193, .iinc 2 1, 196, 0), (196, .goto (-41), 199, 155), (199, .aload_n 0, 200, 0), (200, .new 79, 203, 0), (203, .dup, 204, 0), (204, .sipush 199, 207, 0)]
def pgb_1_1_b5 : List pg_R := [(207, .invokespecial 88, 210, 0), (210, .putfield 91, 213, 0), (213, .aload_n 0, 214, 0), (214, .new 79, 217, 0), (217, .dup, 218, 0), (218, .sipush 199, 221, 0), (221, .invokespecial 88, 224, 0), (224, .putfield 95, 227, 0)]
def pgb_1_1_b6 : List pg_R := [(227, .return_, 228, 0)]
def pgB_1_1 : pg_Bk := [(141, pgb_1_1_b0), (156, pgb_1_1_b1), (173, pgb_1_1_b2), (189, pgb_1_1_b3), (207, pgb_1_1_b4), (227, pgb_1_1_b5), (228, pgb_1_1_b6)]
set_option maxRecDepth 20000 in
theorem pgc_1_1 : pgB_1_1.all (fun q => q.2.all (pg_ok (pg_cc 1))) = true := by decide +kernel
def pgB_1 : pg_Bk := pgB_1_0 ++ (pgB_1_1)
theorem pgc_1 : pgB_1.all (fun q => q.2.all (pg_ok (pg_cc 1))) = true := pg_all2 pgc_1_0 (pgc_1_1)
/-- MarkovDesk$Machine.<init>()V -/
def pgb_2_b0 : List pg_R := [(0, .aload_n 0, 1, 0), (1, .invokespecial 3, 4, 0), (4, .aload_n 0, 5, 0), (5, .sipush 1501, 8, 0), (8, .newarray .int, 10, 0), (10, .putfield 9, 13, 0), (13, .aload_n 0, 14, 0), (14, .sipush 1501, 17, 0)]
def pgb_2_b1 : List pg_R := [(17, .newarray .int, 19, 0), (19, .putfield 15, 22, 0), (22, .aload_n 0, 23, 0), (23, .sipush 248, 26, 0), (26, .newarray .int, 28, 0), (28, .putfield 18, 31, 0), (31, .return_, 32, 0)]
def pgB_2 : pg_Bk := [(17, pgb_2_b0), (32, pgb_2_b1)]
set_option maxRecDepth 20000 in
theorem pgc_2 : pgB_2.all (fun q => q.2.all (pg_ok (pg_cc 2))) = true := by decide +kernel
/-- MarkovDesk$Tokens.<init>()V -/
def pgb_3_b0 : List pg_R := [(0, .aload_n 0, 1, 0), (1, .invokespecial 3, 4, 0), (4, .aload_n 0, 5, 0), (5, .sipush 8200, 8, 0), (8, .newarray .int, 10, 0), (10, .putfield 9, 13, 0), (13, .aload_n 0, 14, 0), (14, .sipush 1501, 17, 0)]
def pgb_3_b1 : List pg_R := [(17, .newarray .int, 19, 0), (19, .putfield 15, 22, 0), (22, .aload_n 0, 23, 0), (23, .sipush 1501, 26, 0), (26, .newarray .int, 28, 0), (28, .putfield 18, 31, 0), (31, .aload_n 0, 32, 0), (32, .sipush 1501, 35, 0)]
def pgb_3_b2 : List pg_R := [(35, .newarray .int, 37, 0), (37, .putfield 21, 40, 0), (40, .aload_n 0, 41, 0), (41, .sipush 1501, 44, 0), (44, .newarray .int, 46, 0), (46, .putfield 24, 49, 0), (49, .return_, 50, 0)]
def pgB_3 : pg_Bk := [(17, pgb_3_b0), (35, pgb_3_b1), (50, pgb_3_b2)]
set_option maxRecDepth 20000 in
theorem pgc_3 : pgB_3.all (fun q => q.2.all (pg_ok (pg_cc 3))) = true := by decide +kernel
/-- MarkovDesk$Model.<init>()V -/
def pgb_4_b0 : List pg_R := [(0, .aload_n 0, 1, 0), (1, .invokespecial 3, 4, 0), (4, .aload_n 0, 5, 0), (5, .bipush 8, 7, 0), (7, .newarray .int, 9, 0), (9, .putfield 9, 12, 0), (12, .aload_n 0, 13, 0), (13, .bipush 8, 15, 0)]
def pgb_4_b1 : List pg_R := [(15, .newarray .int, 17, 0), (17, .putfield 15, 20, 0), (20, .aload_n 0, 21, 0), (21, .bipush 8, 23, 0), (23, .newarray .int, 25, 0), (25, .putfield 18, 28, 0), (28, .aload_n 0, 29, 0), (29, .bipush 8, 31, 0)]
def pgb_4_b2 : List pg_R := [(31, .newarray .int, 33, 0), (33, .putfield 21, 36, 0), (36, .aload_n 0, 37, 0), (37, .bipush 40, 39, 0), (39, .newarray .int, 41, 0), (41, .putfield 24, 44, 0), (44, .aload_n 0, 45, 0), (45, .bipush 40, 47, 0)]
def pgb_4_b3 : List pg_R := [(47, .newarray .int, 49, 0), (49, .putfield 27, 52, 0), (52, .aload_n 0, 53, 0), (53, .bipush 40, 55, 0), (55, .newarray .int, 57, 0), (57, .putfield 30, 60, 0), (60, .aload_n 0, 61, 0), (61, .bipush 40, 63, 0)]
def pgb_4_b4 : List pg_R := [(63, .newarray .long, 65, 0), (65, .putfield 33, 68, 0), (68, .aload_n 0, 69, 0), (69, .bipush 41, 71, 0), (71, .newarray .int, 73, 0), (73, .putfield 37, 76, 0), (76, .aload_n 0, 77, 0), (77, .sipush 240, 80, 0)]
def pgb_4_b5 : List pg_R := [(80, .newarray .long, 82, 0), (82, .putfield 40, 85, 0), (85, .aload_n 0, 86, 0), (86, .sipush 241, 89, 0), (89, .newarray .int, 91, 0), (91, .putfield 43, 94, 0), (94, .aload_n 0, 95, 0), (95, .sipush 250, 98, 0)]
def pgb_4_b6 : List pg_R := [(98, .newarray .int, 100, 0), (100, .putfield 46, 103, 0), (103, .aload_n 0, 104, 0), (104, .sipush 250, 107, 0), (107, .newarray .int, 109, 0), (109, .putfield 49, 112, 0), (112, .return_, 113, 0)]
def pgB_4 : pg_Bk := [(15, pgb_4_b0), (31, pgb_4_b1), (47, pgb_4_b2), (63, pgb_4_b3), (80, pgb_4_b4), (98, pgb_4_b5), (113, pgb_4_b6)]
set_option maxRecDepth 20000 in
theorem pgc_4 : pgB_4.all (fun q => q.2.all (pg_ok (pg_cc 4))) = true := by decide +kernel
/-- MarkovDesk$Reader.<init>(LMarkovDesk$Tokens;LMarkovDesk$Machine;LMarkovDesk$Model;)V -/
def pgb_5_b0 : List pg_R := [(0, .aload_n 0, 1, 0), (1, .invokespecial 3, 4, 0), (4, .aload_n 0, 5, 0), (5, .sipush 261, 8, 0), (8, .newarray .int, 10, 0), (10, .putfield 9, 13, 0), (13, .aload_n 0, 14, 0), (14, .sipush 261, 17, 0)]
def pgb_5_b1 : List pg_R := [(17, .newarray .int, 19, 0), (19, .putfield 15, 22, 0), (22, .aload_n 0, 23, 0), (23, .sipush 261, 26, 0), (26, .newarray .int, 28, 0), (28, .putfield 18, 31, 0), (31, .aload_n 0, 32, 0), (32, .bipush 40, 34, 0)]
def pgb_5_b2 : List pg_R := [(34, .newarray .int, 36, 0), (36, .putfield 21, 39, 0), (39, .aload_n 0, 40, 0), (40, .sipush 248, 43, 0), (43, .newarray .int, 45, 0), (45, .putfield 24, 48, 0), (48, .aload_n 0, 49, 0), (49, .sipush 248, 52, 0)]
def pgb_5_b3 : List pg_R := [(52, .newarray .int, 54, 0), (54, .putfield 27, 57, 0), (57, .aload_n 0, 58, 0), (58, .sipush 248, 61, 0), (61, .newarray .int, 63, 0), (63, .putfield 30, 66, 0), (66, .aload_n 0, 67, 0), (67, .sipush 248, 70, 0)]
def pgb_5_b4 : List pg_R := [(70, .newarray .int, 72, 0), (72, .putfield 33, 75, 0), (75, .aload_n 0, 76, 0), (76, .sipush 248, 79, 0), (79, .newarray .int, 81, 0), (81, .putfield 36, 84, 0), (84, .aload_n 0, 85, 0), (85, .iconst (-1), 86, 0)]
def pgb_5_b5 : List pg_R := [(86, .putfield 39, 89, 0), (89, .aload_n 0, 90, 0), (90, .aload_n 1, 91, 0), (91, .putfield 43, 94, 0), (94, .aload_n 0, 95, 0), (95, .aload_n 2, 96, 0), (96, .putfield 47, 99, 0), (99, .aload_n 0, 100, 0)]
def pgb_5_b6 : List pg_R := [(100, .aload_n 3, 101, 0), (101, .putfield 51, 104, 0), (104, .return_, 105, 0)]
def pgB_5 : pg_Bk := [(17, pgb_5_b0), (34, pgb_5_b1), (52, pgb_5_b2), (70, pgb_5_b3), (86, pgb_5_b4), (100, pgb_5_b5), (105, pgb_5_b6)]
set_option maxRecDepth 20000 in
theorem pgc_5 : pgB_5.all (fun q => q.2.all (pg_ok (pg_cc 5))) = true := by decide +kernel
/-- MarkovDesk$Space.<init>(LMarkovDesk$Machine;LMarkovDesk$Model;)V -/
def pgb_6_b0 : List pg_R := [(0, .aload_n 0, 1, 0), (1, .invokespecial 3, 4, 0), (4, .aload_n 0, 5, 0), (5, .sipush 192, 8, 0), (8, .newarray .int, 10, 0), (10, .putfield 9, 13, 0), (13, .aload_n 0, 14, 0), (14, .bipush 8, 16, 0)]
def pgb_6_b1 : List pg_R := [(16, .newarray .int, 18, 0), (18, .putfield 15, 21, 0), (21, .aload_n 0, 22, 0), (22, .bipush 24, 24, 0), (24, .newarray .boolean, 26, 0), (26, .putfield 18, 29, 0), (29, .aload_n 0, 30, 0), (30, .bipush 25, 32, 0)]
def pgb_6_b2 : List pg_R := [(32, .newarray .int, 34, 0), (34, .putfield 22, 37, 0), (37, .aload_n 0, 38, 0), (38, .sipush 201, 41, 0), (41, .newarray .int, 43, 0), (43, .putfield 25, 46, 0), (46, .aload_n 0, 47, 0), (47, .sipush 200, 50, 0)]
def pgb_6_b3 : List pg_R := [(50, .newarray .long, 52, 0), (52, .putfield 28, 55, 0), (55, .aload_n 0, 56, 0), (56, .sipush 3200, 59, 0), (59, .newarray .int, 61, 0), (61, .putfield 32, 64, 0), (64, .aload_n 0, 65, 0), (65, .sipush 3200, 68, 0)]
def pgb_6_b4 : List pg_R := [(68, .newarray .long, 70, 0), (70, .putfield 35, 73, 0), (73, .aload_n 0, 74, 0), (74, .bipush 40, 76, 0), (76, .newarray .boolean, 78, 0), (78, .putfield 38, 81, 0), (81, .aload_n 0, 82, 0), (82, .bipush 40, 84, 0)]
def pgb_6_b5 : List pg_R := [(84, .newarray .int, 86, 0), (86, .putfield 41, 89, 0), (89, .aload_n 0, 90, 0), (90, .iconst 4, 91, 0), (91, .newarray .int, 93, 0), (93, .putfield 44, 96, 0), (96, .aload_n 0, 97, 0), (97, .iconst 3, 98, 0)]
def pgb_6_b6 : List pg_R := [(98, .newarray .int, 100, 0), (100, .putfield 47, 103, 0), (103, .aload_n 0, 104, 0), (104, .aload_n 1, 105, 0), (105, .putfield 50, 108, 0), (108, .aload_n 0, 109, 0), (109, .aload_n 2, 110, 0), (110, .putfield 54, 113, 0)]
def pgb_6_b7 : List pg_R := [(113, .return_, 114, 0)]
def pgB_6 : pg_Bk := [(16, pgb_6_b0), (32, pgb_6_b1), (50, pgb_6_b2), (68, pgb_6_b3), (84, pgb_6_b4), (98, pgb_6_b5), (113, pgb_6_b6), (114, pgb_6_b7)]
set_option maxRecDepth 20000 in
theorem pgc_6 : pgB_6.all (fun q => q.2.all (pg_ok (pg_cc 6))) = true := by decide +kernel
/-- MarkovDesk$Planner.<init>(LMarkovDesk$Space;)V -/
def pgb_7_b0 : List pg_R := [(0, .aload_n 0, 1, 0), (1, .invokespecial 3, 4, 0), (4, .aload_n 0, 5, 0), (5, .new 9, 8, 0), (8, .dup, 9, 0), (9, .invokespecial 11, 12, 0), (12, .putfield 12, 15, 0), (15, .aload_n 0, 16, 0)]
def pgb_7_b1 : List pg_R := [(16, .bipush 24, 18, 0), (18, .newarray .int, 20, 0), (20, .putfield 18, 23, 0), (23, .aload_n 0, 24, 0), (24, .new 22, 27, 0), (27, .dup, 28, 0), (28, .bipush 34, 30, 0), (30, .invokespecial 24, 33, 0)]
def pgb_7_b2 : List pg_R := [(33, .putfield 27, 36, 0), (36, .aload_n 0, 37, 0), (37, .new 22, 40, 0), (40, .dup, 41, 0), (41, .bipush 68, 43, 0), (43, .invokespecial 24, 46, 0), (46, .putfield 31, 49, 0), (49, .aload_n 0, 50, 0)]
def pgb_7_b3 : List pg_R := [(50, .new 22, 53, 0), (53, .dup, 54, 0), (54, .bipush 68, 56, 0), (56, .invokespecial 24, 59, 0), (59, .putfield 34, 62, 0), (62, .aload_n 0, 63, 0), (63, .new 22, 66, 0), (66, .dup, 67, 0)]
def pgb_7_b4 : List pg_R := [(67, .bipush 68, 69, 0), (69, .invokespecial 24, 72, 0), (72, .putfield 37, 75, 0), (75, .aload_n 0, 76, 0), (76, .new 22, 79, 0), (79, .dup, 80, 0), (80, .bipush 68, 82, 0), (82, .invokespecial 24, 85, 0)]
def pgb_7_b5 : List pg_R := [(85, .putfield 40, 88, 0), (88, .aload_n 0, 89, 0), (89, .aload_n 1, 90, 0), (90, .putfield 43, 93, 0), (93, .return_, 94, 0)]
def pgB_7 : pg_Bk := [(16, pgb_7_b0), (33, pgb_7_b1), (50, pgb_7_b2), (67, pgb_7_b3), (85, pgb_7_b4), (94, pgb_7_b5)]
set_option maxRecDepth 20000 in
theorem pgc_7 : pgB_7.all (fun q => q.2.all (pg_ok (pg_cc 7))) = true := by decide +kernel
/-- MarkovDesk$Equations.<init>()V -/
def pgb_8_0_b0 : List pg_R := [(0, .aload_n 0, 1, 0), (1, .invokespecial 3, 4, 0), (4, .aload_n 0, 5, 0), (5, .sipush 600, 8, 0), (8, .anewarray 11, 11, 0), (11, .putfield 13, 14, 0), (14, .aload_n 0, 15, 0), (15, .bipush 24, 17, 0)]
def pgb_8_0_b1 : List pg_R := [(17, .anewarray 11, 20, 0), (20, .putfield 17, 23, 0), (23, .aload_n 0, 24, 0), (24, .bipush 24, 26, 0), (26, .newarray .int, 28, 0), (28, .putfield 20, 31, 0), (31, .aload_n 0, 32, 0), (32, .new 11, 35, 0)]
def pgb_8_0_b2 : List pg_R := [(35, .dup, 36, 0), (36, .bipush 34, 38, 0), (38, .invokespecial 24, 41, 0), (41, .putfield 27, 44, 0), (44, .aload_n 0, 45, 0), (45, .new 11, 48, 0), (48, .dup, 49, 0), (49, .bipush 34, 51, 0)]
def pgb_8_0_b3 : List pg_R := [(51, .invokespecial 24, 54, 0), (54, .putfield 31, 57, 0), (57, .aload_n 0, 58, 0), (58, .new 11, 61, 0), (61, .dup, 62, 0), (62, .bipush 68, 64, 0), (64, .invokespecial 24, 67, 0), (67, .putfield 34, 70, 0)]
def pgb_8_0_b4 : List pg_R := [(70, .aload_n 0, 71, 0), (71, .new 11, 74, 0), (74, .dup, 75, 0), (75, .bipush 68, 77, 0), (77, .invokespecial 24, 80, 0), (80, .putfield 37, 83, 0), (83, .aload_n 0, 84, 0), (84, .getfield 27, 87, 0)]
def pgb_8_0_b5 : List pg_R := [(87, .lconst 1, 88, 0), (88, .invokevirtual 40, 91, 0), (91, .iconst 0, 92, 0), (92, .istore_n 1, 93, 0), (93, .iload_n 1, 94, 0), (94, .aload_n 0, 95, 0), (95, .getfield 13, 98, 0), (98, .arraylength, 99, 0)]
def pgb_8_0_b6 : List pg_R := [(99, .if_icmp .ge 24, 102, 123), (102, .aload_n 0, 103, 0), (103, .getfield 13, 106, 0), (106, .iload_n 1, 107, 0), (107, .new 11, 110, 0), (110, .dup, 111, 0), (111, .bipush 34, 113, 0), (113, .invokespecial 24, 116, 0)]
def pgb_8_0_b7 : List pg_R := [(116, .aastore, 117, 0), (117, .iinc 1 1, 120, 0), (120, .goto (-27), 123, 93), (123, .iconst 0, 124, 0)]
def pgB_8_0 : pg_Bk := [(17, pgb_8_0_b0), (35, pgb_8_0_b1), (51, pgb_8_0_b2), (70, pgb_8_0_b3), (87, pgb_8_0_b4), (99, pgb_8_0_b5), (116, pgb_8_0_b6), (124, pgb_8_0_b7)]
set_option maxRecDepth 20000 in
theorem pgc_8_0 : pgB_8_0.all (fun q => q.2.all (pg_ok (pg_cc 8))) = true := by decide +kernel
/-- MarkovDesk$Equations.<init>()V -/
def pgb_8_1_b0 : List pg_R := [(124, .istore_n 1, 125, 0), (125, .iload_n 1, 126, 0), (126, .aload_n 0, 127, 0), (127, .getfield 17, 130, 0), (130, .arraylength, 131, 0), (131, .if_icmp .ge 24, 134, 155), (134, .aload_n 0, 135, 0), (135, .getfield 17, 138, 0)]
def pgb_8_1_b1 : List pg_R := [(138, .iload_n 1, 139, 0), (139, .new 11, 142, 0), (142, .dup, 143, 0), (143, .bipush 34, 145, 0), (145, .invokespecial 24, 148, 0), (148, .aastore, 149, 0), (149, .iinc 1 1, 152, 0), (152, .goto (-27), 155, 125)]
def pgb_8_1_b2 : List pg_R := [(155, .return_, 156, 0)]
def pgB_8_1 : pg_Bk := [(138, pgb_8_1_b0), (155, pgb_8_1_b1), (156, pgb_8_1_b2)]
set_option maxRecDepth 20000 in
theorem pgc_8_1 : pgB_8_1.all (fun q => q.2.all (pg_ok (pg_cc 8))) = true := by decide +kernel
def pgB_8 : pg_Bk := pgB_8_0 ++ (pgB_8_1)
theorem pgc_8 : pgB_8.all (fun q => q.2.all (pg_ok (pg_cc 8))) = true := pg_all2 pgc_8_0 (pgc_8_1)
/-- MarkovDesk$Nat.<init>(I)V -/
def pgb_9_b0 : List pg_R := [(0, .aload_n 0, 1, 0), (1, .invokespecial 3, 4, 0), (4, .aload_n 0, 5, 0), (5, .iload_n 1, 6, 0), (6, .iconst 1, 7, 0), (7, .invokestatic 9, 10, 0), (10, .newarray .int, 12, 0), (12, .putfield 15, 15, 0)]
def pgb_9_b1 : List pg_R := [(15, .return_, 16, 0)]
def pgB_9 : pg_Bk := [(15, pgb_9_b0), (16, pgb_9_b1)]
set_option maxRecDepth 20000 in
theorem pgc_9 : pgB_9.all (fun q => q.2.all (pg_ok (pg_cc 9))) = true := by decide +kernel
/-- java/lang/Math.max(II)I -/
def pgb_10_b0 : List pg_R := [(0, .iload_n 0, 1, 0), (1, .iload_n 1, 2, 0), (2, .if_icmp .lt 7, 5, 9), (5, .iload_n 0, 6, 0), (6, .goto 4, 9, 10), (9, .iload_n 1, 10, 0), (10, .ireturn, 11, 0)]
def pgB_10 : pg_Bk := [(11, pgb_10_b0)]
set_option maxRecDepth 20000 in
theorem pgc_10 : pgB_10.all (fun q => q.2.all (pg_ok (pg_cc 10))) = true := by decide +kernel
/-- MarkovDesk$Nat.put(J)V -/
def pgb_11_b0 : List pg_R := [(0, .lload_n 1, 1, 0), (1, .lstore_n 3, 2, 0), (2, .aload_n 0, 3, 0), (3, .iconst 0, 4, 0), (4, .putfield 21, 7, 0), (7, .iconst 0, 8, 0), (8, .istore 5, 10, 0), (10, .iload 5, 12, 0)]
def pgb_11_b1 : List pg_R := [(12, .aload_n 0, 13, 0), (13, .getfield 15, 16, 0), (16, .arraylength, 17, 0), (17, .if_icmp .ge 41, 20, 58), (20, .lload_n 3, 21, 0), (21, .lconst 0, 22, 0), (22, .lcmp, 23, 0), (23, .ifCond .le 35, 26, 58)]
def pgb_11_b2 : List pg_R := [(26, .aload_n 0, 27, 0), (27, .getfield 15, 30, 0), (30, .iload 5, 32, 0), (32, .lload_n 3, 33, 0), (33, .ldc2_w 25, 36, 0), (36, .land, 37, 0), (37, .l2i, 38, 0), (38, .iastore, 39, 0)]
def pgb_11_b3 : List pg_R := [(39, .lload_n 3, 40, 0), (40, .bipush 31, 42, 0), (42, .lushr, 43, 0), (43, .lstore_n 3, 44, 0), (44, .aload_n 0, 45, 0), (45, .iload 5, 47, 0), (47, .iconst 1, 48, 0), (48, .iadd, 49, 0)]
def pgb_11_b4 : List pg_R := [(49, .putfield 21, 52, 0), (52, .iinc 5 1, 55, 0), (55, .goto (-45), 58, 10), (58, .return_, 59, 0)]
def pgB_11 : pg_Bk := [(12, pgb_11_b0), (26, pgb_11_b1), (39, pgb_11_b2), (49, pgb_11_b3), (59, pgb_11_b4)]
set_option maxRecDepth 20000 in
theorem pgc_11 : pgB_11.all (fun q => q.2.all (pg_ok (pg_cc 11))) = true := by decide +kernel
/-- MarkovDesk$Answer.<init>(Z)V -/
def pgb_12_b0 : List pg_R := [(0, .aload_n 0, 1, 0), (1, .invokespecial 3, 4, 0), (4, .aload_n 0, 5, 0), (5, .bipush 24, 7, 0), (7, .newarray .int, 9, 0), (9, .putfield 9, 12, 0), (12, .aload_n 0, 13, 0), (13, .bipush 24, 15, 0)]
def pgb_12_b1 : List pg_R := [(15, .newarray .boolean, 17, 0), (17, .putfield 15, 20, 0), (20, .aload_n 0, 21, 0), (21, .bipush 24, 23, 0), (23, .anewarray 19, 26, 0), (26, .putfield 21, 29, 0), (29, .aload_n 0, 30, 0), (30, .new 19, 33, 0)]
def pgb_12_b2 : List pg_R := [(33, .dup, 34, 0), (34, .bipush 34, 36, 0), (36, .invokespecial 25, 39, 0), (39, .putfield 28, 42, 0), (42, .aload_n 0, 43, 0), (43, .iload_n 1, 44, 0), (44, .putfield 32, 47, 0), (47, .iconst 0, 48, 0)]
def pgb_12_b3 : List pg_R := [(48, .istore_n 2, 49, 0), (49, .iload_n 2, 50, 0), (50, .aload_n 0, 51, 0), (51, .getfield 21, 54, 0), (54, .arraylength, 55, 0), (55, .if_icmp .ge 24, 58, 79), (58, .aload_n 0, 59, 0), (59, .getfield 21, 62, 0)]
def pgb_12_b4 : List pg_R := [(62, .iload_n 2, 63, 0), (63, .new 19, 66, 0), (66, .dup, 67, 0), (67, .bipush 34, 69, 0), (69, .invokespecial 25, 72, 0), (72, .aastore, 73, 0), (73, .iinc 2 1, 76, 0), (76, .goto (-27), 79, 49)]
def pgb_12_b5 : List pg_R := [(79, .return_, 80, 0)]
def pgB_12 : pg_Bk := [(15, pgb_12_b0), (33, pgb_12_b1), (48, pgb_12_b2), (62, pgb_12_b3), (79, pgb_12_b4), (80, pgb_12_b5)]
set_option maxRecDepth 20000 in
theorem pgc_12 : pgB_12.all (fun q => q.2.all (pg_ok (pg_cc 12))) = true := by decide +kernel
/-- MarkovDesk$Walk.<init>(LMarkovDesk$Space;)V -/
def pgb_13_0_b0 : List pg_R := [(0, .aload_n 0, 1, 0), (1, .invokespecial 3, 4, 0), (4, .aload_n 0, 5, 0), (5, .bipush 24, 7, 0), (7, .anewarray 9, 10, 0), (10, .putfield 11, 13, 0), (13, .aload_n 0, 14, 0), (14, .bipush 24, 16, 0)]
def pgb_13_0_b1 : List pg_R := [(16, .anewarray 9, 19, 0), (19, .putfield 17, 22, 0), (22, .aload_n 0, 23, 0), (23, .new 9, 26, 0), (26, .dup, 27, 0), (27, .sipush 380, 30, 0), (30, .invokespecial 20, 33, 0), (33, .putfield 23, 36, 0)]
def pgb_13_0_b2 : List pg_R := [(36, .aload_n 0, 37, 0), (37, .new 9, 40, 0), (40, .dup, 41, 0), (41, .sipush 380, 44, 0), (44, .invokespecial 20, 47, 0), (47, .putfield 27, 50, 0), (50, .aload_n 0, 51, 0), (51, .new 9, 54, 0)]
def pgb_13_0_b3 : List pg_R := [(54, .dup, 55, 0), (55, .sipush 380, 58, 0), (58, .invokespecial 20, 61, 0), (61, .putfield 30, 64, 0), (64, .aload_n 0, 65, 0), (65, .new 9, 68, 0), (68, .dup, 69, 0), (69, .bipush 34, 71, 0)]
def pgb_13_0_b4 : List pg_R := [(71, .invokespecial 20, 74, 0), (74, .putfield 33, 77, 0), (77, .aload_n 0, 78, 0), (78, .new 9, 81, 0), (81, .dup, 82, 0), (82, .bipush 34, 84, 0), (84, .invokespecial 20, 87, 0), (87, .putfield 36, 90, 0)]
def pgb_13_0_b5 : List pg_R := [(90, .aload_n 0, 91, 0), (91, .new 9, 94, 0), (94, .dup, 95, 0), (95, .bipush 34, 97, 0), (97, .invokespecial 20, 100, 0), (100, .putfield 39, 103, 0), (103, .aload_n 0, 104, 0), (104, .new 9, 107, 0)]
def pgb_13_0_b6 : List pg_R := [(107, .dup, 108, 0), (108, .bipush 34, 110, 0), (110, .invokespecial 20, 113, 0), (113, .putfield 42, 116, 0), (116, .aload_n 0, 117, 0), (117, .aload_n 1, 118, 0), (118, .putfield 45, 121, 0), (121, .iconst 0, 122, 0)]
def pgb_13_0_b7 : List pg_R := [(122, .istore_n 2, 123, 0), (123, .iload_n 2, 124, 0), (124, .bipush 24, 126, 0), (126, .if_icmp .ge 41, 129, 167)]
def pgB_13_0 : pg_Bk := [(16, pgb_13_0_b0), (36, pgb_13_0_b1), (54, pgb_13_0_b2), (71, pgb_13_0_b3), (90, pgb_13_0_b4), (107, pgb_13_0_b5), (122, pgb_13_0_b6), (127, pgb_13_0_b7)]
set_option maxRecDepth 20000 in
theorem pgc_13_0 : pgB_13_0.all (fun q => q.2.all (pg_ok (pg_cc 13))) = true := by decide +kernel
/-- MarkovDesk$Walk.<init>(LMarkovDesk$Space;)V -/
def pgb_13_1_b0 : List pg_R := [(129, .aload_n 0, 130, 0), (130, .getfield 11, 133, 0), (133, .iload_n 2, 134, 0), (134, .new 9, 137, 0), (137, .dup, 138, 0), (138, .sipush 380, 141, 0), (141, .invokespecial 20, 144, 0), (144, .aastore, 145, 0)]
def pgb_13_1_b1 : List pg_R := [(145, .aload_n 0, 146, 0), (146, .getfield 17, 149, 0), (149, .iload_n 2, 150, 0), (150, .new 9, 153, 0), (153, .dup, 154, 0), (154, .sipush 380, 157, 0), (157, .invokespecial 20, 160, 0), (160, .aastore, 161, 0)]
def pgb_13_1_b2 : List pg_R := [(161, .iinc 2 1, 164, 0), (164, .goto (-41), 167, 123), (167, .return_, 168, 0)]
def pgB_13_1 : pg_Bk := [(145, pgb_13_1_b0), (161, pgb_13_1_b1), (168, pgb_13_1_b2)]
set_option maxRecDepth 20000 in
theorem pgc_13_1 : pgB_13_1.all (fun q => q.2.all (pg_ok (pg_cc 13))) = true := by decide +kernel
def pgB_13 : pg_Bk := pgB_13_0 ++ (pgB_13_1)
theorem pgc_13 : pgB_13.all (fun q => q.2.all (pg_ok (pg_cc 13))) = true := pg_all2 pgc_13_0 (pgc_13_1)
/-- MarkovDesk$Ratio.<init>()V -/
def pgb_14_b0 : List pg_R := [(0, .aload_n 0, 1, 0), (1, .invokespecial 3, 4, 0), (4, .aload_n 0, 5, 0), (5, .new 9, 8, 0), (8, .dup, 9, 0), (9, .sipush 380, 12, 0), (12, .invokespecial 11, 15, 0), (15, .putfield 14, 18, 0)]
def pgb_14_b1 : List pg_R := [(18, .aload_n 0, 19, 0), (19, .new 9, 22, 0), (22, .dup, 23, 0), (23, .sipush 380, 26, 0), (26, .invokespecial 11, 29, 0), (29, .putfield 20, 32, 0), (32, .aload_n 0, 33, 0), (33, .new 9, 36, 0)]
def pgb_14_b2 : List pg_R := [(36, .dup, 37, 0), (37, .sipush 380, 40, 0), (40, .invokespecial 11, 43, 0), (43, .putfield 23, 46, 0), (46, .aload_n 0, 47, 0), (47, .new 9, 50, 0), (50, .dup, 51, 0), (51, .sipush 380, 54, 0)]
def pgb_14_b3 : List pg_R := [(54, .invokespecial 11, 57, 0), (57, .putfield 26, 60, 0), (60, .aload_n 0, 61, 0), (61, .new 9, 64, 0), (64, .dup, 65, 0), (65, .sipush 380, 68, 0), (68, .invokespecial 11, 71, 0), (71, .putfield 29, 74, 0)]
def pgb_14_b4 : List pg_R := [(74, .aload_n 0, 75, 0), (75, .getfield 20, 78, 0), (78, .lconst 1, 79, 0), (79, .invokevirtual 32, 82, 0), (82, .return_, 83, 0)]
def pgB_14 : pg_Bk := [(18, pgb_14_b0), (36, pgb_14_b1), (54, pgb_14_b2), (74, pgb_14_b3), (83, pgb_14_b4)]
set_option maxRecDepth 20000 in
theorem pgc_14 : pgB_14.all (fun q => q.2.all (pg_ok (pg_cc 14))) = true := by decide +kernel
/-- MarkovDesk.wrong()I -/
def pgb_15_b0 : List pg_R := [(0, .aload_n 0, 1, 0), (1, .getfield 31, 4, 0), (4, .getfield 144, 7, 0), (7, .ireturn, 8, 0)]
def pgB_15 : pg_Bk := [(8, pgb_15_b0)]
set_option maxRecDepth 20000 in
theorem pgc_15 : pgB_15.all (fun q => q.2.all (pg_ok (pg_cc 15))) = true := by decide +kernel
/-- MarkovDesk.bits(Z)I -/
def pgb_16_b0 : List pg_R := [(0, .iload_n 1, 1, 0), (1, .ifCond .eq 16, 4, 17), (4, .aload_n 0, 5, 0), (5, .getfield 75, 8, 0), (8, .getfield 235, 11, 0), (11, .invokevirtual 251, 14, 0), (14, .goto 13, 17, 27), (17, .aload_n 0, 18, 0)]
def pgb_16_b1 : List pg_R := [(18, .getfield 75, 21, 0), (21, .getfield 233, 24, 0), (24, .invokevirtual 251, 27, 0), (27, .ireturn, 28, 0)]
def pgB_16 : pg_Bk := [(18, pgb_16_b0), (28, pgb_16_b1)]
set_option maxRecDepth 20000 in
theorem pgc_16 : pgB_16.all (fun q => q.2.all (pg_ok (pg_cc 16))) = true := by decide +kernel
/-- MarkovDesk$Nat.bitLength()I -/
def pgb_17_b0 : List pg_R := [(0, .aload_n 0, 1, 0), (1, .getfield 21, 4, 0), (4, .ifCond .ne 7, 7, 11), (7, .iconst 0, 8, 0), (8, .goto 26, 11, 34), (11, .aload_n 0, 12, 0), (12, .getfield 21, 15, 0), (15, .bipush 31, 17, 0)]
def pgb_17_b1 : List pg_R := [(17, .imul, 18, 0), (18, .iconst 1, 19, 0), (19, .iadd, 20, 0), (20, .aload_n 0, 21, 0), (21, .aload_n 0, 22, 0), (22, .getfield 21, 25, 0), (25, .iconst 1, 26, 0), (26, .isub, 27, 0)]
def pgb_17_b2 : List pg_R := [(27, .invokevirtual 36, 30, 0), (30, .invokestatic 40, 33, 0), (33, .isub, 34, 0), (34, .ireturn, 35, 0)]
def pgB_17 : pg_Bk := [(17, pgb_17_b0), (27, pgb_17_b1), (35, pgb_17_b2)]
set_option maxRecDepth 20000 in
theorem pgc_17 : pgB_17.all (fun q => q.2.all (pg_ok (pg_cc 17))) = true := by decide +kernel
/-- MarkovDesk$Nat.digit(I)I -/
def pgb_18_b0 : List pg_R := [(0, .iload_n 1, 1, 0), (1, .ifCond .lt 29, 4, 30), (4, .iload_n 1, 5, 0), (5, .aload_n 0, 6, 0), (6, .getfield 21, 9, 0), (9, .if_icmp .ge 21, 12, 30), (12, .iload_n 1, 13, 0), (13, .aload_n 0, 14, 0)]
def pgb_18_b1 : List pg_R := [(14, .getfield 15, 17, 0), (17, .arraylength, 18, 0), (18, .if_icmp .ge 12, 21, 30), (21, .aload_n 0, 22, 0), (22, .getfield 15, 25, 0), (25, .iload_n 1, 26, 0), (26, .iaload, 27, 0), (27, .goto 4, 30, 31)]
def pgb_18_b2 : List pg_R := [(30, .iconst 0, 31, 0), (31, .ireturn, 32, 0)]
def pgB_18 : pg_Bk := [(14, pgb_18_b0), (30, pgb_18_b1), (32, pgb_18_b2)]
set_option maxRecDepth 20000 in
theorem pgc_18 : pgB_18.all (fun q => q.2.all (pg_ok (pg_cc 18))) = true := by decide +kernel
/-- java/lang/Integer.numberOfLeadingZeros(I)I -/
def pgb_19_b0 : List pg_R := [(0, .iload_n 0, 1, 0), (1, .ifCond .gt 14, 4, 15), (4, .iload_n 0, 5, 0), (5, .ifCond .ne 8, 8, 13), (8, .bipush 32, 10, 0), (10, .goto 4, 13, 14), (13, .iconst 0, 14, 0), (14, .ireturn, 15, 0)]
def pgb_19_b1 : List pg_R := [(15, .bipush 31, 17, 0), (17, .istore_n 1, 18, 0), (18, .iload_n 0, 19, 0), (19, .ldc_w 264, 22, 0), (22, .if_icmp .lt 11, 25, 33), (25, .iinc 1 (-16), 28, 0), (28, .iload_n 0, 29, 0), (29, .bipush 16, 31, 0)]
def pgb_19_b2 : List pg_R := [(31, .iushr, 32, 0), (32, .istore_n 0, 33, 0), (33, .iload_n 0, 34, 0), (34, .sipush 256, 37, 0), (37, .if_icmp .lt 11, 40, 48), (40, .iinc 1 (-8), 43, 0), (43, .iload_n 0, 44, 0), (44, .bipush 8, 46, 0)]
def pgb_19_b3 : List pg_R := [(46, .iushr, 47, 0), (47, .istore_n 0, 48, 0), (48, .iload_n 0, 49, 0), (49, .bipush 16, 51, 0), (51, .if_icmp .lt 10, 54, 61), (54, .iinc 1 (-4), 57, 0), (57, .iload_n 0, 58, 0), (58, .iconst 4, 59, 0)]
def pgb_19_b4 : List pg_R := [(59, .iushr, 60, 0), (60, .istore_n 0, 61, 0), (61, .iload_n 0, 62, 0), (62, .iconst 4, 63, 0), (63, .if_icmp .lt 10, 66, 73), (66, .iinc 1 (-2), 69, 0), (69, .iload_n 0, 70, 0), (70, .iconst 2, 71, 0)]
def pgb_19_b5 : List pg_R := [(71, .iushr, 72, 0), (72, .istore_n 0, 73, 0), (73, .iload_n 1, 74, 0), (74, .iload_n 0, 75, 0), (75, .iconst 1, 76, 0), (76, .iushr, 77, 0), (77, .isub, 78, 0), (78, .ireturn, 79, 0)]
def pgB_19 : pg_Bk := [(15, pgb_19_b0), (31, pgb_19_b1), (46, pgb_19_b2), (59, pgb_19_b3), (71, pgb_19_b4), (79, pgb_19_b5)]
set_option maxRecDepth 20000 in
theorem pgc_19 : pgB_19.all (fun q => q.2.all (pg_ok (pg_cc 19))) = true := by decide +kernel
/-- MarkovDeskLaw.feed(LMarkovDesk;IIIII[J)I -/
def pgb_20_b0 : List pg_R := [(0, .aload 6, 2, 0), (2, .iconst 0, 3, 0), (3, .aload_n 0, 4, 0), (4, .iload_n 1, 5, 0), (5, .iload_n 2, 6, 0), (6, .iload_n 3, 7, 0), (7, .iload 4, 9, 0), (9, .iload 5, 11, 0)]
def pgb_20_b1 : List pg_R := [(11, .invokevirtual 7, 14, 0), (14, .i2l, 15, 0), (15, .lastore, 16, 0), (16, .goto 7, 19, 23), (19, .astore 7, 21, 0), (21, .iconst 1, 22, 0), (22, .ireturn, 23, 0), (23, .iconst 0, 24, 0)]
def pgb_20_b2 : List pg_R := [(24, .ireturn, 25, 0)]
def pgB_20 : pg_Bk := [(11, pgb_20_b0), (24, pgb_20_b1), (25, pgb_20_b2)]
set_option maxRecDepth 20000 in
theorem pgc_20 : pgB_20.all (fun q => q.2.all (pg_ok (pg_cc 20))) = true := by decide +kernel
/-- MarkovDesk.feed(IIIII)I -/
def pgb_21_b0 : List pg_R := [(0, .aload_n 0, 1, 0), (1, .getfield 15, 4, 0), (4, .getfield 98, 7, 0), (7, .sipush 8180, 10, 0), (10, .if_icmp .le 11, 13, 21), (13, .new 102, 16, 0), (16, .dup, 17, 0), (17, .invokespecial 104, 20, 0)]
def pgb_21_b1 : List pg_R := [(20, .athrow, 21, 0), (21, .aload_n 0, 22, 0), (22, .getfield 15, 25, 0), (25, .iload_n 1, 26, 0), (26, .invokevirtual 105, 29, 0), (29, .aload_n 0, 30, 0), (30, .getfield 15, 33, 0), (33, .iload_n 2, 34, 0)]
def pgb_21_b2 : List pg_R := [(34, .invokevirtual 105, 37, 0), (37, .aload_n 0, 38, 0), (38, .getfield 15, 41, 0), (41, .iload_n 3, 42, 0), (42, .invokevirtual 105, 45, 0), (45, .aload_n 0, 46, 0), (46, .getfield 15, 49, 0), (49, .iload 4, 51, 0)]
def pgb_21_b3 : List pg_R := [(51, .invokevirtual 105, 54, 0), (54, .aload_n 0, 55, 0), (55, .getfield 15, 58, 0), (58, .iload 5, 60, 0), (60, .invokevirtual 105, 63, 0), (63, .aload_n 0, 64, 0), (64, .getfield 15, 67, 0), (67, .getfield 98, 70, 0)]
def pgb_21_b4 : List pg_R := [(70, .ireturn, 71, 0)]
def pgB_21 : pg_Bk := [(20, pgb_21_b0), (34, pgb_21_b1), (51, pgb_21_b2), (70, pgb_21_b3), (71, pgb_21_b4)]
set_option maxRecDepth 20000 in
theorem pgc_21 : pgB_21.all (fun q => q.2.all (pg_ok (pg_cc 21))) = true := by decide +kernel
/-- java/lang/IndexOutOfBoundsException.<init>()V -/
def pgb_22_b0 : List pg_R := [(0, .aload_n 0, 1, 0), (1, .invokespecial 1, 4, 0), (4, .return_, 5, 0)]
def pgB_22 : pg_Bk := [(5, pgb_22_b0)]
set_option maxRecDepth 20000 in
theorem pgc_22 : pgB_22.all (fun q => q.2.all (pg_ok (pg_cc 22))) = true := by decide +kernel
/-- MarkovDesk$Tokens.push(I)V -/
def pgb_23_b0 : List pg_R := [(0, .bipush 24, 2, 0), (2, .istore_n 2, 3, 0), (3, .iload_n 2, 4, 0), (4, .ifCond .lt 47, 7, 51), (7, .aload_n 0, 8, 0), (8, .getfield 27, 11, 0), (11, .aload_n 0, 12, 0), (12, .getfield 9, 15, 0)]
def pgb_23_b1 : List pg_R := [(15, .arraylength, 16, 0), (16, .if_icmp .ge 35, 19, 51), (19, .aload_n 0, 20, 0), (20, .getfield 9, 23, 0), (23, .aload_n 0, 24, 0), (24, .getfield 27, 27, 0), (27, .iload_n 1, 28, 0), (28, .iload_n 2, 29, 0)]
def pgb_23_b2 : List pg_R := [(29, .iushr, 30, 0), (30, .sipush 255, 33, 0), (33, .iand, 34, 0), (34, .iastore, 35, 0), (35, .aload_n 0, 36, 0), (36, .dup, 37, 0), (37, .getfield 27, 40, 0), (40, .iconst 1, 41, 0)]
def pgb_23_b3 : List pg_R := [(41, .iadd, 42, 0), (42, .putfield 27, 45, 0), (45, .iinc 2 (-8), 48, 0), (48, .goto (-45), 51, 3), (51, .return_, 52, 0)]
def pgB_23 : pg_Bk := [(15, pgb_23_b0), (29, pgb_23_b1), (41, pgb_23_b2), (52, pgb_23_b3)]
set_option maxRecDepth 20000 in
theorem pgc_23 : pgB_23.all (fun q => q.2.all (pg_ok (pg_cc 23))) = true := by decide +kernel
/-- MarkovDeskLaw.end(LMarkovDesk;I[J)I -/
def pgb_24_b0 : List pg_R := [(0, .aload_n 2, 1, 0), (1, .iconst 0, 2, 0), (2, .aload_n 0, 3, 0), (3, .iload_n 1, 4, 0), (4, .invokevirtual 15, 7, 0), (7, .i2l, 8, 0), (8, .lastore, 9, 0), (9, .goto 9, 12, 18)]
def pgb_24_b1 : List pg_R := [(12, .astore_n 3, 13, 0), (13, .iconst 1, 14, 0), (14, .ireturn, 15, 0), (15, .astore_n 3, 16, 0), (16, .iconst 2, 17, 0), (17, .ireturn, 18, 0), (18, .iconst 0, 19, 0), (19, .ireturn, 20, 0)]
def pgB_24 : pg_Bk := [(12, pgb_24_b0), (20, pgb_24_b1)]
set_option maxRecDepth 20000 in
theorem pgc_24 : pgB_24.all (fun q => q.2.all (pg_ok (pg_cc 24))) = true := by decide +kernel
/-- MarkovDesk.end(I)I -/
def pgb_25_0_b0 : List pg_R := [(0, .iload_n 1, 1, 0), (1, .ifCond .lt 21, 4, 22), (4, .iload_n 1, 5, 0), (5, .sipush 8192, 8, 0), (8, .if_icmp .gt 14, 11, 22), (11, .iload_n 1, 12, 0), (12, .aload_n 0, 13, 0), (13, .getfield 15, 16, 0)]
def pgb_25_0_b1 : List pg_R := [(16, .getfield 98, 19, 0), (19, .if_icmp .le 11, 22, 30), (22, .new 102, 25, 0), (25, .dup, 26, 0), (26, .invokespecial 104, 29, 0), (29, .athrow, 30, 0), (30, .aload_n 0, 31, 0), (31, .getfield 15, 34, 0)]
def pgb_25_0_b2 : List pg_R := [(34, .iconst 0, 35, 0), (35, .putfield 98, 38, 0), (38, .aload_n 0, 39, 0), (39, .getfield 22, 42, 0), (42, .iconst 0, 43, 0), (43, .putfield 108, 46, 0), (46, .aload_n 0, 47, 0), (47, .invokevirtual 112, 50, 0)]
def pgb_25_0_b3 : List pg_R := [(50, .aload_n 0, 51, 0), (51, .getfield 31, 54, 0), (54, .iload_n 1, 55, 0), (55, .invokevirtual 115, 58, 0), (58, .iconst 0, 59, 0), (59, .istore_n 2, 60, 0), (60, .iload_n 2, 61, 0), (61, .sipush 1500, 64, 0)]
def pgb_25_0_b4 : List pg_R := [(64, .if_icmp .ge 28, 67, 92), (67, .aload_n 0, 68, 0), (68, .getfield 31, 71, 0), (71, .invokevirtual 118, 74, 0), (74, .bipush 6, 76, 0), (76, .if_icmp .ne 16, 79, 92), (79, .aload_n 0, 80, 0), (80, .getfield 31, 83, 0)]
def pgb_25_0_b5 : List pg_R := [(83, .invokevirtual 122, 86, 0), (86, .iinc 2 1, 89, 0), (89, .goto (-29), 92, 60), (92, .iconst 1, 93, 0), (93, .istore_n 2, 94, 0), (94, .iconst 0, 95, 0), (95, .istore_n 3, 96, 0), (96, .iload_n 3, 97, 0)]
def pgb_25_0_b6 : List pg_R := [(97, .iconst 3, 98, 0), (98, .if_icmp .gt 99, 101, 197), (101, .iload_n 2, 102, 0), (102, .ifCond .eq 95, 105, 197), (105, .aload_n 0, 106, 0), (106, .getfield 31, 109, 0), (109, .invokevirtual 125, 112, 0), (112, .iconst 0, 113, 0)]
def pgb_25_0_b7 : List pg_R := [(113, .istore 4, 115, 0), (115, .iload 4, 117, 0), (117, .sipush 1500, 120, 0), (120, .if_icmp .ge 27, 123, 147)]
def pgB_25_0 : pg_Bk := [(16, pgb_25_0_b0), (34, pgb_25_0_b1), (50, pgb_25_0_b2), (64, pgb_25_0_b3), (83, pgb_25_0_b4), (97, pgb_25_0_b5), (113, pgb_25_0_b6), (121, pgb_25_0_b7)]
set_option maxRecDepth 20000 in
theorem pgc_25_0 : pgB_25_0.all (fun q => q.2.all (pg_ok (pg_cc 25))) = true := by decide +kernel
/-- MarkovDesk.end(I)I -/
def pgb_25_1_b0 : List pg_R := [(123, .aload_n 0, 124, 0), (124, .getfield 31, 127, 0), (127, .invokevirtual 118, 130, 0), (130, .iconst 2, 131, 0), (131, .if_icmp .ne 16, 134, 147), (134, .aload_n 0, 135, 0), (135, .getfield 31, 138, 0), (138, .invokevirtual 128, 141, 0)]
def pgb_25_1_b1 : List pg_R := [(141, .iinc 4 1, 144, 0), (144, .goto (-29), 147, 115), (147, .iconst 0, 148, 0), (148, .istore 4, 150, 0), (150, .iload 4, 152, 0), (152, .sipush 1500, 155, 0), (155, .if_icmp .ge 28, 158, 183), (158, .aload_n 0, 159, 0)]
def pgb_25_1_b2 : List pg_R := [(159, .getfield 31, 162, 0), (162, .invokevirtual 118, 165, 0), (165, .bipush 41, 167, 0), (167, .if_icmp .ne 16, 170, 183), (170, .aload_n 0, 171, 0), (171, .getfield 31, 174, 0), (174, .invokevirtual 131, 177, 0), (177, .iinc 4 1, 180, 0)]
def pgb_25_1_b3 : List pg_R := [(180, .goto (-30), 183, 150), (183, .aload_n 0, 184, 0), (184, .getfield 31, 187, 0), (187, .invokevirtual 134, 190, 0), (190, .istore_n 2, 191, 0), (191, .iinc 3 1, 194, 0), (194, .goto (-98), 197, 96), (197, .aload_n 0, 198, 0)]
def pgb_25_1_b4 : List pg_R := [(198, .getfield 31, 201, 0), (201, .invokevirtual 138, 204, 0), (204, .aload_n 0, 205, 0), (205, .getfield 22, 208, 0), (208, .iconst 1, 209, 0), (209, .putfield 108, 212, 0), (212, .aload_n 0, 213, 0), (213, .getfield 15, 216, 0)]
def pgb_25_1_b5 : List pg_R := [(216, .getfield 141, 219, 0), (219, .ireturn, 220, 0)]
def pgB_25_1 : pg_Bk := [(141, pgb_25_1_b0), (159, pgb_25_1_b1), (180, pgb_25_1_b2), (198, pgb_25_1_b3), (216, pgb_25_1_b4), (220, pgb_25_1_b5)]
set_option maxRecDepth 20000 in
theorem pgc_25_1 : pgB_25_1.all (fun q => q.2.all (pg_ok (pg_cc 25))) = true := by decide +kernel
def pgB_25 : pg_Bk := pgB_25_0 ++ (pgB_25_1)
theorem pgc_25 : pgB_25.all (fun q => q.2.all (pg_ok (pg_cc 25))) = true := pg_all2 pgc_25_0 (pgc_25_1)
