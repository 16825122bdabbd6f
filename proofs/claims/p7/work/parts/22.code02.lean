/-- MarkovDesk$Reader.takeNewName()I -/
def pgb_64_b0 : List pg_R := [(0, .aload_n 0, 1, 0), (1, .getfield 81, 4, 0), (4, .istore_n 1, 5, 0), (5, .aload_n 0, 6, 0), (6, .invokevirtual 118, 9, 0), (9, .iconst 2, 10, 0), (10, .if_icmp .ne 11, 13, 21), (13, .aload_n 0, 14, 0)]
def pgb_64_b1 : List pg_R := [(14, .iload_n 1, 15, 0), (15, .invokevirtual 216, 18, 0), (18, .ifCond .lt 11, 21, 29), (21, .aload_n 0, 22, 0), (22, .aload_n 0, 23, 0), (23, .invokevirtual 98, 26, 0), (26, .invokevirtual 74, 29, 0), (29, .aload_n 0, 30, 0)]
def pgb_64_b2 : List pg_R := [(30, .invokevirtual 84, 33, 0), (33, .iload_n 1, 34, 0), (34, .ireturn, 35, 0)]
def pgB_64 : pg_Bk := [(14, pgb_64_b0), (30, pgb_64_b1), (35, pgb_64_b2)]
set_option maxRecDepth 20000 in
theorem pgc_64 : pgB_64.all (fun q => q.2.all (pg_ok (pg_cc 64))) = true := by decide +kernel
/-- MarkovDesk$Reader.find(I)I -/
def pgb_65_b0 : List pg_R := [(0, .iconst 0, 1, 0), (1, .istore_n 2, 2, 0), (2, .iload_n 2, 3, 0), (3, .aload_n 0, 4, 0), (4, .getfield 65, 7, 0), (7, .if_icmp .ge 28, 10, 35), (10, .aload_n 0, 11, 0), (11, .getfield 43, 14, 0)]
def pgb_65_b1 : List pg_R := [(14, .aload_n 0, 15, 0), (15, .getfield 9, 18, 0), (18, .iload_n 2, 19, 0), (19, .iaload, 20, 0), (20, .iload_n 1, 21, 0), (21, .invokevirtual 190, 24, 0), (24, .ifCond .eq 5, 27, 29), (27, .iload_n 2, 28, 0)]
def pgb_65_b2 : List pg_R := [(28, .ireturn, 29, 0), (29, .iinc 2 1, 32, 0), (32, .goto (-30), 35, 2), (35, .iconst (-1), 36, 0), (36, .ireturn, 37, 0)]
def pgB_65 : pg_Bk := [(14, pgb_65_b0), (28, pgb_65_b1), (37, pgb_65_b2)]
set_option maxRecDepth 20000 in
theorem pgc_65 : pgB_65.all (fun q => q.2.all (pg_ok (pg_cc 65))) = true := by decide +kernel
/-- MarkovDesk$Tokens.same(II)Z -/
def pgb_66_0_b0 : List pg_R := [(0, .iload_n 1, 1, 0), (1, .ifCond .lt 38, 4, 39), (4, .iload_n 2, 5, 0), (5, .ifCond .lt 34, 8, 39), (8, .iload_n 1, 9, 0), (9, .aload_n 0, 10, 0), (10, .getfield 40, 13, 0), (13, .if_icmp .ge 26, 16, 39)]
def pgb_66_0_b1 : List pg_R := [(16, .iload_n 2, 17, 0), (17, .aload_n 0, 18, 0), (18, .getfield 40, 21, 0), (21, .if_icmp .ge 18, 24, 39), (24, .aload_n 0, 25, 0), (25, .getfield 21, 28, 0), (28, .iload_n 1, 29, 0), (29, .iaload, 30, 0)]
def pgb_66_0_b2 : List pg_R := [(30, .aload_n 0, 31, 0), (31, .getfield 21, 34, 0), (34, .iload_n 2, 35, 0), (35, .iaload, 36, 0), (36, .if_icmp .eq 5, 39, 41), (39, .iconst 0, 40, 0), (40, .ireturn, 41, 0), (41, .iconst 0, 42, 0)]
def pgb_66_0_b3 : List pg_R := [(42, .istore_n 3, 43, 0), (43, .iload_n 3, 44, 0), (44, .aload_n 0, 45, 0), (45, .getfield 21, 48, 0), (48, .iload_n 1, 49, 0), (49, .iaload, 50, 0), (50, .if_icmp .ge 66, 53, 116), (53, .aload_n 0, 54, 0)]
def pgb_66_0_b4 : List pg_R := [(54, .getfield 18, 57, 0), (57, .iload_n 1, 58, 0), (58, .iaload, 59, 0), (59, .iload_n 3, 60, 0), (60, .iadd, 61, 0), (61, .istore 4, 63, 0), (63, .aload_n 0, 64, 0), (64, .getfield 18, 67, 0)]
def pgb_66_0_b5 : List pg_R := [(67, .iload_n 2, 68, 0), (68, .iaload, 69, 0), (69, .iload_n 3, 70, 0), (70, .iadd, 71, 0), (71, .istore 5, 73, 0), (73, .iload 4, 75, 0), (75, .aload_n 0, 76, 0), (76, .getfield 37, 79, 0)]
def pgb_66_0_b6 : List pg_R := [(79, .if_icmp .ge 29, 82, 108), (82, .iload 5, 84, 0), (84, .aload_n 0, 85, 0), (85, .getfield 37, 88, 0), (88, .if_icmp .ge 20, 91, 108), (91, .aload_n 0, 92, 0), (92, .getfield 9, 95, 0), (95, .iload 4, 97, 0)]
def pgb_66_0_b7 : List pg_R := [(97, .iaload, 98, 0), (98, .aload_n 0, 99, 0), (99, .getfield 9, 102, 0), (102, .iload 5, 104, 0)]
def pgB_66_0 : pg_Bk := [(16, pgb_66_0_b0), (30, pgb_66_0_b1), (42, pgb_66_0_b2), (54, pgb_66_0_b3), (67, pgb_66_0_b4), (79, pgb_66_0_b5), (97, pgb_66_0_b6), (103, pgb_66_0_b7)]
set_option maxRecDepth 20000 in
theorem pgc_66_0 : pgB_66_0.all (fun q => q.2.all (pg_ok (pg_cc 66))) = true := by decide +kernel
/-- MarkovDesk$Tokens.same(II)Z -/
def pgb_66_1_b0 : List pg_R := [(104, .iaload, 105, 0), (105, .if_icmp .eq 5, 108, 110), (108, .iconst 0, 109, 0), (109, .ireturn, 110, 0), (110, .iinc 3 1, 113, 0), (113, .goto (-70), 116, 43), (116, .iconst 1, 117, 0), (117, .ireturn, 118, 0)]
def pgB_66_1 : pg_Bk := [(118, pgb_66_1_b0)]
set_option maxRecDepth 20000 in
theorem pgc_66_1 : pgB_66_1.all (fun q => q.2.all (pg_ok (pg_cc 66))) = true := by decide +kernel
def pgB_66 : pg_Bk := pgB_66_0 ++ (pgB_66_1)
theorem pgc_66 : pgB_66.all (fun q => q.2.all (pg_ok (pg_cc 66))) = true := pg_all2 pgc_66_0 (pgc_66_1)
/-- MarkovDesk$Reader.readExpression(IZ)I -/
def pgb_67_b0 : List pg_R := [(0, .aload_n 0, 1, 0), (1, .getfield 47, 4, 0), (4, .getfield 60, 7, 0), (7, .istore_n 3, 8, 0), (8, .aload_n 0, 9, 0), (9, .iconst 0, 10, 0), (10, .putfield 219, 13, 0), (13, .aload_n 0, 14, 0)]
def pgb_67_b1 : List pg_R := [(14, .iconst 0, 15, 0), (15, .putfield 222, 18, 0), (18, .aload_n 0, 19, 0), (19, .iconst 1, 20, 0), (20, .putfield 225, 23, 0), (23, .aload_n 0, 24, 0), (24, .iload_n 2, 25, 0), (25, .putfield 228, 28, 0)]
def pgb_67_b2 : List pg_R := [(28, .iconst 1, 29, 0), (29, .istore 4, 31, 0), (31, .iconst 0, 32, 0), (32, .istore 5, 34, 0), (34, .iload 5, 36, 0), (36, .sipush 1500, 39, 0), (39, .if_icmp .gt 43, 42, 82), (42, .iload 4, 44, 0)]
def pgb_67_b3 : List pg_R := [(44, .ifCond .eq 38, 47, 82), (47, .aload_n 0, 48, 0), (48, .getfield 225, 51, 0), (51, .ifCond .eq 10, 54, 61), (54, .aload_n 0, 55, 0), (55, .invokevirtual 231, 58, 0), (58, .goto 9, 61, 67), (61, .aload_n 0, 62, 0)]
def pgb_67_b4 : List pg_R := [(62, .invokevirtual 234, 65, 0), (65, .istore 4, 67, 0), (67, .iload 4, 69, 0), (69, .ifCond .eq 7, 72, 76), (72, .aload_n 0, 73, 0), (73, .invokevirtual 84, 76, 0), (76, .iinc 5 1, 79, 0), (79, .goto (-45), 82, 34)]
def pgb_67_b5 : List pg_R := [(82, .aload_n 0, 83, 0), (83, .getfield 238, 86, 0), (86, .iload_n 1, 87, 0), (87, .if_icmp .eq 11, 90, 98), (90, .aload_n 0, 91, 0), (91, .aload_n 0, 92, 0), (92, .invokevirtual 98, 95, 0), (95, .invokevirtual 74, 98, 0)]
def pgb_67_b6 : List pg_R := [(98, .aload_n 0, 99, 0), (99, .getfield 47, 102, 0), (102, .bipush 44, 104, 0), (104, .iconst 0, 105, 0), (105, .invokevirtual 240, 108, 0), (108, .pop, 109, 0), (109, .iload_n 3, 110, 0), (110, .ireturn, 111, 0)]
def pgB_67 : pg_Bk := [(14, pgb_67_b0), (28, pgb_67_b1), (44, pgb_67_b2), (62, pgb_67_b3), (82, pgb_67_b4), (98, pgb_67_b5), (111, pgb_67_b6)]
set_option maxRecDepth 20000 in
theorem pgc_67 : pgB_67.all (fun q => q.2.all (pg_ok (pg_cc 67))) = true := by decide +kernel
/-- MarkovDesk$Reader.readOperand()V -/
def pgb_68_0_b0 : List pg_R := [(0, .aload_n 0, 1, 0), (1, .invokevirtual 118, 4, 0), (4, .istore_n 1, 5, 0), (5, .iload_n 1, 6, 0), (6, .tableswitch 421 2 39 #[199, 166, 421, 421, 421, 421, 421, 421, 421, 421, 421, 179, 179, 385, 385, 385, 421, 421, 421, 421, 421, 421, 421, 421, 421, 421, 352, 421, 421, 306, 421, 421, 421, 421, 421, 421, 421, 369], 172, 0), (172, .aload_n 0, 173, 0), (173, .iconst 3, 174, 0), (174, .aload_n 0, 175, 0)]
def pgb_68_0_b1 : List pg_R := [(175, .invokevirtual 194, 178, 0), (178, .iconst 1, 179, 0), (179, .invokevirtual 243, 182, 0), (182, .goto 253, 185, 435), (185, .aload_n 0, 186, 0), (186, .iconst 3, 187, 0), (187, .iload_n 1, 188, 0), (188, .bipush 13, 190, 0)]
def pgb_68_0_b2 : List pg_R := [(190, .if_icmp .ne 7, 193, 197), (193, .iconst 1, 194, 0), (194, .goto 4, 197, 198), (197, .iconst 0, 198, 0), (198, .iconst 2, 199, 0), (199, .invokevirtual 243, 202, 0), (202, .goto 233, 205, 435), (205, .aload_n 0, 206, 0)]
def pgb_68_0_b3 : List pg_R := [(206, .aload_n 0, 207, 0), (207, .getfield 81, 210, 0), (210, .invokevirtual 216, 213, 0), (213, .istore_n 2, 214, 0), (214, .iload_n 2, 215, 0), (215, .ifCond .lt 30, 218, 245), (218, .aload_n 0, 219, 0), (219, .getfield 15, 222, 0)]
def pgb_68_0_b4 : List pg_R := [(222, .iload_n 2, 223, 0), (223, .iaload, 224, 0), (224, .iconst 2, 225, 0), (225, .if_icmp .eq 20, 228, 245), (228, .aload_n 0, 229, 0), (229, .getfield 15, 232, 0), (232, .iload_n 2, 233, 0), (233, .iaload, 234, 0)]
def pgb_68_0_b5 : List pg_R := [(234, .iconst 1, 235, 0), (235, .if_icmp .ne 18, 238, 253), (238, .aload_n 0, 239, 0), (239, .getfield 228, 242, 0), (242, .ifCond .ne 11, 245, 253), (245, .aload_n 0, 246, 0), (246, .aload_n 0, 247, 0), (247, .invokevirtual 98, 250, 0)]
def pgb_68_0_b6 : List pg_R := [(250, .invokevirtual 74, 253, 0), (253, .aload_n 0, 254, 0), (254, .getfield 18, 257, 0), (257, .iload_n 2, 258, 0), (258, .iaload, 259, 0), (259, .istore_n 3, 260, 0), (260, .aload_n 0, 261, 0), (261, .getfield 15, 264, 0)]
def pgb_68_0_b7 : List pg_R := [(264, .iload_n 2, 265, 0), (265, .iaload, 266, 0), (266, .ifCond .ne 7, 269, 273), (269, .iconst 1, 270, 0)]
def pgB_68_0 : pg_Bk := [(175, pgb_68_0_b0), (190, pgb_68_0_b1), (206, pgb_68_0_b2), (222, pgb_68_0_b3), (234, pgb_68_0_b4), (250, pgb_68_0_b5), (264, pgb_68_0_b6), (270, pgb_68_0_b7)]
set_option maxRecDepth 20000 in
theorem pgc_68_0 : pgB_68_0.all (fun q => q.2.all (pg_ok (pg_cc 68))) = true := by decide +kernel
/-- MarkovDesk$Reader.readOperand()V -/
def pgb_68_1_b0 : List pg_R := [(270, .goto 4, 273, 274), (273, .iconst 0, 274, 0), (274, .istore 4, 276, 0), (276, .aload_n 0, 277, 0), (277, .iload 4, 279, 0), (279, .ifCond .eq 7, 282, 286), (282, .iconst 3, 283, 0), (283, .goto 4, 286, 287)]
def pgb_68_1_b1 : List pg_R := [(286, .iconst 2, 287, 0), (287, .iload_n 3, 288, 0), (288, .iload 4, 290, 0), (290, .ifCond .eq 7, 293, 297), (293, .iconst 1, 294, 0), (294, .goto 12, 297, 306), (297, .aload_n 0, 298, 0), (298, .getfield 51, 301, 0)]
def pgb_68_1_b2 : List pg_R := [(301, .getfield 124, 304, 0), (304, .iload_n 3, 305, 0), (305, .iaload, 306, 0), (306, .invokevirtual 243, 309, 0), (309, .goto 126, 312, 435), (312, .aload_n 0, 313, 0), (313, .getfield 219, 316, 0), (316, .ifCond .le 26, 319, 342)]
def pgb_68_1_b3 : List pg_R := [(319, .aload_n 0, 320, 0), (320, .getfield 27, 323, 0), (323, .aload_n 0, 324, 0), (324, .getfield 219, 327, 0), (327, .iconst 1, 328, 0), (328, .isub, 329, 0), (329, .iaload, 330, 0), (330, .iconst 5, 331, 0)]
def pgb_68_1_b4 : List pg_R := [(331, .if_icmp .le 11, 334, 342), (334, .aload_n 0, 335, 0), (335, .aload_n 0, 336, 0), (336, .invokevirtual 98, 339, 0), (339, .invokevirtual 74, 342, 0), (342, .aload_n 0, 343, 0), (343, .invokevirtual 246, 346, 0), (346, .aload_n 0, 347, 0)]
def pgb_68_1_b5 : List pg_R := [(347, .bipush 31, 349, 0), (349, .iconst 5, 350, 0), (350, .iconst 2, 351, 0), (351, .iconst (-1), 352, 0), (352, .invokevirtual 249, 355, 0), (355, .goto 80, 358, 435), (358, .aload_n 0, 359, 0), (359, .invokevirtual 246, 362, 0)]
def pgb_68_1_b6 : List pg_R := [(362, .aload_n 0, 363, 0), (363, .bipush 43, 365, 0), (365, .bipush 9, 367, 0), (367, .iconst 1, 368, 0), (368, .iconst (-1), 369, 0), (369, .invokevirtual 249, 372, 0), (372, .goto 63, 375, 435), (375, .aload_n 0, 376, 0)]
def pgb_68_1_b7 : List pg_R := [(376, .invokevirtual 246, 379, 0), (379, .aload_n 0, 380, 0), (380, .bipush 39, 382, 0), (382, .iconst 0, 383, 0)]
def pgB_68_1 : pg_Bk := [(286, pgb_68_1_b0), (301, pgb_68_1_b1), (319, pgb_68_1_b2), (331, pgb_68_1_b3), (347, pgb_68_1_b4), (362, pgb_68_1_b5), (376, pgb_68_1_b6), (383, pgb_68_1_b7)]
set_option maxRecDepth 20000 in
theorem pgc_68_1 : pgB_68_1.all (fun q => q.2.all (pg_ok (pg_cc 68))) = true := by decide +kernel
/-- MarkovDesk$Reader.readOperand()V -/
def pgb_68_2_b0 : List pg_R := [(383, .iconst 0, 384, 0), (384, .iconst (-1), 385, 0), (385, .invokevirtual 249, 388, 0), (388, .goto 47, 391, 435), (391, .aload_n 0, 392, 0), (392, .invokevirtual 246, 395, 0), (395, .aload_n 0, 396, 0), (396, .iload_n 1, 397, 0)]
def pgb_68_2_b1 : List pg_R := [(397, .iconst 0, 398, 0), (398, .iconst 0, 399, 0), (399, .iconst (-1), 400, 0), (400, .invokevirtual 249, 403, 0), (403, .aload_n 0, 404, 0), (404, .invokevirtual 84, 407, 0), (407, .aload_n 0, 408, 0), (408, .invokevirtual 118, 411, 0)]
def pgb_68_2_b2 : List pg_R := [(411, .bipush 39, 413, 0), (413, .if_icmp .eq 22, 416, 435), (416, .aload_n 0, 417, 0), (417, .aload_n 0, 418, 0), (418, .invokevirtual 98, 421, 0), (421, .invokevirtual 74, 424, 0), (424, .goto 11, 427, 435), (427, .aload_n 0, 428, 0)]
def pgb_68_2_b3 : List pg_R := [(428, .aload_n 0, 429, 0), (429, .invokevirtual 98, 432, 0), (432, .invokevirtual 74, 435, 0), (435, .return_, 436, 0)]
def pgB_68_2 : pg_Bk := [(397, pgb_68_2_b0), (411, pgb_68_2_b1), (428, pgb_68_2_b2), (436, pgb_68_2_b3)]
set_option maxRecDepth 20000 in
theorem pgc_68_2 : pgB_68_2.all (fun q => q.2.all (pg_ok (pg_cc 68))) = true := by decide +kernel
def pgB_68 : pg_Bk := pgB_68_0 ++ (pgB_68_1 ++ (pgB_68_2))
theorem pgc_68 : pgB_68.all (fun q => q.2.all (pg_ok (pg_cc 68))) = true := pg_all2 pgc_68_0 (pg_all2 pgc_68_1 (pgc_68_2))
/-- MarkovDesk$Reader.number()I -/
def pgb_69_b0 : List pg_R := [(0, .aload_n 0, 1, 0), (1, .getfield 81, 4, 0), (4, .ifCond .lt 32, 7, 36), (7, .aload_n 0, 8, 0), (8, .getfield 81, 11, 0), (11, .aload_n 0, 12, 0), (12, .getfield 43, 15, 0), (15, .getfield 270, 18, 0)]
def pgb_69_b1 : List pg_R := [(18, .if_icmp .ge 18, 21, 36), (21, .aload_n 0, 22, 0), (22, .getfield 43, 25, 0), (25, .getfield 280, 28, 0), (28, .aload_n 0, 29, 0), (29, .getfield 81, 32, 0), (32, .iaload, 33, 0), (33, .goto 4, 36, 37)]
def pgb_69_b2 : List pg_R := [(36, .iconst 0, 37, 0), (37, .ireturn, 38, 0)]
def pgB_69 : pg_Bk := [(18, pgb_69_b0), (36, pgb_69_b1), (38, pgb_69_b2)]
set_option maxRecDepth 20000 in
theorem pgc_69 : pgB_69.all (fun q => q.2.all (pg_ok (pg_cc 69))) = true := by decide +kernel
/-- MarkovDesk$Reader.operand(III)V -/
def pgb_70_b0 : List pg_R := [(0, .aload_n 0, 1, 0), (1, .getfield 47, 4, 0), (4, .iload_n 1, 5, 0), (5, .iload_n 2, 6, 0), (6, .invokevirtual 240, 9, 0), (9, .pop, 10, 0), (10, .aload_n 0, 11, 0), (11, .iload_n 3, 12, 0)]
def pgb_70_b1 : List pg_R := [(12, .putfield 238, 15, 0), (15, .aload_n 0, 16, 0), (16, .iconst 0, 17, 0), (17, .putfield 225, 20, 0), (20, .return_, 21, 0)]
def pgB_70 : pg_Bk := [(12, pgb_70_b0), (21, pgb_70_b1)]
set_option maxRecDepth 20000 in
theorem pgc_70 : pgB_70.all (fun q => q.2.all (pg_ok (pg_cc 70))) = true := by decide +kernel
/-- MarkovDesk$Machine.emit(II)I -/
def pgb_71_b0 : List pg_R := [(0, .aload_n 0, 1, 0), (1, .getfield 21, 4, 0), (4, .aload_n 0, 5, 0), (5, .getfield 9, 8, 0), (8, .arraylength, 9, 0), (9, .if_icmp .lt 5, 12, 14), (12, .iconst (-1), 13, 0), (13, .ireturn, 14, 0)]
def pgb_71_b1 : List pg_R := [(14, .aload_n 0, 15, 0), (15, .getfield 9, 18, 0), (18, .aload_n 0, 19, 0), (19, .getfield 21, 22, 0), (22, .iload_n 1, 23, 0), (23, .iastore, 24, 0), (24, .aload_n 0, 25, 0), (25, .getfield 15, 28, 0)]
def pgb_71_b2 : List pg_R := [(28, .aload_n 0, 29, 0), (29, .getfield 21, 32, 0), (32, .iload_n 2, 33, 0), (33, .iastore, 34, 0), (34, .aload_n 0, 35, 0), (35, .dup, 36, 0), (36, .getfield 21, 39, 0), (39, .iconst 1, 40, 0)]
def pgb_71_b3 : List pg_R := [(40, .iadd, 41, 0), (41, .putfield 21, 44, 0), (44, .aload_n 0, 45, 0), (45, .getfield 21, 48, 0), (48, .iconst 1, 49, 0), (49, .isub, 50, 0), (50, .ireturn, 51, 0)]
def pgB_71 : pg_Bk := [(14, pgb_71_b0), (28, pgb_71_b1), (40, pgb_71_b2), (51, pgb_71_b3)]
set_option maxRecDepth 20000 in
theorem pgc_71 : pgB_71.all (fun q => q.2.all (pg_ok (pg_cc 71))) = true := by decide +kernel
/-- MarkovDesk$Reader.nest()V -/
def pgb_72_b0 : List pg_R := [(0, .aload_n 0, 1, 0), (1, .getfield 222, 4, 0), (4, .bipush 40, 6, 0), (6, .if_icmp .lt 11, 9, 17), (9, .aload_n 0, 10, 0), (10, .aload_n 0, 11, 0), (11, .invokevirtual 98, 14, 0), (14, .invokevirtual 74, 17, 0)]
def pgb_72_b1 : List pg_R := [(17, .aload_n 0, 18, 0), (18, .dup, 19, 0), (19, .getfield 222, 22, 0), (22, .iconst 1, 23, 0), (23, .iadd, 24, 0), (24, .putfield 222, 27, 0), (27, .return_, 28, 0)]
def pgB_72 : pg_Bk := [(17, pgb_72_b0), (28, pgb_72_b1)]
set_option maxRecDepth 20000 in
theorem pgc_72 : pgB_72.all (fun q => q.2.all (pg_ok (pg_cc 72))) = true := by decide +kernel
/-- MarkovDesk$Reader.push(IIII)V -/
def pgb_73_b0 : List pg_R := [(0, .aload_n 0, 1, 0), (1, .getfield 219, 4, 0), (4, .sipush 248, 7, 0), (7, .if_icmp .lt 11, 10, 18), (10, .aload_n 0, 11, 0), (11, .aload_n 0, 12, 0), (12, .invokevirtual 98, 15, 0), (15, .invokevirtual 74, 18, 0)]
def pgb_73_b1 : List pg_R := [(18, .aload_n 0, 19, 0), (19, .getfield 24, 22, 0), (22, .aload_n 0, 23, 0), (23, .getfield 219, 26, 0), (26, .iload_n 1, 27, 0), (27, .iastore, 28, 0), (28, .aload_n 0, 29, 0), (29, .getfield 27, 32, 0)]
def pgb_73_b2 : List pg_R := [(32, .aload_n 0, 33, 0), (33, .getfield 219, 36, 0), (36, .iload_n 2, 37, 0), (37, .iastore, 38, 0), (38, .aload_n 0, 39, 0), (39, .getfield 30, 42, 0), (42, .aload_n 0, 43, 0), (43, .getfield 219, 46, 0)]
def pgb_73_b3 : List pg_R := [(46, .aload_n 0, 47, 0), (47, .invokevirtual 98, 50, 0), (50, .iastore, 51, 0), (51, .aload_n 0, 52, 0), (52, .getfield 33, 55, 0), (55, .aload_n 0, 56, 0), (56, .getfield 219, 59, 0), (59, .iload_n 3, 60, 0)]
def pgb_73_b4 : List pg_R := [(60, .iastore, 61, 0), (61, .aload_n 0, 62, 0), (62, .getfield 36, 65, 0), (65, .aload_n 0, 66, 0), (66, .getfield 219, 69, 0), (69, .iload 4, 71, 0), (71, .iastore, 72, 0), (72, .aload_n 0, 73, 0)]
def pgb_73_b5 : List pg_R := [(73, .dup, 74, 0), (74, .getfield 219, 77, 0), (77, .iconst 1, 78, 0), (78, .iadd, 79, 0), (79, .putfield 219, 82, 0), (82, .return_, 83, 0)]
def pgB_73 : pg_Bk := [(18, pgb_73_b0), (32, pgb_73_b1), (46, pgb_73_b2), (60, pgb_73_b3), (73, pgb_73_b4), (83, pgb_73_b5)]
set_option maxRecDepth 20000 in
theorem pgc_73 : pgB_73.all (fun q => q.2.all (pg_ok (pg_cc 73))) = true := by decide +kernel
/-- MarkovDesk$Reader.readOperator()Z -/
def pgb_74_0_b0 : List pg_R := [(0, .aload_n 0, 1, 0), (1, .invokevirtual 118, 4, 0), (4, .istore_n 1, 5, 0), (5, .iload_n 1, 6, 0), (6, .invokestatic 253, 9, 0), (9, .istore_n 2, 10, 0), (10, .iload_n 2, 11, 0), (11, .iconst 2, 12, 0)]
def pgb_74_0_b1 : List pg_R := [(12, .if_icmp .le 9, 15, 21), (15, .iload_n 2, 16, 0), (16, .bipush 6, 18, 0), (18, .if_icmp .ne 7, 21, 25), (21, .iconst 1, 22, 0), (22, .goto 4, 25, 26), (25, .iconst 0, 26, 0), (26, .istore_n 3, 27, 0)]
def pgb_74_0_b2 : List pg_R := [(27, .aload_n 0, 28, 0), (28, .iload_n 3, 29, 0), (29, .ifCond .eq 9, 32, 38), (32, .iload_n 2, 33, 0), (33, .iconst 1, 34, 0), (34, .iadd, 35, 0), (35, .goto 4, 38, 39), (38, .iload_n 2, 39, 0)]
def pgb_74_0_b3 : List pg_R := [(39, .invokevirtual 256, 42, 0), (42, .iload_n 2, 43, 0), (43, .bipush 6, 45, 0), (45, .if_icmp .ne 33, 48, 78), (48, .aload_n 0, 49, 0), (49, .getfield 219, 52, 0), (52, .ifCond .le 26, 55, 78), (55, .aload_n 0, 56, 0)]
def pgb_74_0_b4 : List pg_R := [(56, .getfield 27, 59, 0), (59, .aload_n 0, 60, 0), (60, .getfield 219, 63, 0), (63, .iconst 1, 64, 0), (64, .isub, 65, 0), (65, .iaload, 66, 0), (66, .bipush 6, 68, 0), (68, .if_icmp .ne 10, 71, 78)]
def pgb_74_0_b5 : List pg_R := [(71, .aload_n 0, 72, 0), (72, .iconst 1, 73, 0), (73, .invokevirtual 256, 76, 0), (76, .iconst 0, 77, 0), (77, .istore_n 2, 78, 0), (78, .iload_n 2, 79, 0), (79, .ifCond .ne 9, 82, 88), (82, .aload_n 0, 83, 0)]
def pgb_74_0_b6 : List pg_R := [(83, .iload_n 1, 84, 0), (84, .invokevirtual 259, 87, 0), (87, .ireturn, 88, 0), (88, .iload_n 2, 89, 0), (89, .iconst 2, 90, 0), (90, .if_icmp .gt 7, 93, 97), (93, .aload_n 0, 94, 0), (94, .invokevirtual 246, 97, 0)]
def pgb_74_0_b7 : List pg_R := [(97, .iload_n 1, 98, 0), (98, .bipush 32, 100, 0), (100, .if_icmp .eq 21, 103, 121), (103, .iload_n 1, 104, 0)]
def pgB_74_0 : pg_Bk := [(12, pgb_74_0_b0), (27, pgb_74_0_b1), (39, pgb_74_0_b2), (56, pgb_74_0_b3), (71, pgb_74_0_b4), (83, pgb_74_0_b5), (97, pgb_74_0_b6), (104, pgb_74_0_b7)]
set_option maxRecDepth 20000 in
theorem pgc_74_0 : pgB_74_0.all (fun q => q.2.all (pg_ok (pg_cc 74))) = true := by decide +kernel
/-- MarkovDesk$Reader.readOperator()Z -/
def pgb_74_1_b0 : List pg_R := [(104, .bipush 33, 106, 0), (106, .if_icmp .eq 15, 109, 121), (109, .iload_n 1, 110, 0), (110, .bipush 20, 112, 0), (112, .if_icmp .eq 9, 115, 121), (115, .iload_n 1, 116, 0), (116, .bipush 34, 118, 0), (118, .if_icmp .ne 7, 121, 125)]
def pgb_74_1_b1 : List pg_R := [(121, .iconst 1, 122, 0), (122, .goto 4, 125, 126), (125, .iconst 0, 126, 0), (126, .istore 4, 128, 0), (128, .iload 4, 130, 0), (130, .ifCond .eq 15, 133, 145), (133, .aload_n 0, 134, 0), (134, .getfield 47, 137, 0)]
def pgb_74_1_b2 : List pg_R := [(137, .iload_n 1, 138, 0), (138, .iconst 0, 139, 0), (139, .invokevirtual 240, 142, 0), (142, .goto 4, 145, 146), (145, .iconst (-1), 146, 0), (146, .istore 5, 148, 0), (148, .aload_n 0, 149, 0), (149, .iload_n 1, 150, 0)]
def pgb_74_1_b3 : List pg_R := [(150, .iload_n 1, 151, 0), (151, .bipush 34, 153, 0), (153, .if_icmp .ne 7, 156, 160), (156, .iconst 0, 157, 0), (157, .goto 4, 160, 161), (160, .iload_n 2, 161, 0), (161, .aload_n 0, 162, 0), (162, .getfield 238, 165, 0)]
def pgb_74_1_b4 : List pg_R := [(165, .iload 5, 167, 0), (167, .invokevirtual 249, 170, 0), (170, .aload_n 0, 171, 0), (171, .iconst 1, 172, 0), (172, .putfield 225, 175, 0), (175, .iconst 1, 176, 0), (176, .ireturn, 177, 0)]
def pgB_74_1 : pg_Bk := [(121, pgb_74_1_b0), (137, pgb_74_1_b1), (150, pgb_74_1_b2), (165, pgb_74_1_b3), (177, pgb_74_1_b4)]
set_option maxRecDepth 20000 in
theorem pgc_74_1 : pgB_74_1.all (fun q => q.2.all (pg_ok (pg_cc 74))) = true := by decide +kernel
def pgB_74 : pg_Bk := pgB_74_0 ++ (pgB_74_1)
theorem pgc_74 : pgB_74.all (fun q => q.2.all (pg_ok (pg_cc 74))) = true := pg_all2 pgc_74_0 (pgc_74_1)
/-- MarkovDesk$Reader.rankOf(I)I -/
def pgb_75_b0 : List pg_R := [(0, .iload_n 0, 1, 0), (1, .tableswitch 92 20 34 #[77, 83, 83, 83, 83, 83, 83, 86, 86, 89, 92, 92, 81, 79, 75], 76, 0), (76, .iconst 1, 77, 0), (77, .ireturn, 78, 0), (78, .iconst 2, 79, 0), (79, .ireturn, 80, 0), (80, .iconst 3, 81, 0), (81, .ireturn, 82, 0)]
def pgb_75_b1 : List pg_R := [(82, .iconst 4, 83, 0), (83, .ireturn, 84, 0), (84, .bipush 6, 86, 0), (86, .ireturn, 87, 0), (87, .bipush 7, 89, 0), (89, .ireturn, 90, 0), (90, .bipush 8, 92, 0), (92, .ireturn, 93, 0)]
def pgb_75_b2 : List pg_R := [(93, .iconst 0, 94, 0), (94, .ireturn, 95, 0)]
def pgB_75 : pg_Bk := [(82, pgb_75_b0), (93, pgb_75_b1), (95, pgb_75_b2)]
set_option maxRecDepth 20000 in
theorem pgc_75 : pgB_75.all (fun q => q.2.all (pg_ok (pg_cc 75))) = true := by decide +kernel
/-- MarkovDesk$Reader.settle(I)V -/
def pgb_76_0_b0 : List pg_R := [(0, .iconst 0, 1, 0), (1, .istore_n 2, 2, 0), (2, .iload_n 2, 3, 0), (3, .sipush 248, 6, 0), (6, .if_icmp .ge 189, 9, 195), (9, .aload_n 0, 10, 0), (10, .getfield 219, 13, 0), (13, .ifCond .le 182, 16, 195)]
def pgb_76_0_b1 : List pg_R := [(16, .aload_n 0, 17, 0), (17, .getfield 27, 20, 0), (20, .aload_n 0, 21, 0), (21, .getfield 219, 24, 0), (24, .iconst 1, 25, 0), (25, .isub, 26, 0), (26, .iaload, 27, 0), (27, .iload_n 1, 28, 0)]
def pgb_76_0_b2 : List pg_R := [(28, .if_icmp .lt 167, 31, 195), (31, .aload_n 0, 32, 0), (32, .getfield 219, 35, 0), (35, .iconst 1, 36, 0), (36, .isub, 37, 0), (37, .istore_n 3, 38, 0), (38, .aload_n 0, 39, 0), (39, .getfield 24, 42, 0)]
def pgb_76_0_b3 : List pg_R := [(42, .iload_n 3, 43, 0), (43, .iaload, 44, 0), (44, .istore 4, 46, 0), (46, .aload_n 0, 47, 0), (47, .iload 4, 49, 0), (49, .aload_n 0, 50, 0), (50, .getfield 27, 53, 0), (53, .iload_n 3, 54, 0)]
def pgb_76_0_b4 : List pg_R := [(54, .iaload, 55, 0), (55, .aload_n 0, 56, 0), (56, .getfield 33, 59, 0), (59, .iload_n 3, 60, 0), (60, .iaload, 61, 0), (61, .invokevirtual 263, 64, 0), (64, .ifCond .ne 13, 67, 77), (67, .aload_n 0, 68, 0)]
def pgb_76_0_b5 : List pg_R := [(68, .aload_n 0, 69, 0), (69, .getfield 30, 72, 0), (72, .iload_n 3, 73, 0), (73, .iaload, 74, 0), (74, .invokevirtual 74, 77, 0), (77, .aload_n 0, 78, 0), (78, .getfield 36, 81, 0), (81, .iload_n 3, 82, 0)]
def pgb_76_0_b6 : List pg_R := [(82, .iaload, 83, 0), (83, .ifCond .lt 19, 86, 102), (86, .aload_n 0, 87, 0), (87, .getfield 47, 90, 0), (90, .aload_n 0, 91, 0), (91, .getfield 36, 94, 0), (94, .iload_n 3, 95, 0), (95, .iaload, 96, 0)]
def pgb_76_0_b7 : List pg_R := [(96, .invokevirtual 267, 99, 0), (99, .goto 14, 102, 113), (102, .aload_n 0, 103, 0), (103, .getfield 47, 106, 0)]
def pgB_76_0 : pg_Bk := [(16, pgb_76_0_b0), (28, pgb_76_0_b1), (42, pgb_76_0_b2), (54, pgb_76_0_b3), (68, pgb_76_0_b4), (82, pgb_76_0_b5), (96, pgb_76_0_b6), (104, pgb_76_0_b7)]
set_option maxRecDepth 20000 in
theorem pgc_76_0 : pgB_76_0.all (fun q => q.2.all (pg_ok (pg_cc 76))) = true := by decide +kernel
/-- MarkovDesk$Reader.settle(I)V -/
def pgb_76_1_b0 : List pg_R := [(106, .iload 4, 108, 0), (108, .iconst 0, 109, 0), (109, .invokevirtual 240, 112, 0), (112, .pop, 113, 0), (113, .aload_n 0, 114, 0), (114, .getfield 27, 117, 0), (117, .iload_n 3, 118, 0), (118, .iaload, 119, 0)]
def pgb_76_1_b1 : List pg_R := [(119, .iconst 1, 120, 0), (120, .if_icmp .eq 23, 123, 143), (123, .aload_n 0, 124, 0), (124, .aload_n 0, 125, 0), (125, .getfield 27, 128, 0), (128, .iload_n 3, 129, 0), (129, .iaload, 130, 0), (130, .bipush 7, 132, 0)]
def pgb_76_1_b2 : List pg_R := [(132, .if_icmp .lt 7, 135, 139), (135, .iconst 1, 136, 0), (136, .goto 4, 139, 140), (139, .iconst 2, 140, 0), (140, .putfield 238, 143, 0), (143, .aload_n 0, 144, 0), (144, .getfield 27, 147, 0), (147, .iload_n 3, 148, 0)]
def pgb_76_1_b3 : List pg_R := [(148, .iaload, 149, 0), (149, .iconst 2, 150, 0), (150, .if_icmp .le 24, 153, 174), (153, .aload_n 0, 154, 0), (154, .getfield 27, 157, 0), (157, .iload_n 3, 158, 0), (158, .iaload, 159, 0), (159, .iconst 5, 160, 0)]
def pgb_76_1_b4 : List pg_R := [(160, .if_icmp .eq 14, 163, 174), (163, .aload_n 0, 164, 0), (164, .getfield 27, 167, 0), (167, .iload_n 3, 168, 0), (168, .iaload, 169, 0), (169, .bipush 9, 171, 0), (171, .if_icmp .ne 13, 174, 184), (174, .aload_n 0, 175, 0)]
def pgb_76_1_b5 : List pg_R := [(175, .dup, 176, 0), (176, .getfield 222, 179, 0), (179, .iconst 1, 180, 0), (180, .isub, 181, 0), (181, .putfield 222, 184, 0), (184, .aload_n 0, 185, 0), (185, .iload_n 3, 186, 0), (186, .putfield 219, 189, 0)]
def pgb_76_1_b6 : List pg_R := [(189, .iinc 2 1, 192, 0), (192, .goto (-190), 195, 2), (195, .return_, 196, 0)]
def pgB_76_1 : pg_Bk := [(119, pgb_76_1_b0), (132, pgb_76_1_b1), (148, pgb_76_1_b2), (160, pgb_76_1_b3), (175, pgb_76_1_b4), (189, pgb_76_1_b5), (196, pgb_76_1_b6)]
set_option maxRecDepth 20000 in
theorem pgc_76_1 : pgB_76_1.all (fun q => q.2.all (pg_ok (pg_cc 76))) = true := by decide +kernel
def pgB_76 : pg_Bk := pgB_76_0 ++ (pgB_76_1)
theorem pgc_76 : pgB_76.all (fun q => q.2.all (pg_ok (pg_cc 76))) = true := pg_all2 pgc_76_0 (pgc_76_1)
/-- MarkovDesk$Reader.typesFit(III)Z -/
def pgb_77_b0 : List pg_R := [(0, .iload_n 2, 1, 0), (1, .iconst 1, 2, 0), (2, .if_icmp .eq 15, 5, 17), (5, .iload_n 1, 6, 0), (6, .bipush 24, 8, 0), (8, .if_icmp .eq 9, 11, 17), (11, .iload_n 1, 12, 0), (12, .bipush 21, 14, 0)]
def pgb_77_b1 : List pg_R := [(14, .if_icmp .ne 17, 17, 31), (17, .iload_n 3, 18, 0), (18, .aload_n 0, 19, 0), (19, .getfield 238, 22, 0), (22, .if_icmp .ne 7, 25, 29), (25, .iconst 1, 26, 0), (26, .goto 4, 29, 30), (29, .iconst 0, 30, 0)]
def pgb_77_b2 : List pg_R := [(30, .ireturn, 31, 0), (31, .iload_n 2, 32, 0), (32, .bipush 6, 34, 0), (34, .if_icmp .lt 7, 37, 41), (37, .iconst 1, 38, 0), (38, .goto 4, 41, 42), (41, .iconst 2, 42, 0), (42, .istore 4, 44, 0)]
def pgb_77_b3 : List pg_R := [(44, .iload_n 3, 45, 0), (45, .iload 4, 47, 0), (47, .if_icmp .ne 16, 50, 63), (50, .aload_n 0, 51, 0), (51, .getfield 238, 54, 0), (54, .iload 4, 56, 0), (56, .if_icmp .ne 7, 59, 63), (59, .iconst 1, 60, 0)]
def pgb_77_b4 : List pg_R := [(60, .goto 4, 63, 64), (63, .iconst 0, 64, 0), (64, .ireturn, 65, 0)]
def pgB_77 : pg_Bk := [(14, pgb_77_b0), (30, pgb_77_b1), (44, pgb_77_b2), (60, pgb_77_b3), (65, pgb_77_b4)]
set_option maxRecDepth 20000 in
theorem pgc_77 : pgB_77.all (fun q => q.2.all (pg_ok (pg_cc 77))) = true := by decide +kernel
/-- MarkovDesk$Machine.aim(I)V -/
def pgb_78_b0 : List pg_R := [(0, .iload_n 1, 1, 0), (1, .ifCond .lt 21, 4, 22), (4, .iload_n 1, 5, 0), (5, .aload_n 0, 6, 0), (6, .getfield 21, 9, 0), (9, .if_icmp .ge 13, 12, 22), (12, .aload_n 0, 13, 0), (13, .getfield 15, 16, 0)]
def pgb_78_b1 : List pg_R := [(16, .iload_n 1, 17, 0), (17, .aload_n 0, 18, 0), (18, .getfield 21, 21, 0), (21, .iastore, 22, 0), (22, .return_, 23, 0)]
def pgB_78 : pg_Bk := [(16, pgb_78_b0), (23, pgb_78_b1)]
set_option maxRecDepth 20000 in
theorem pgc_78 : pgB_78.all (fun q => q.2.all (pg_ok (pg_cc 78))) = true := by decide +kernel
/-- MarkovDesk$Reader.readBracket(I)Z -/
def pgb_79_0_b0 : List pg_R := [(0, .aload_n 0, 1, 0), (1, .getfield 219, 4, 0), (4, .ifCond .ne 5, 7, 9), (7, .iconst 0, 8, 0), (8, .ireturn, 9, 0), (9, .aload_n 0, 10, 0), (10, .getfield 219, 13, 0), (13, .iconst 1, 14, 0)]
def pgb_79_0_b1 : List pg_R := [(14, .isub, 15, 0), (15, .istore_n 2, 16, 0), (16, .aload_n 0, 17, 0), (17, .getfield 24, 20, 0), (20, .iload_n 2, 21, 0), (21, .iaload, 22, 0), (22, .istore_n 3, 23, 0), (23, .iload_n 3, 24, 0)]
def pgb_79_0_b2 : List pg_R := [(24, .bipush 15, 26, 0), (26, .if_icmp .eq 15, 29, 41), (29, .iload_n 3, 30, 0), (30, .bipush 16, 32, 0), (32, .if_icmp .eq 9, 35, 41), (35, .iload_n 3, 36, 0), (36, .bipush 17, 38, 0), (38, .if_icmp .ne 7, 41, 45)]
def pgb_79_0_b3 : List pg_R := [(41, .iconst 1, 42, 0), (42, .goto 4, 45, 46), (45, .iconst 0, 46, 0), (46, .istore 4, 48, 0), (48, .iload_n 3, 49, 0), (49, .bipush 34, 51, 0), (51, .if_icmp .ne 81, 54, 132), (54, .iload_n 1, 55, 0)]
def pgb_79_0_b4 : List pg_R := [(55, .bipush 35, 57, 0), (57, .if_icmp .ne 75, 60, 132), (60, .aload_n 0, 61, 0), (61, .getfield 47, 64, 0), (64, .bipush 35, 66, 0), (66, .iconst 0, 67, 0), (67, .invokevirtual 240, 70, 0), (70, .istore 5, 72, 0)]
def pgb_79_0_b5 : List pg_R := [(72, .aload_n 0, 73, 0), (73, .getfield 47, 76, 0), (76, .aload_n 0, 77, 0), (77, .getfield 36, 80, 0), (80, .iload_n 2, 81, 0), (81, .iaload, 82, 0), (82, .invokevirtual 267, 85, 0), (85, .aload_n 0, 86, 0)]
def pgb_79_0_b6 : List pg_R := [(86, .getfield 36, 89, 0), (89, .iload_n 2, 90, 0), (90, .iload 5, 92, 0), (92, .iastore, 93, 0), (93, .aload_n 0, 94, 0), (94, .getfield 27, 97, 0), (97, .iload_n 2, 98, 0), (98, .iconst 1, 99, 0)]
def pgb_79_0_b7 : List pg_R := [(99, .iastore, 100, 0), (100, .aload_n 0, 101, 0), (101, .getfield 33, 104, 0), (104, .iload_n 2, 105, 0)]
def pgB_79_0 : pg_Bk := [(14, pgb_79_0_b0), (24, pgb_79_0_b1), (41, pgb_79_0_b2), (55, pgb_79_0_b3), (72, pgb_79_0_b4), (86, pgb_79_0_b5), (99, pgb_79_0_b6), (105, pgb_79_0_b7)]
set_option maxRecDepth 20000 in
theorem pgc_79_0 : pgB_79_0.all (fun q => q.2.all (pg_ok (pg_cc 79))) = true := by decide +kernel
/-- MarkovDesk$Reader.readBracket(I)Z -/
def pgb_79_1_b0 : List pg_R := [(105, .aload_n 0, 106, 0), (106, .getfield 33, 109, 0), (109, .iload_n 2, 110, 0), (110, .iaload, 111, 0), (111, .iconst 2, 112, 0), (112, .if_icmp .ne 10, 115, 122), (115, .aload_n 0, 116, 0), (116, .getfield 238, 119, 0)]
def pgb_79_1_b1 : List pg_R := [(119, .goto 4, 122, 123), (122, .iconst 0, 123, 0), (123, .iastore, 124, 0), (124, .aload_n 0, 125, 0), (125, .iconst 1, 126, 0), (126, .putfield 225, 129, 0), (129, .goto 110, 132, 239), (132, .iload_n 3, 133, 0)]
def pgb_79_1_b2 : List pg_R := [(133, .bipush 39, 135, 0), (135, .if_icmp .ne 27, 138, 162), (138, .iload_n 1, 139, 0), (139, .bipush 40, 141, 0), (141, .if_icmp .ne 21, 144, 162), (144, .aload_n 0, 145, 0), (145, .dup, 146, 0), (146, .getfield 222, 149, 0)]
def pgb_79_1_b3 : List pg_R := [(149, .iconst 1, 150, 0), (150, .isub, 151, 0), (151, .putfield 222, 154, 0), (154, .aload_n 0, 155, 0), (155, .iload_n 2, 156, 0), (156, .putfield 219, 159, 0), (159, .goto 80, 162, 239), (162, .iload 4, 164, 0)]
def pgb_79_1_b4 : List pg_R := [(164, .ifCond .eq 36, 167, 200), (167, .aload_n 0, 168, 0), (168, .getfield 33, 171, 0), (171, .iload_n 2, 172, 0), (172, .iaload, 173, 0), (173, .ifCond .ne 27, 176, 200), (176, .iload_n 1, 177, 0), (177, .bipush 37, 179, 0)]
def pgb_79_1_b5 : List pg_R := [(179, .if_icmp .ne 21, 182, 200), (182, .aload_n 0, 183, 0), (183, .getfield 33, 186, 0), (186, .iload_n 2, 187, 0), (187, .aload_n 0, 188, 0), (188, .getfield 238, 191, 0), (191, .iastore, 192, 0), (192, .aload_n 0, 193, 0)]
def pgb_79_1_b6 : List pg_R := [(193, .iconst 1, 194, 0), (194, .putfield 225, 197, 0), (197, .goto 42, 200, 239), (200, .iload 4, 202, 0), (202, .ifCond .eq 29, 205, 231), (205, .aload_n 0, 206, 0), (206, .getfield 33, 209, 0), (209, .iload_n 2, 210, 0)]
def pgb_79_1_b7 : List pg_R := [(210, .iaload, 211, 0), (211, .ifCond .eq 20, 214, 231), (214, .iload_n 1, 215, 0), (215, .bipush 40, 217, 0)]
def pgB_79_1 : pg_Bk := [(119, pgb_79_1_b0), (133, pgb_79_1_b1), (149, pgb_79_1_b2), (164, pgb_79_1_b3), (179, pgb_79_1_b4), (193, pgb_79_1_b5), (210, pgb_79_1_b6), (216, pgb_79_1_b7)]
set_option maxRecDepth 20000 in
theorem pgc_79_1 : pgB_79_1.all (fun q => q.2.all (pg_ok (pg_cc 79))) = true := by decide +kernel
/-- MarkovDesk$Reader.readBracket(I)Z -/
def pgb_79_2_b0 : List pg_R := [(217, .if_icmp .ne 14, 220, 231), (220, .aload_n 0, 221, 0), (221, .getfield 27, 224, 0), (224, .iload_n 2, 225, 0), (225, .bipush 9, 227, 0), (227, .iastore, 228, 0), (228, .goto 11, 231, 239), (231, .aload_n 0, 232, 0)]
def pgb_79_2_b1 : List pg_R := [(232, .aload_n 0, 233, 0), (233, .invokevirtual 98, 236, 0), (236, .invokevirtual 74, 239, 0), (239, .iconst 1, 240, 0), (240, .ireturn, 241, 0)]
def pgB_79_2 : pg_Bk := [(232, pgb_79_2_b0), (241, pgb_79_2_b1)]
set_option maxRecDepth 20000 in
theorem pgc_79_2 : pgB_79_2.all (fun q => q.2.all (pg_ok (pg_cc 79))) = true := by decide +kernel
def pgB_79 : pg_Bk := pgB_79_0 ++ (pgB_79_1 ++ (pgB_79_2))
theorem pgc_79 : pgB_79.all (fun q => q.2.all (pg_ok (pg_cc 79))) = true := pg_all2 pgc_79_0 (pg_all2 pgc_79_1 (pgc_79_2))
/-- MarkovDesk$Reader.constant(II)I -/
def pgb_80_b0 : List pg_R := [(0, .aload_n 0, 1, 0), (1, .getfield 47, 4, 0), (4, .iload_n 1, 5, 0), (5, .aload_n 0, 6, 0), (6, .getfield 51, 9, 0), (9, .getfield 127, 12, 0), (12, .iconst 0, 13, 0), (13, .invokevirtual 141, 16, 0)]
def pgb_80_b1 : List pg_R := [(16, .istore_n 3, 17, 0), (17, .aload_n 0, 18, 0), (18, .getfield 47, 21, 0), (21, .getfield 145, 24, 0), (24, .ifCond .eq 8, 27, 32), (27, .aload_n 0, 28, 0), (28, .iload_n 2, 29, 0), (29, .invokevirtual 74, 32, 0)]
def pgb_80_b2 : List pg_R := [(32, .aload_n 0, 33, 0), (33, .getfield 47, 36, 0), (36, .iload_n 1, 37, 0), (37, .putfield 60, 40, 0), (40, .iload_n 3, 41, 0), (41, .ireturn, 42, 0)]
def pgB_80 : pg_Bk := [(16, pgb_80_b0), (32, pgb_80_b1), (42, pgb_80_b2)]
set_option maxRecDepth 20000 in
theorem pgc_80 : pgB_80.all (fun q => q.2.all (pg_ok (pg_cc 80))) = true := by decide +kernel
/-- MarkovDesk$Machine.run(I[II)I -/
def pgb_81_0_b0 : List pg_R := [(0, .aload_n 0, 1, 0), (1, .iconst 0, 2, 0), (2, .putfield 25, 5, 0), (5, .iconst 1, 6, 0), (6, .istore 4, 8, 0), (8, .iload_n 1, 9, 0), (9, .istore 5, 11, 0), (11, .iconst 0, 12, 0)]
def pgb_81_0_b1 : List pg_R := [(12, .istore 6, 14, 0), (14, .iload 6, 16, 0), (16, .sipush 1501, 19, 0), (19, .if_icmp .ge 394, 22, 413), (22, .aload_n 0, 23, 0), (23, .getfield 25, 26, 0), (26, .ifCond .ne 387, 29, 413), (29, .iload 5, 31, 0)]
def pgb_81_0_b2 : List pg_R := [(31, .ifCond .lt 382, 34, 413), (34, .iload 5, 36, 0), (36, .aload_n 0, 37, 0), (37, .getfield 21, 40, 0), (40, .if_icmp .ge 373, 43, 413), (43, .iload 4, 45, 0), (45, .iconst 1, 46, 0), (46, .if_icmp .lt 367, 49, 413)]
def pgb_81_0_b3 : List pg_R := [(49, .iload 4, 51, 0), (51, .iconst 1, 52, 0), (52, .iadd, 53, 0), (53, .aload_n 0, 54, 0), (54, .getfield 18, 57, 0), (57, .arraylength, 58, 0), (58, .if_icmp .lt 6, 61, 64), (61, .goto 352, 64, 413)]
def pgb_81_0_b4 : List pg_R := [(64, .aload_n 0, 65, 0), (65, .getfield 9, 68, 0), (68, .iload 5, 70, 0), (70, .iaload, 71, 0), (71, .istore 7, 73, 0), (73, .aload_n 0, 74, 0), (74, .getfield 15, 77, 0), (77, .iload 5, 79, 0)]
def pgb_81_0_b5 : List pg_R := [(79, .iaload, 80, 0), (80, .istore 8, 82, 0), (82, .iinc 5 1, 85, 0), (85, .iload 7, 87, 0), (87, .lookupswitch 288 #[(2, 112), (3, 97), (20, 201), (31, 151), (32, 201), (33, 201), (34, 201), (35, 194), (43, 170), (44, 89)], 176, 0), (176, .aload_n 0, 177, 0), (177, .getfield 18, 180, 0), (180, .iload 4, 182, 0)]
def pgb_81_0_b6 : List pg_R := [(182, .iaload, 183, 0), (183, .ireturn, 184, 0), (184, .iinc 4 1, 187, 0), (187, .aload_n 0, 188, 0), (188, .getfield 18, 191, 0), (191, .iload 4, 193, 0), (193, .iload 8, 195, 0), (195, .iastore, 196, 0)]
def pgb_81_0_b7 : List pg_R := [(196, .goto 211, 199, 407), (199, .iinc 4 1, 202, 0), (202, .iload_n 3, 203, 0), (203, .iload 8, 205, 0)]
def pgB_81_0 : pg_Bk := [(12, pgb_81_0_b0), (31, pgb_81_0_b1), (49, pgb_81_0_b2), (64, pgb_81_0_b3), (79, pgb_81_0_b4), (182, pgb_81_0_b5), (196, pgb_81_0_b6), (204, pgb_81_0_b7)]
set_option maxRecDepth 20000 in
theorem pgc_81_0 : pgB_81_0.all (fun q => q.2.all (pg_ok (pg_cc 81))) = true := by decide +kernel
/-- MarkovDesk$Machine.run(I[II)I -/
def pgb_81_1_b0 : List pg_R := [(205, .iadd, 206, 0), (206, .istore 9, 208, 0), (208, .aload_n 0, 209, 0), (209, .getfield 18, 212, 0), (212, .iload 4, 214, 0), (214, .iload 9, 216, 0), (216, .ifCond .lt 17, 219, 233), (219, .iload 9, 221, 0)]
def pgb_81_1_b1 : List pg_R := [(221, .aload_n 2, 222, 0), (222, .arraylength, 223, 0), (223, .if_icmp .ge 10, 226, 233), (226, .aload_n 2, 227, 0), (227, .iload 9, 229, 0), (229, .iaload, 230, 0), (230, .goto 4, 233, 234), (233, .iconst 0, 234, 0)]
def pgb_81_1_b2 : List pg_R := [(234, .iastore, 235, 0), (235, .goto 172, 238, 407), (238, .aload_n 0, 239, 0), (239, .getfield 18, 242, 0), (242, .iload 4, 244, 0), (244, .iconst 1, 245, 0), (245, .aload_n 0, 246, 0), (246, .getfield 18, 249, 0)]
def pgb_81_1_b3 : List pg_R := [(249, .iload 4, 251, 0), (251, .iaload, 252, 0), (252, .isub, 253, 0), (253, .iastore, 254, 0), (254, .goto 153, 257, 407), (257, .aload_n 0, 258, 0), (258, .getfield 18, 261, 0), (261, .iload 4, 263, 0)]
def pgb_81_1_b4 : List pg_R := [(263, .aload_n 0, 264, 0), (264, .bipush 28, 266, 0), (266, .iconst 0, 267, 0), (267, .aload_n 0, 268, 0), (268, .getfield 18, 271, 0), (271, .iload 4, 273, 0), (273, .iaload, 274, 0), (274, .invokevirtual 29, 277, 0)]
def pgb_81_1_b5 : List pg_R := [(277, .iastore, 278, 0), (278, .goto 129, 281, 407), (281, .iload 8, 283, 0), (283, .istore 5, 285, 0), (285, .goto 122, 288, 407), (288, .aload_n 0, 289, 0), (289, .getfield 18, 292, 0), (292, .iload 4, 294, 0)]
def pgb_81_1_b6 : List pg_R := [(294, .iaload, 295, 0), (295, .ifCond .eq 7, 298, 302), (298, .iconst 1, 299, 0), (299, .goto 4, 302, 303), (302, .iconst 0, 303, 0), (303, .iload 7, 305, 0), (305, .bipush 33, 307, 0), (307, .if_icmp .ne 7, 310, 314)]
def pgb_81_1_b7 : List pg_R := [(310, .iconst 1, 311, 0), (311, .goto 4, 314, 315), (314, .iconst 0, 315, 0), (315, .if_icmp .ne 7, 318, 322)]
def pgB_81_1 : pg_Bk := [(221, pgb_81_1_b0), (234, pgb_81_1_b1), (249, pgb_81_1_b2), (263, pgb_81_1_b3), (277, pgb_81_1_b4), (294, pgb_81_1_b5), (310, pgb_81_1_b6), (316, pgb_81_1_b7)]
set_option maxRecDepth 20000 in
theorem pgc_81_1 : pgB_81_1.all (fun q => q.2.all (pg_ok (pg_cc 81))) = true := by decide +kernel
/-- MarkovDesk$Machine.run(I[II)I -/
def pgb_81_2_b0 : List pg_R := [(318, .iconst 1, 319, 0), (319, .goto 4, 322, 323), (322, .iconst 0, 323, 0), (323, .istore 10, 325, 0), (325, .iload 10, 327, 0), (327, .ifCond .eq 7, 330, 334), (330, .iload 8, 332, 0), (332, .istore 5, 334, 0)]
def pgb_81_2_b1 : List pg_R := [(334, .iload 7, 336, 0), (336, .bipush 20, 338, 0), (338, .if_icmp .ne 19, 341, 357), (341, .iload 10, 343, 0), (343, .ifCond .eq 14, 346, 357), (346, .aload_n 0, 347, 0), (347, .getfield 18, 350, 0), (350, .iload 4, 352, 0)]
def pgb_81_2_b2 : List pg_R := [(352, .iconst 1, 353, 0), (353, .iastore, 354, 0), (354, .goto 53, 357, 407), (357, .iload 7, 359, 0), (359, .bipush 34, 361, 0), (361, .if_icmp .eq 8, 364, 369), (364, .iload 10, 366, 0), (366, .ifCond .ne 41, 369, 407)]
def pgb_81_2_b3 : List pg_R := [(369, .iinc 4 (-1), 372, 0), (372, .goto 35, 375, 407), (375, .iinc 4 (-1), 378, 0), (378, .aload_n 0, 379, 0), (379, .getfield 18, 382, 0), (382, .iload 4, 384, 0), (384, .aload_n 0, 385, 0), (385, .iload 7, 387, 0)]
def pgb_81_2_b4 : List pg_R := [(387, .aload_n 0, 388, 0), (388, .getfield 18, 391, 0), (391, .iload 4, 393, 0), (393, .iaload, 394, 0), (394, .aload_n 0, 395, 0), (395, .getfield 18, 398, 0), (398, .iload 4, 400, 0), (400, .iconst 1, 401, 0)]
def pgb_81_2_b5 : List pg_R := [(401, .iadd, 402, 0), (402, .iaload, 403, 0), (403, .invokevirtual 29, 406, 0), (406, .iastore, 407, 0), (407, .iinc 6 1, 410, 0), (410, .goto (-396), 413, 14), (413, .aload_n 0, 414, 0), (414, .iconst 1, 415, 0)]
def pgb_81_2_b6 : List pg_R := [(415, .putfield 25, 418, 0), (418, .iconst 0, 419, 0), (419, .ireturn, 420, 0)]
def pgB_81_2 : pg_Bk := [(334, pgb_81_2_b0), (352, pgb_81_2_b1), (369, pgb_81_2_b2), (387, pgb_81_2_b3), (401, pgb_81_2_b4), (415, pgb_81_2_b5), (420, pgb_81_2_b6)]
set_option maxRecDepth 20000 in
theorem pgc_81_2 : pgB_81_2.all (fun q => q.2.all (pg_ok (pg_cc 81))) = true := by decide +kernel
def pgB_81 : pg_Bk := pgB_81_0 ++ (pgB_81_1 ++ (pgB_81_2))
theorem pgc_81 : pgB_81.all (fun q => q.2.all (pg_ok (pg_cc 81))) = true := pg_all2 pgc_81_0 (pg_all2 pgc_81_1 (pgc_81_2))
