/-- MarkovDeskModel.begun()Z -/
def pgb_240_b0 : List pg_R := [(0, .aload_n 0, 1, 0), (1, .getfield 558, 4, 0), (4, .sipush 200, 7, 0), (7, .if_icmp .ne 10, 10, 17), (10, .aload_n 0, 11, 0), (11, .iconst 3, 12, 0), (12, .putfield 564, 15, 0), (15, .iconst 0, 16, 0)]
def pgb_240_b1 : List pg_R := [(16, .ireturn, 17, 0), (17, .aload_n 0, 18, 0), (18, .getfield 175, 21, 0), (21, .aload_n 0, 22, 0), (22, .dup, 23, 0), (23, .getfield 558, 26, 0), (26, .dup_x1, 27, 0), (27, .iconst 1, 28, 0)]
def pgb_240_b2 : List pg_R := [(28, .iadd, 29, 0), (29, .putfield 558, 32, 0), (32, .aload_n 0, 33, 0), (33, .getfield 561, 36, 0), (36, .iastore, 37, 0), (37, .iconst 1, 38, 0), (38, .ireturn, 39, 0)]
def pgB_240 : pg_Bk := [(16, pgb_240_b0), (28, pgb_240_b1), (39, pgb_240_b2)]
set_option maxRecDepth 20000 in
theorem pgc_240 : pgB_240.all (fun q => q.2.all (pg_ok (pg_cc 240))) = true := by decide +kernel
/-- MarkovDeskModel.outcome(II)V -/
def pgb_241_0_b0 : List pg_R := [(0, .iconst 0, 1, 0), (1, .istore_n 3, 2, 0), (2, .iload_n 3, 3, 0), (3, .aload_n 0, 4, 0), (4, .getfield 493, 7, 0), (7, .if_icmp .ge 21, 10, 28), (10, .aload_n 0, 11, 0), (11, .getfield 181, 14, 0)]
def pgb_241_0_b1 : List pg_R := [(14, .iload_n 3, 15, 0), (15, .aload_n 0, 16, 0), (16, .getfield 166, 19, 0), (19, .iload_n 3, 20, 0), (20, .iaload, 21, 0), (21, .iastore, 22, 0), (22, .iinc 3 1, 25, 0), (25, .goto (-23), 28, 2)]
def pgb_241_0_b2 : List pg_R := [(28, .lconst 1, 29, 0), (29, .lstore_n 3, 30, 0), (30, .lconst 1, 31, 0), (31, .lstore 5, 33, 0), (33, .iconst 0, 34, 0), (34, .istore 7, 36, 0), (36, .iload 7, 38, 0), (38, .iload_n 1, 39, 0)]
def pgb_241_0_b3 : List pg_R := [(39, .if_icmp .ge 154, 42, 193), (42, .aload_n 0, 43, 0), (43, .getfield 184, 46, 0), (46, .iload 7, 48, 0), (48, .iaload, 49, 0), (49, .bipush 6, 51, 0), (51, .imul, 52, 0), (52, .aload_n 0, 53, 0)]
def pgb_241_0_b4 : List pg_R := [(53, .getfield 190, 56, 0), (56, .iload 7, 58, 0), (58, .iaload, 59, 0), (59, .iadd, 60, 0), (60, .istore 8, 62, 0), (62, .lload_n 3, 63, 0), (63, .aload_n 0, 64, 0), (64, .getfield 147, 67, 0)]
def pgb_241_0_b5 : List pg_R := [(67, .iload 8, 69, 0), (69, .iaload, 70, 0), (70, .i2l, 71, 0), (71, .lmul, 72, 0), (72, .lstore_n 3, 73, 0), (73, .lload 5, 75, 0), (75, .aload_n 0, 76, 0), (76, .getfield 150, 79, 0)]
def pgb_241_0_b6 : List pg_R := [(79, .iload 8, 81, 0), (81, .iaload, 82, 0), (82, .i2l, 83, 0), (83, .lmul, 84, 0), (84, .lstore 5, 86, 0), (86, .iconst 0, 87, 0), (87, .istore 9, 89, 0), (89, .iload 9, 91, 0)]
def pgb_241_0_b7 : List pg_R := [(91, .aload_n 0, 92, 0), (92, .getfield 493, 95, 0), (95, .if_icmp .ge 92, 98, 187), (98, .aload_n 0, 99, 0)]
def pgB_241_0 : pg_Bk := [(14, pgb_241_0_b0), (28, pgb_241_0_b1), (39, pgb_241_0_b2), (53, pgb_241_0_b3), (67, pgb_241_0_b4), (79, pgb_241_0_b5), (91, pgb_241_0_b6), (99, pgb_241_0_b7)]
set_option maxRecDepth 20000 in
theorem pgc_241_0 : pgB_241_0.all (fun q => q.2.all (pg_ok (pg_cc 241))) = true := by decide +kernel
/-- MarkovDeskModel.outcome(II)V -/
def pgb_241_1_b0 : List pg_R := [(99, .iload 8, 101, 0), (101, .iload 9, 103, 0), (103, .invokevirtual 591, 106, 0), (106, .istore 10, 108, 0), (108, .iload 10, 110, 0), (110, .ifCond .ge 6, 113, 116), (113, .goto 74, 116, 187), (116, .aload_n 0, 117, 0)]
def pgb_241_1_b1 : List pg_R := [(117, .aload_n 0, 118, 0), (118, .getfield 153, 121, 0), (121, .iload 8, 123, 0), (123, .bipush 8, 125, 0), (125, .imul, 126, 0), (126, .iload 10, 128, 0), (128, .iadd, 129, 0), (129, .iaload, 130, 0)]
def pgb_241_1_b2 : List pg_R := [(130, .invokevirtual 522, 133, 0), (133, .istore 11, 135, 0), (135, .aload_n 0, 136, 0), (136, .getfield 482, 139, 0), (139, .ifCond .ne 27, 142, 166), (142, .iload 11, 144, 0), (144, .aload_n 0, 145, 0), (145, .getfield 126, 148, 0)]
def pgb_241_1_b3 : List pg_R := [(148, .iload 10, 150, 0), (150, .iaload, 151, 0), (151, .if_icmp .lt 15, 154, 166), (154, .iload 11, 156, 0), (156, .aload_n 0, 157, 0), (157, .getfield 129, 160, 0), (160, .iload 10, 162, 0), (162, .iaload, 163, 0)]
def pgb_241_1_b4 : List pg_R := [(163, .if_icmp .le 9, 166, 172), (166, .aload_n 0, 167, 0), (167, .iconst 2, 168, 0), (168, .putfield 564, 171, 0), (171, .return_, 172, 0), (172, .aload_n 0, 173, 0), (173, .getfield 181, 176, 0), (176, .iload 10, 178, 0)]
def pgb_241_1_b5 : List pg_R := [(178, .iload 11, 180, 0), (180, .iastore, 181, 0), (181, .iinc 9 1, 184, 0), (184, .goto (-95), 187, 89), (187, .iinc 7 1, 190, 0), (190, .goto (-154), 193, 36), (193, .iconst 0, 194, 0), (194, .istore 7, 196, 0)]
def pgb_241_1_b6 : List pg_R := [(196, .iload 7, 198, 0), (198, .aload_n 0, 199, 0), (199, .getfield 555, 202, 0), (202, .if_icmp .ge 18, 205, 220), (205, .aload_n 0, 206, 0), (206, .iload 7, 208, 0), (208, .invokevirtual 594, 211, 0), (211, .ifCond .ne 9, 214, 220)]
def pgb_241_1_b7 : List pg_R := [(214, .iinc 7 1, 217, 0), (217, .goto (-21), 220, 196), (220, .iload 7, 222, 0), (222, .bipush 24, 224, 0)]
def pgB_241_1 : pg_Bk := [(117, pgb_241_1_b0), (130, pgb_241_1_b1), (148, pgb_241_1_b2), (163, pgb_241_1_b3), (178, pgb_241_1_b4), (196, pgb_241_1_b5), (214, pgb_241_1_b6), (223, pgb_241_1_b7)]
set_option maxRecDepth 20000 in
theorem pgc_241_1 : pgB_241_1.all (fun q => q.2.all (pg_ok (pg_cc 241))) = true := by decide +kernel
/-- MarkovDeskModel.outcome(II)V -/
def pgb_241_2_b0 : List pg_R := [(224, .if_icmp .ne 9, 227, 233), (227, .aload_n 0, 228, 0), (228, .iconst 3, 229, 0), (229, .putfield 564, 232, 0), (232, .return_, 233, 0), (233, .iload 7, 235, 0), (235, .aload_n 0, 236, 0), (236, .getfield 555, 239, 0)]
def pgb_241_2_b1 : List pg_R := [(239, .if_icmp .ne 51, 242, 290), (242, .iconst 0, 243, 0), (243, .istore 8, 245, 0), (245, .iload 8, 247, 0), (247, .aload_n 0, 248, 0), (248, .getfield 493, 251, 0), (251, .if_icmp .ge 29, 254, 280), (254, .aload_n 0, 255, 0)]
def pgb_241_2_b2 : List pg_R := [(255, .getfield 169, 258, 0), (258, .bipush 8, 260, 0), (260, .iload 7, 262, 0), (262, .imul, 263, 0), (263, .iload 8, 265, 0), (265, .iadd, 266, 0), (266, .aload_n 0, 267, 0), (267, .getfield 181, 270, 0)]
def pgb_241_2_b3 : List pg_R := [(270, .iload 8, 272, 0), (272, .iaload, 273, 0), (273, .iastore, 274, 0), (274, .iinc 8 1, 277, 0), (277, .goto (-32), 280, 245), (280, .aload_n 0, 281, 0), (281, .dup, 282, 0), (282, .getfield 555, 285, 0)]
def pgb_241_2_b4 : List pg_R := [(285, .iconst 1, 286, 0), (286, .iadd, 287, 0), (287, .putfield 555, 290, 0), (290, .iload_n 2, 291, 0), (291, .istore 8, 293, 0), (293, .iload 8, 295, 0), (295, .aload_n 0, 296, 0), (296, .getfield 561, 299, 0)]
def pgb_241_2_b5 : List pg_R := [(299, .if_icmp .ge 21, 302, 320), (302, .aload_n 0, 303, 0), (303, .getfield 178, 306, 0), (306, .iload 8, 308, 0), (308, .iaload, 309, 0), (309, .iload 7, 311, 0), (311, .if_icmp .eq 9, 314, 320), (314, .iinc 8 1, 317, 0)]
def pgb_241_2_b6 : List pg_R := [(317, .goto (-24), 320, 293), (320, .aload_n 0, 321, 0), (321, .getfield 211, 324, 0), (324, .lload_n 3, 325, 0), (325, .invokevirtual 597, 328, 0), (328, .aload_n 0, 329, 0), (329, .getfield 215, 332, 0), (332, .lload 5, 334, 0)]
def pgb_241_2_b7 : List pg_R := [(334, .invokevirtual 597, 337, 0), (337, .iload 8, 339, 0), (339, .aload_n 0, 340, 0), (340, .getfield 561, 343, 0)]
def pgB_241_2 : pg_Bk := [(239, pgb_241_2_b0), (255, pgb_241_2_b1), (270, pgb_241_2_b2), (285, pgb_241_2_b3), (299, pgb_241_2_b4), (317, pgb_241_2_b5), (334, pgb_241_2_b6), (341, pgb_241_2_b7)]
set_option maxRecDepth 20000 in
theorem pgc_241_2 : pgB_241_2.all (fun q => q.2.all (pg_ok (pg_cc 241))) = true := by decide +kernel
/-- MarkovDeskModel.outcome(II)V -/
def pgb_241_3_b0 : List pg_R := [(343, .if_icmp .ne 60, 346, 403), (346, .aload_n 0, 347, 0), (347, .getfield 178, 350, 0), (350, .aload_n 0, 351, 0), (351, .dup, 352, 0), (352, .getfield 561, 355, 0), (355, .dup_x1, 356, 0), (356, .iconst 1, 357, 0)]
def pgb_241_3_b1 : List pg_R := [(357, .iadd, 358, 0), (358, .putfield 561, 361, 0), (361, .iload 7, 363, 0), (363, .iastore, 364, 0), (364, .aload_n 0, 365, 0), (365, .getfield 211, 368, 0), (368, .aload_n 0, 369, 0), (369, .getfield 200, 372, 0)]
def pgb_241_3_b2 : List pg_R := [(372, .iload 8, 374, 0), (374, .bipush 20, 376, 0), (376, .imul, 377, 0), (377, .bipush 20, 379, 0), (379, .invokevirtual 600, 382, 0), (382, .aload_n 0, 383, 0), (383, .getfield 215, 386, 0), (386, .aload_n 0, 387, 0)]
def pgb_241_3_b3 : List pg_R := [(387, .getfield 203, 390, 0), (390, .iload 8, 392, 0), (392, .bipush 20, 394, 0), (394, .imul, 395, 0), (395, .bipush 20, 397, 0), (397, .invokevirtual 600, 400, 0), (400, .goto 155, 403, 555), (403, .aload_n 0, 404, 0)]
def pgb_241_3_b4 : List pg_R := [(404, .getfield 224, 407, 0), (407, .aload_n 0, 408, 0), (408, .getfield 200, 411, 0), (411, .iload 8, 413, 0), (413, .bipush 20, 415, 0), (415, .imul, 416, 0), (416, .bipush 20, 418, 0), (418, .invokevirtual 604, 421, 0)]
def pgb_241_3_b5 : List pg_R := [(421, .aload_n 0, 422, 0), (422, .getfield 218, 425, 0), (425, .aload_n 0, 426, 0), (426, .getfield 224, 429, 0), (429, .aload_n 0, 430, 0), (430, .getfield 215, 433, 0), (433, .invokevirtual 607, 436, 0), (436, .aload_n 0, 437, 0)]
def pgb_241_3_b6 : List pg_R := [(437, .getfield 221, 440, 0), (440, .aload_n 0, 441, 0), (441, .getfield 203, 444, 0), (444, .iload 8, 446, 0), (446, .bipush 20, 448, 0), (448, .imul, 449, 0), (449, .bipush 20, 451, 0), (451, .invokevirtual 604, 454, 0)]
def pgb_241_3_b7 : List pg_R := [(454, .aload_n 0, 455, 0), (455, .getfield 224, 458, 0), (458, .aload_n 0, 459, 0), (459, .getfield 221, 462, 0)]
def pgB_241_3 : pg_Bk := [(357, pgb_241_3_b0), (372, pgb_241_3_b1), (387, pgb_241_3_b2), (404, pgb_241_3_b3), (421, pgb_241_3_b4), (437, pgb_241_3_b5), (454, pgb_241_3_b6), (460, pgb_241_3_b7)]
set_option maxRecDepth 20000 in
theorem pgc_241_3 : pgB_241_3.all (fun q => q.2.all (pg_ok (pg_cc 241))) = true := by decide +kernel
/-- MarkovDeskModel.outcome(II)V -/
def pgb_241_4_b0 : List pg_R := [(462, .aload_n 0, 463, 0), (463, .getfield 211, 466, 0), (466, .invokevirtual 607, 469, 0), (469, .aload_n 0, 470, 0), (470, .getfield 218, 473, 0), (473, .aload_n 0, 474, 0), (474, .getfield 224, 477, 0), (477, .invokevirtual 611, 480, 0)]
def pgb_241_4_b1 : List pg_R := [(480, .aload_n 0, 481, 0), (481, .getfield 224, 484, 0), (484, .aload_n 0, 485, 0), (485, .getfield 221, 488, 0), (488, .aload_n 0, 489, 0), (489, .getfield 215, 492, 0), (492, .invokevirtual 607, 495, 0), (495, .aload_n 0, 496, 0)]
def pgb_241_4_b2 : List pg_R := [(496, .getfield 221, 499, 0), (499, .aload_n 0, 500, 0), (500, .getfield 224, 503, 0), (503, .invokevirtual 615, 506, 0), (506, .aload_n 0, 507, 0), (507, .aload_n 0, 508, 0), (508, .getfield 218, 511, 0), (511, .aload_n 0, 512, 0)]
def pgb_241_4_b3 : List pg_R := [(512, .getfield 221, 515, 0), (515, .invokevirtual 618, 518, 0), (518, .aload_n 0, 519, 0), (519, .getfield 218, 522, 0), (522, .aload_n 0, 523, 0), (523, .getfield 200, 526, 0), (526, .iload 8, 528, 0), (528, .bipush 20, 530, 0)]
def pgb_241_4_b4 : List pg_R := [(530, .imul, 531, 0), (531, .bipush 20, 533, 0), (533, .invokevirtual 600, 536, 0), (536, .aload_n 0, 537, 0), (537, .getfield 221, 540, 0), (540, .aload_n 0, 541, 0), (541, .getfield 203, 544, 0), (544, .iload 8, 546, 0)]
def pgb_241_4_b5 : List pg_R := [(546, .bipush 20, 548, 0), (548, .imul, 549, 0), (549, .bipush 20, 551, 0), (551, .invokevirtual 600, 554, 0), (554, .return_, 555, 0), (555, .aload_n 0, 556, 0), (556, .getfield 218, 559, 0), (559, .aload_n 0, 560, 0)]
def pgb_241_4_b6 : List pg_R := [(560, .getfield 211, 563, 0), (563, .invokevirtual 615, 566, 0), (566, .aload_n 0, 567, 0), (567, .getfield 221, 570, 0), (570, .aload_n 0, 571, 0), (571, .getfield 215, 574, 0), (574, .invokevirtual 615, 577, 0), (577, .aload_n 0, 578, 0)]
def pgb_241_4_b7 : List pg_R := [(578, .aload_n 0, 579, 0), (579, .getfield 218, 582, 0), (582, .aload_n 0, 583, 0), (583, .getfield 221, 586, 0)]
def pgB_241_4 : pg_Bk := [(480, pgb_241_4_b0), (496, pgb_241_4_b1), (512, pgb_241_4_b2), (530, pgb_241_4_b3), (546, pgb_241_4_b4), (560, pgb_241_4_b5), (578, pgb_241_4_b6), (584, pgb_241_4_b7)]
set_option maxRecDepth 20000 in
theorem pgc_241_4 : pgB_241_4.all (fun q => q.2.all (pg_ok (pg_cc 241))) = true := by decide +kernel
/-- MarkovDeskModel.outcome(II)V -/
def pgb_241_5_b0 : List pg_R := [(586, .invokevirtual 618, 589, 0), (589, .aload_n 0, 590, 0), (590, .getfield 218, 593, 0), (593, .aload_n 0, 594, 0), (594, .getfield 200, 597, 0), (597, .iload 8, 599, 0), (599, .bipush 20, 601, 0), (601, .imul, 602, 0)]
def pgb_241_5_b1 : List pg_R := [(602, .bipush 20, 604, 0), (604, .invokevirtual 600, 607, 0), (607, .aload_n 0, 608, 0), (608, .getfield 221, 611, 0), (611, .aload_n 0, 612, 0), (612, .getfield 203, 615, 0), (615, .iload 8, 617, 0), (617, .bipush 20, 619, 0)]
def pgb_241_5_b2 : List pg_R := [(619, .imul, 620, 0), (620, .bipush 20, 622, 0), (622, .invokevirtual 600, 625, 0), (625, .return_, 626, 0)]
def pgB_241_5 : pg_Bk := [(602, pgb_241_5_b0), (619, pgb_241_5_b1), (626, pgb_241_5_b2)]
set_option maxRecDepth 20000 in
theorem pgc_241_5 : pgB_241_5.all (fun q => q.2.all (pg_ok (pg_cc 241))) = true := by decide +kernel
def pgB_241 : pg_Bk := pgB_241_0 ++ (pgB_241_1 ++ (pgB_241_2 ++ (pgB_241_3 ++ (pgB_241_4 ++ (pgB_241_5)))))
theorem pgc_241 : pgB_241.all (fun q => q.2.all (pg_ok (pg_cc 241))) = true := pg_all2 pgc_241_0 (pg_all2 pgc_241_1 (pg_all2 pgc_241_2 (pg_all2 pgc_241_3 (pg_all2 pgc_241_4 (pgc_241_5)))))
/-- MarkovDeskModel.inOrder(II)I -/
def pgb_242_0_b0 : List pg_R := [(0, .iconst (-1), 1, 0), (1, .istore_n 3, 2, 0), (2, .iconst (-1), 3, 0), (3, .istore 4, 5, 0), (5, .iconst 0, 6, 0), (6, .istore 5, 8, 0), (8, .iload 5, 10, 0), (10, .iload_n 2, 11, 0)]
def pgb_242_0_b1 : List pg_R := [(11, .if_icmp .gt 102, 14, 113), (14, .iconst (-1), 15, 0), (15, .istore 4, 17, 0), (17, .iconst 0, 18, 0), (18, .istore 6, 20, 0), (20, .iload 6, 22, 0), (22, .aload_n 0, 23, 0), (23, .getfield 493, 26, 0)]
def pgb_242_0_b2 : List pg_R := [(26, .if_icmp .ge 61, 29, 87), (29, .aload_n 0, 30, 0), (30, .getfield 153, 33, 0), (33, .iload_n 1, 34, 0), (34, .bipush 8, 36, 0), (36, .imul, 37, 0), (37, .iload 6, 39, 0), (39, .iadd, 40, 0)]
def pgb_242_0_b3 : List pg_R := [(40, .iaload, 41, 0), (41, .iload_n 3, 42, 0), (42, .if_icmp .le 39, 45, 81), (45, .iload 4, 47, 0), (47, .ifCond .lt 30, 50, 77), (50, .aload_n 0, 51, 0), (51, .getfield 153, 54, 0), (54, .iload_n 1, 55, 0)]
def pgb_242_0_b4 : List pg_R := [(55, .bipush 8, 57, 0), (57, .imul, 58, 0), (58, .iload 6, 60, 0), (60, .iadd, 61, 0), (61, .iaload, 62, 0), (62, .aload_n 0, 63, 0), (63, .getfield 153, 66, 0), (66, .iload_n 1, 67, 0)]
def pgb_242_0_b5 : List pg_R := [(67, .bipush 8, 69, 0), (69, .imul, 70, 0), (70, .iload 4, 72, 0), (72, .iadd, 73, 0), (73, .iaload, 74, 0), (74, .if_icmp .ge 7, 77, 81), (77, .iload 6, 79, 0), (79, .istore 4, 81, 0)]
def pgb_242_0_b6 : List pg_R := [(81, .iinc 6 1, 84, 0), (84, .goto (-64), 87, 20), (87, .iload 4, 89, 0), (89, .ifCond .ge 5, 92, 94), (92, .iconst (-1), 93, 0), (93, .ireturn, 94, 0), (94, .aload_n 0, 95, 0), (95, .getfield 153, 98, 0)]
def pgb_242_0_b7 : List pg_R := [(98, .iload_n 1, 99, 0), (99, .bipush 8, 101, 0), (101, .imul, 102, 0), (102, .iload 4, 104, 0)]
def pgB_242_0 : pg_Bk := [(11, pgb_242_0_b0), (26, pgb_242_0_b1), (40, pgb_242_0_b2), (55, pgb_242_0_b3), (67, pgb_242_0_b4), (81, pgb_242_0_b5), (98, pgb_242_0_b6), (103, pgb_242_0_b7)]
set_option maxRecDepth 20000 in
theorem pgc_242_0 : pgB_242_0.all (fun q => q.2.all (pg_ok (pg_cc 242))) = true := by decide +kernel
/-- MarkovDeskModel.inOrder(II)I -/
def pgb_242_1_b0 : List pg_R := [(104, .iadd, 105, 0), (105, .iaload, 106, 0), (106, .istore_n 3, 107, 0), (107, .iinc 5 1, 110, 0), (110, .goto (-102), 113, 8), (113, .iload 4, 115, 0), (115, .ireturn, 116, 0)]
def pgB_242_1 : pg_Bk := [(116, pgb_242_1_b0)]
set_option maxRecDepth 20000 in
theorem pgc_242_1 : pgB_242_1.all (fun q => q.2.all (pg_ok (pg_cc 242))) = true := by decide +kernel
def pgB_242 : pg_Bk := pgB_242_0 ++ (pgB_242_1)
theorem pgc_242 : pgB_242.all (fun q => q.2.all (pg_ok (pg_cc 242))) = true := pg_all2 pgc_242_0 (pgc_242_1)
/-- MarkovDeskModel.isState(I)Z -/
def pgb_243_b0 : List pg_R := [(0, .iconst 0, 1, 0), (1, .istore_n 2, 2, 0), (2, .iload_n 2, 3, 0), (3, .aload_n 0, 4, 0), (4, .getfield 493, 7, 0), (7, .if_icmp .ge 31, 10, 38), (10, .aload_n 0, 11, 0), (11, .getfield 169, 14, 0)]
def pgb_243_b1 : List pg_R := [(14, .bipush 8, 16, 0), (16, .iload_n 1, 17, 0), (17, .imul, 18, 0), (18, .iload_n 2, 19, 0), (19, .iadd, 20, 0), (20, .iaload, 21, 0), (21, .aload_n 0, 22, 0), (22, .getfield 181, 25, 0)]
def pgb_243_b2 : List pg_R := [(25, .iload_n 2, 26, 0), (26, .iaload, 27, 0), (27, .if_icmp .eq 5, 30, 32), (30, .iconst 0, 31, 0), (31, .ireturn, 32, 0), (32, .iinc 2 1, 35, 0), (35, .goto (-33), 38, 2), (38, .iconst 1, 39, 0)]
def pgb_243_b3 : List pg_R := [(39, .ireturn, 40, 0)]
def pgB_243 : pg_Bk := [(14, pgb_243_b0), (25, pgb_243_b1), (39, pgb_243_b2), (40, pgb_243_b3)]
set_option maxRecDepth 20000 in
theorem pgc_243 : pgB_243.all (fun q => q.2.all (pg_ok (pg_cc 243))) = true := by decide +kernel
/-- MarkovDeskModel$Whole.store([III)V -/
def pgb_244_b0 : List pg_R := [(0, .iconst 0, 1, 0), (1, .istore 4, 3, 0), (3, .iload 4, 5, 0), (5, .iload_n 3, 6, 0), (6, .if_icmp .ge 35, 9, 41), (9, .aload_n 1, 10, 0), (10, .iload_n 2, 11, 0), (11, .iload 4, 13, 0)]
def pgb_244_b1 : List pg_R := [(13, .iadd, 14, 0), (14, .iload 4, 16, 0), (16, .aload_n 0, 17, 0), (17, .getfield 13, 20, 0), (20, .if_icmp .ge 13, 23, 33), (23, .aload_n 0, 24, 0), (24, .getfield 7, 27, 0), (27, .iload 4, 29, 0)]
def pgb_244_b2 : List pg_R := [(29, .iaload, 30, 0), (30, .goto 4, 33, 34), (33, .iconst 0, 34, 0), (34, .iastore, 35, 0), (35, .iinc 4 1, 38, 0), (38, .goto (-35), 41, 3), (41, .return_, 42, 0)]
def pgB_244 : pg_Bk := [(13, pgb_244_b0), (29, pgb_244_b1), (42, pgb_244_b2)]
set_option maxRecDepth 20000 in
theorem pgc_244 : pgB_244.all (fun q => q.2.all (pg_ok (pg_cc 244))) = true := by decide +kernel
/-- MarkovDeskModel$Whole.load([III)V -/
def pgb_245_b0 : List pg_R := [(0, .iconst 0, 1, 0), (1, .istore 4, 3, 0), (3, .iload 4, 5, 0), (5, .iload_n 3, 6, 0), (6, .if_icmp .ge 22, 9, 28), (9, .aload_n 0, 10, 0), (10, .getfield 7, 13, 0), (13, .iload 4, 15, 0)]
def pgb_245_b1 : List pg_R := [(15, .aload_n 1, 16, 0), (16, .iload_n 2, 17, 0), (17, .iload 4, 19, 0), (19, .iadd, 20, 0), (20, .iaload, 21, 0), (21, .iastore, 22, 0), (22, .iinc 4 1, 25, 0), (25, .goto (-22), 28, 3)]
def pgb_245_b2 : List pg_R := [(28, .aload_n 0, 29, 0), (29, .iload_n 3, 30, 0), (30, .putfield 13, 33, 0), (33, .aload_n 0, 34, 0), (34, .invokevirtual 23, 37, 0), (37, .return_, 38, 0)]
def pgB_245 : pg_Bk := [(15, pgb_245_b0), (28, pgb_245_b1), (38, pgb_245_b2)]
set_option maxRecDepth 20000 in
theorem pgc_245 : pgB_245.all (fun q => q.2.all (pg_ok (pg_cc 245))) = true := by decide +kernel
/-- MarkovDeskModel$Whole.trim()V -/
def pgb_246_b0 : List pg_R := [(0, .aload_n 0, 1, 0), (1, .getfield 13, 4, 0), (4, .ifCond .le 30, 7, 34), (7, .aload_n 0, 8, 0), (8, .getfield 7, 11, 0), (11, .aload_n 0, 12, 0), (12, .getfield 13, 15, 0), (15, .iconst 1, 16, 0)]
def pgb_246_b1 : List pg_R := [(16, .isub, 17, 0), (17, .iaload, 18, 0), (18, .ifCond .ne 16, 21, 34), (21, .aload_n 0, 22, 0), (22, .dup, 23, 0), (23, .getfield 13, 26, 0), (26, .iconst 1, 27, 0), (27, .isub, 28, 0)]
def pgb_246_b2 : List pg_R := [(28, .putfield 13, 31, 0), (31, .goto (-31), 34, 0), (34, .return_, 35, 0)]
def pgB_246 : pg_Bk := [(16, pgb_246_b0), (28, pgb_246_b1), (35, pgb_246_b2)]
set_option maxRecDepth 20000 in
theorem pgc_246 : pgB_246.all (fun q => q.2.all (pg_ok (pg_cc 246))) = true := by decide +kernel
/-- MarkovDeskModel$Whole.times(LMarkovDeskModel$Whole;LMarkovDeskModel$Whole;)V -/
def pgb_247_0_b0 : List pg_R := [(0, .aload_n 0, 1, 0), (1, .aload_n 1, 2, 0), (2, .getfield 13, 5, 0), (5, .aload_n 2, 6, 0), (6, .getfield 13, 9, 0), (9, .iadd, 10, 0), (10, .putfield 13, 13, 0), (13, .iconst 0, 14, 0)]
def pgb_247_0_b1 : List pg_R := [(14, .istore_n 3, 15, 0), (15, .iload_n 3, 16, 0), (16, .aload_n 0, 17, 0), (17, .getfield 13, 20, 0), (20, .if_icmp .ge 16, 23, 36), (23, .aload_n 0, 24, 0), (24, .getfield 7, 27, 0), (27, .iload_n 3, 28, 0)]
def pgb_247_0_b2 : List pg_R := [(28, .iconst 0, 29, 0), (29, .iastore, 30, 0), (30, .iinc 3 1, 33, 0), (33, .goto (-18), 36, 15), (36, .iconst 0, 37, 0), (37, .istore_n 3, 38, 0), (38, .iload_n 3, 39, 0), (39, .aload_n 1, 40, 0)]
def pgb_247_0_b3 : List pg_R := [(40, .getfield 13, 43, 0), (43, .if_icmp .ge 99, 46, 142), (46, .lconst 0, 47, 0), (47, .lstore 4, 49, 0), (49, .iconst 0, 50, 0), (50, .istore 6, 52, 0), (52, .iload 6, 54, 0), (54, .aload_n 2, 55, 0)]
def pgb_247_0_b4 : List pg_R := [(55, .getfield 13, 58, 0), (58, .if_icmp .ge 64, 61, 122), (61, .lload 4, 63, 0), (63, .aload_n 0, 64, 0), (64, .getfield 7, 67, 0), (67, .iload_n 3, 68, 0), (68, .iload 6, 70, 0), (70, .iadd, 71, 0)]
def pgb_247_0_b5 : List pg_R := [(71, .iaload, 72, 0), (72, .i2l, 73, 0), (73, .aload_n 1, 74, 0), (74, .getfield 7, 77, 0), (77, .iload_n 3, 78, 0), (78, .iaload, 79, 0), (79, .i2l, 80, 0), (80, .aload_n 2, 81, 0)]
def pgb_247_0_b6 : List pg_R := [(81, .getfield 7, 84, 0), (84, .iload 6, 86, 0), (86, .iaload, 87, 0), (87, .i2l, 88, 0), (88, .lmul, 89, 0), (89, .ladd, 90, 0), (90, .ladd, 91, 0), (91, .lstore 4, 93, 0)]
def pgb_247_0_b7 : List pg_R := [(93, .aload_n 0, 94, 0), (94, .getfield 7, 97, 0), (97, .iload_n 3, 98, 0), (98, .iload 6, 100, 0)]
def pgB_247_0 : pg_Bk := [(14, pgb_247_0_b0), (28, pgb_247_0_b1), (40, pgb_247_0_b2), (55, pgb_247_0_b3), (71, pgb_247_0_b4), (81, pgb_247_0_b5), (93, pgb_247_0_b6), (99, pgb_247_0_b7)]
set_option maxRecDepth 20000 in
theorem pgc_247_0 : pgB_247_0.all (fun q => q.2.all (pg_ok (pg_cc 247))) = true := by decide +kernel
/-- MarkovDeskModel$Whole.times(LMarkovDeskModel$Whole;LMarkovDeskModel$Whole;)V -/
def pgb_247_1_b0 : List pg_R := [(100, .iadd, 101, 0), (101, .lload 4, 103, 0), (103, .ldc2_w 17, 106, 0), (106, .land, 107, 0), (107, .l2i, 108, 0), (108, .iastore, 109, 0), (109, .lload 4, 111, 0), (111, .bipush 16, 113, 0)]
def pgb_247_1_b1 : List pg_R := [(113, .lshr, 114, 0), (114, .lstore 4, 116, 0), (116, .iinc 6 1, 119, 0), (119, .goto (-67), 122, 52), (122, .aload_n 0, 123, 0), (123, .getfield 7, 126, 0), (126, .iload_n 3, 127, 0), (127, .aload_n 2, 128, 0)]
def pgb_247_1_b2 : List pg_R := [(128, .getfield 13, 131, 0), (131, .iadd, 132, 0), (132, .lload 4, 134, 0), (134, .l2i, 135, 0), (135, .iastore, 136, 0), (136, .iinc 3 1, 139, 0), (139, .goto (-101), 142, 38), (142, .aload_n 0, 143, 0)]
def pgb_247_1_b3 : List pg_R := [(143, .invokevirtual 23, 146, 0), (146, .return_, 147, 0)]
def pgB_247_1 : pg_Bk := [(113, pgb_247_1_b0), (128, pgb_247_1_b1), (143, pgb_247_1_b2), (147, pgb_247_1_b3)]
set_option maxRecDepth 20000 in
theorem pgc_247_1 : pgB_247_1.all (fun q => q.2.all (pg_ok (pg_cc 247))) = true := by decide +kernel
def pgB_247 : pg_Bk := pgB_247_0 ++ (pgB_247_1)
theorem pgc_247 : pgB_247.all (fun q => q.2.all (pg_ok (pg_cc 247))) = true := pg_all2 pgc_247_0 (pgc_247_1)
/-- MarkovDeskModel$Whole.add(LMarkovDeskModel$Whole;)V -/
def pgb_248_0_b0 : List pg_R := [(0, .aload_n 0, 1, 0), (1, .getfield 13, 4, 0), (4, .aload_n 1, 5, 0), (5, .getfield 13, 8, 0), (8, .if_icmp .le 10, 11, 18), (11, .aload_n 0, 12, 0), (12, .getfield 13, 15, 0), (15, .goto 7, 18, 22)]
def pgb_248_0_b1 : List pg_R := [(18, .aload_n 1, 19, 0), (19, .getfield 13, 22, 0), (22, .istore_n 2, 23, 0), (23, .iconst 0, 24, 0), (24, .istore_n 3, 25, 0), (25, .iconst 0, 26, 0), (26, .istore 4, 28, 0), (28, .iload 4, 30, 0)]
def pgb_248_0_b2 : List pg_R := [(30, .iload_n 2, 31, 0), (31, .if_icmp .ge 69, 34, 100), (34, .iload_n 3, 35, 0), (35, .iload 4, 37, 0), (37, .aload_n 0, 38, 0), (38, .getfield 13, 41, 0), (41, .if_icmp .ge 13, 44, 54), (44, .aload_n 0, 45, 0)]
def pgb_248_0_b3 : List pg_R := [(45, .getfield 7, 48, 0), (48, .iload 4, 50, 0), (50, .iaload, 51, 0), (51, .goto 4, 54, 55), (54, .iconst 0, 55, 0), (55, .iload 4, 57, 0), (57, .aload_n 1, 58, 0), (58, .getfield 13, 61, 0)]
def pgb_248_0_b4 : List pg_R := [(61, .if_icmp .ge 13, 64, 74), (64, .aload_n 1, 65, 0), (65, .getfield 7, 68, 0), (68, .iload 4, 70, 0), (70, .iaload, 71, 0), (71, .goto 4, 74, 75), (74, .iconst 0, 75, 0), (75, .iadd, 76, 0)]
def pgb_248_0_b5 : List pg_R := [(76, .iadd, 77, 0), (77, .istore_n 3, 78, 0), (78, .aload_n 0, 79, 0), (79, .getfield 7, 82, 0), (82, .iload 4, 84, 0), (84, .iload_n 3, 85, 0), (85, .ldc 26, 87, 0), (87, .iand, 88, 0)]
def pgb_248_0_b6 : List pg_R := [(88, .iastore, 89, 0), (89, .iload_n 3, 90, 0), (90, .bipush 16, 92, 0), (92, .ishr, 93, 0), (93, .istore_n 3, 94, 0), (94, .iinc 4 1, 97, 0), (97, .goto (-69), 100, 28), (100, .aload_n 0, 101, 0)]
def pgb_248_0_b7 : List pg_R := [(101, .iload_n 2, 102, 0), (102, .putfield 13, 105, 0), (105, .iload_n 3, 106, 0), (106, .ifCond .le 20, 109, 126)]
def pgB_248_0 : pg_Bk := [(18, pgb_248_0_b0), (30, pgb_248_0_b1), (45, pgb_248_0_b2), (61, pgb_248_0_b3), (76, pgb_248_0_b4), (88, pgb_248_0_b5), (101, pgb_248_0_b6), (107, pgb_248_0_b7)]
set_option maxRecDepth 20000 in
theorem pgc_248_0 : pgB_248_0.all (fun q => q.2.all (pg_ok (pg_cc 248))) = true := by decide +kernel
/-- MarkovDeskModel$Whole.add(LMarkovDeskModel$Whole;)V -/
def pgb_248_1_b0 : List pg_R := [(109, .aload_n 0, 110, 0), (110, .getfield 7, 113, 0), (113, .aload_n 0, 114, 0), (114, .dup, 115, 0), (115, .getfield 13, 118, 0), (118, .dup_x1, 119, 0), (119, .iconst 1, 120, 0), (120, .iadd, 121, 0)]
def pgb_248_1_b1 : List pg_R := [(121, .putfield 13, 124, 0), (124, .iload_n 3, 125, 0), (125, .iastore, 126, 0), (126, .return_, 127, 0)]
def pgB_248_1 : pg_Bk := [(121, pgb_248_1_b0), (127, pgb_248_1_b1)]
set_option maxRecDepth 20000 in
theorem pgc_248_1 : pgB_248_1.all (fun q => q.2.all (pg_ok (pg_cc 248))) = true := by decide +kernel
def pgB_248 : pg_Bk := pgB_248_0 ++ (pgB_248_1)
theorem pgc_248 : pgB_248.all (fun q => q.2.all (pg_ok (pg_cc 248))) = true := pg_all2 pgc_248_0 (pgc_248_1)
/-- MarkovDeskModel$Whole.copy(LMarkovDeskModel$Whole;)V -/
def pgb_249_b0 : List pg_R := [(0, .aload_n 0, 1, 0), (1, .aload_n 1, 2, 0), (2, .getfield 13, 5, 0), (5, .putfield 13, 8, 0), (8, .iconst 0, 9, 0), (9, .istore_n 2, 10, 0), (10, .iload_n 2, 11, 0), (11, .aload_n 0, 12, 0)]
def pgb_249_b1 : List pg_R := [(12, .getfield 13, 15, 0), (15, .if_icmp .ge 21, 18, 36), (18, .aload_n 0, 19, 0), (19, .getfield 7, 22, 0), (22, .iload_n 2, 23, 0), (23, .aload_n 1, 24, 0), (24, .getfield 7, 27, 0), (27, .iload_n 2, 28, 0)]
def pgb_249_b2 : List pg_R := [(28, .iaload, 29, 0), (29, .iastore, 30, 0), (30, .iinc 2 1, 33, 0), (33, .goto (-23), 36, 10), (36, .return_, 37, 0)]
def pgB_249 : pg_Bk := [(12, pgb_249_b0), (28, pgb_249_b1), (37, pgb_249_b2)]
set_option maxRecDepth 20000 in
theorem pgc_249 : pgB_249.all (fun q => q.2.all (pg_ok (pg_cc 249))) = true := by decide +kernel
/-- MarkovDeskModel.lowest(LMarkovDeskModel$Whole;LMarkovDeskModel$Whole;)V -/
def pgb_250_b0 : List pg_R := [(0, .aload_n 1, 1, 0), (1, .getfield 570, 4, 0), (4, .ifCond .ne 8, 7, 12), (7, .aload_n 2, 8, 0), (8, .invokevirtual 573, 11, 0), (11, .return_, 12, 0), (12, .aload_n 0, 13, 0), (13, .aload_n 1, 14, 0)]
def pgb_250_b1 : List pg_R := [(14, .aload_n 2, 15, 0), (15, .invokevirtual 625, 18, 0), (18, .aload_n 0, 19, 0), (19, .getfield 239, 22, 0), (22, .aload_n 0, 23, 0), (23, .getfield 227, 26, 0), (26, .invokevirtual 615, 29, 0), (29, .aload_n 0, 30, 0)]
def pgb_250_b2 : List pg_R := [(30, .getfield 233, 33, 0), (33, .aload_n 1, 34, 0), (34, .aload_n 0, 35, 0), (35, .getfield 239, 38, 0), (38, .aload_n 0, 39, 0), (39, .getfield 236, 42, 0), (42, .invokevirtual 621, 45, 0), (45, .aload_n 1, 46, 0)]
def pgb_250_b3 : List pg_R := [(46, .aload_n 0, 47, 0), (47, .getfield 233, 50, 0), (50, .invokevirtual 615, 53, 0), (53, .aload_n 0, 54, 0), (54, .getfield 233, 57, 0), (57, .aload_n 2, 58, 0), (58, .aload_n 0, 59, 0), (59, .getfield 239, 62, 0)]
def pgb_250_b4 : List pg_R := [(62, .aload_n 0, 63, 0), (63, .getfield 236, 66, 0), (66, .invokevirtual 621, 69, 0), (69, .aload_n 2, 70, 0), (70, .aload_n 0, 71, 0), (71, .getfield 233, 74, 0), (74, .invokevirtual 615, 77, 0), (77, .return_, 78, 0)]
def pgB_250 : pg_Bk := [(14, pgb_250_b0), (30, pgb_250_b1), (46, pgb_250_b2), (62, pgb_250_b3), (78, pgb_250_b4)]
set_option maxRecDepth 20000 in
theorem pgc_250 : pgB_250.all (fun q => q.2.all (pg_ok (pg_cc 250))) = true := by decide +kernel
/-- MarkovDeskModel.common(LMarkovDeskModel$Whole;LMarkovDeskModel$Whole;)V -/
def pgb_251_b0 : List pg_R := [(0, .aload_n 0, 1, 0), (1, .getfield 227, 4, 0), (4, .aload_n 1, 5, 0), (5, .invokevirtual 615, 8, 0), (8, .aload_n 0, 9, 0), (9, .getfield 230, 12, 0), (12, .aload_n 2, 13, 0), (13, .invokevirtual 615, 16, 0)]
def pgb_251_b1 : List pg_R := [(16, .aload_n 0, 17, 0), (17, .getfield 230, 20, 0), (20, .getfield 570, 23, 0), (23, .ifCond .le 47, 26, 70), (26, .aload_n 0, 27, 0), (27, .getfield 233, 30, 0), (30, .aload_n 0, 31, 0), (31, .getfield 227, 34, 0)]
def pgb_251_b2 : List pg_R := [(34, .aload_n 0, 35, 0), (35, .getfield 230, 38, 0), (38, .aload_n 0, 39, 0), (39, .getfield 236, 42, 0), (42, .invokevirtual 621, 45, 0), (45, .aload_n 0, 46, 0), (46, .getfield 227, 49, 0), (49, .aload_n 0, 50, 0)]
def pgb_251_b3 : List pg_R := [(50, .getfield 230, 53, 0), (53, .invokevirtual 615, 56, 0), (56, .aload_n 0, 57, 0), (57, .getfield 230, 60, 0), (60, .aload_n 0, 61, 0), (61, .getfield 236, 64, 0), (64, .invokevirtual 615, 67, 0), (67, .goto (-51), 70, 16)]
def pgb_251_b4 : List pg_R := [(70, .return_, 71, 0)]
def pgB_251 : pg_Bk := [(16, pgb_251_b0), (34, pgb_251_b1), (50, pgb_251_b2), (70, pgb_251_b3), (71, pgb_251_b4)]
set_option maxRecDepth 20000 in
theorem pgc_251 : pgB_251.all (fun q => q.2.all (pg_ok (pg_cc 251))) = true := by decide +kernel
/-- MarkovDeskModel$Whole.quotient(LMarkovDeskModel$Whole;LMarkovDeskModel$Whole;LMarkovDeskModel$Whole;)V -/
def pgb_252_0_b0 : List pg_R := [(0, .aload_n 3, 1, 0), (1, .iconst 0, 2, 0), (2, .putfield 13, 5, 0), (5, .aload_n 0, 6, 0), (6, .aload_n 1, 7, 0), (7, .getfield 13, 10, 0), (10, .putfield 13, 13, 0), (13, .aload_n 1, 14, 0)]
def pgb_252_0_b1 : List pg_R := [(14, .getfield 13, 17, 0), (17, .iconst 1, 18, 0), (18, .isub, 19, 0), (19, .istore 4, 21, 0), (21, .iload 4, 23, 0), (23, .ifCond .lt 121, 26, 144), (26, .aload_n 3, 27, 0), (27, .getfield 13, 30, 0)]
def pgb_252_0_b2 : List pg_R := [(30, .istore 5, 32, 0), (32, .iload 5, 34, 0), (34, .ifCond .le 25, 37, 59), (37, .aload_n 3, 38, 0), (38, .getfield 7, 41, 0), (41, .iload 5, 43, 0), (43, .aload_n 3, 44, 0), (44, .getfield 7, 47, 0)]
def pgb_252_0_b3 : List pg_R := [(47, .iload 5, 49, 0), (49, .iconst 1, 50, 0), (50, .isub, 51, 0), (51, .iaload, 52, 0), (52, .iastore, 53, 0), (53, .iinc 5 (-1), 56, 0), (56, .goto (-24), 59, 32), (59, .aload_n 3, 60, 0)]
def pgb_252_0_b4 : List pg_R := [(60, .getfield 7, 63, 0), (63, .iconst 0, 64, 0), (64, .aload_n 1, 65, 0), (65, .getfield 7, 68, 0), (68, .iload 4, 70, 0), (70, .iaload, 71, 0), (71, .iastore, 72, 0), (72, .aload_n 3, 73, 0)]
def pgb_252_0_b5 : List pg_R := [(73, .dup, 74, 0), (74, .getfield 13, 77, 0), (77, .iconst 1, 78, 0), (78, .iadd, 79, 0), (79, .putfield 13, 82, 0), (82, .aload_n 3, 83, 0), (83, .invokevirtual 23, 86, 0), (86, .iconst 0, 87, 0)]
def pgb_252_0_b6 : List pg_R := [(87, .istore 5, 89, 0), (89, .aload_n 3, 90, 0), (90, .aload_n 2, 91, 0), (91, .invokevirtual 31, 94, 0), (94, .ifCond .lt 35, 97, 129), (97, .aload_n 3, 98, 0), (98, .aload_n 2, 99, 0), (99, .invokevirtual 31, 102, 0)]
def pgb_252_0_b7 : List pg_R := [(102, .ifCond .lt 27, 105, 129), (105, .aload_n 3, 106, 0), (106, .aload_n 2, 107, 0), (107, .invokevirtual 35, 110, 0)]
def pgB_252_0 : pg_Bk := [(14, pgb_252_0_b0), (30, pgb_252_0_b1), (47, pgb_252_0_b2), (60, pgb_252_0_b3), (73, pgb_252_0_b4), (87, pgb_252_0_b5), (102, pgb_252_0_b6), (108, pgb_252_0_b7)]
set_option maxRecDepth 20000 in
theorem pgc_252_0 : pgB_252_0.all (fun q => q.2.all (pg_ok (pg_cc 252))) = true := by decide +kernel
/-- MarkovDeskModel$Whole.quotient(LMarkovDeskModel$Whole;LMarkovDeskModel$Whole;LMarkovDeskModel$Whole;)V -/
def pgb_252_1_b0 : List pg_R := [(110, .istore 6, 112, 0), (112, .aload_n 3, 113, 0), (113, .aload_n 2, 114, 0), (114, .iload 6, 116, 0), (116, .invokevirtual 38, 119, 0), (119, .iload 5, 121, 0), (121, .iload 6, 123, 0), (123, .iadd, 124, 0)]
def pgb_252_1_b1 : List pg_R := [(124, .istore 5, 126, 0), (126, .goto (-29), 129, 97), (129, .aload_n 0, 130, 0), (130, .getfield 7, 133, 0), (133, .iload 4, 135, 0), (135, .iload 5, 137, 0), (137, .iastore, 138, 0), (138, .iinc 4 (-1), 141, 0)]
def pgb_252_1_b2 : List pg_R := [(141, .goto (-120), 144, 21), (144, .aload_n 0, 145, 0), (145, .invokevirtual 23, 148, 0), (148, .return_, 149, 0)]
def pgB_252_1 : pg_Bk := [(124, pgb_252_1_b0), (141, pgb_252_1_b1), (149, pgb_252_1_b2)]
set_option maxRecDepth 20000 in
theorem pgc_252_1 : pgB_252_1.all (fun q => q.2.all (pg_ok (pg_cc 252))) = true := by decide +kernel
def pgB_252 : pg_Bk := pgB_252_0 ++ (pgB_252_1)
theorem pgc_252 : pgB_252.all (fun q => q.2.all (pg_ok (pg_cc 252))) = true := pg_all2 pgc_252_0 (pgc_252_1)
/-- MarkovDeskModel$Whole.compare(LMarkovDeskModel$Whole;)I -/
def pgb_253_b0 : List pg_R := [(0, .aload_n 0, 1, 0), (1, .getfield 13, 4, 0), (4, .aload_n 1, 5, 0), (5, .getfield 13, 8, 0), (8, .if_icmp .eq 20, 11, 28), (11, .aload_n 0, 12, 0), (12, .getfield 13, 15, 0), (15, .aload_n 1, 16, 0)]
def pgb_253_b1 : List pg_R := [(16, .getfield 13, 19, 0), (19, .if_icmp .ge 7, 22, 26), (22, .iconst (-1), 23, 0), (23, .goto 4, 26, 27), (26, .iconst 1, 27, 0), (27, .ireturn, 28, 0), (28, .aload_n 0, 29, 0), (29, .getfield 13, 32, 0)]
def pgb_253_b2 : List pg_R := [(32, .iconst 1, 33, 0), (33, .isub, 34, 0), (34, .istore_n 2, 35, 0), (35, .iload_n 2, 36, 0), (36, .ifCond .lt 45, 39, 81), (39, .aload_n 0, 40, 0), (40, .getfield 7, 43, 0), (43, .iload_n 2, 44, 0)]
def pgb_253_b3 : List pg_R := [(44, .iaload, 45, 0), (45, .aload_n 1, 46, 0), (46, .getfield 7, 49, 0), (49, .iload_n 2, 50, 0), (50, .iaload, 51, 0), (51, .if_icmp .eq 24, 54, 75), (54, .aload_n 0, 55, 0), (55, .getfield 7, 58, 0)]
def pgb_253_b4 : List pg_R := [(58, .iload_n 2, 59, 0), (59, .iaload, 60, 0), (60, .aload_n 1, 61, 0), (61, .getfield 7, 64, 0), (64, .iload_n 2, 65, 0), (65, .iaload, 66, 0), (66, .if_icmp .ge 7, 69, 73), (69, .iconst (-1), 70, 0)]
def pgb_253_b5 : List pg_R := [(70, .goto 4, 73, 74), (73, .iconst 1, 74, 0), (74, .ireturn, 75, 0), (75, .iinc 2 (-1), 78, 0), (78, .goto (-43), 81, 35), (81, .iconst 0, 82, 0), (82, .ireturn, 83, 0)]
def pgB_253 : pg_Bk := [(16, pgb_253_b0), (32, pgb_253_b1), (44, pgb_253_b2), (58, pgb_253_b3), (70, pgb_253_b4), (83, pgb_253_b5)]
set_option maxRecDepth 20000 in
theorem pgc_253 : pgB_253.all (fun q => q.2.all (pg_ok (pg_cc 253))) = true := by decide +kernel
/-- MarkovDeskModel$Whole.guess(LMarkovDeskModel$Whole;)I -/
def pgb_254_0_b0 : List pg_R := [(0, .lconst 0, 1, 0), (1, .lstore_n 2, 2, 0), (2, .aload_n 0, 3, 0), (3, .getfield 13, 6, 0), (6, .aload_n 1, 7, 0), (7, .getfield 13, 10, 0), (10, .isub, 11, 0), (11, .istore 4, 13, 0)]
def pgb_254_0_b1 : List pg_R := [(13, .aload_n 0, 14, 0), (14, .getfield 13, 17, 0), (17, .iconst 1, 18, 0), (18, .isub, 19, 0), (19, .istore 5, 21, 0), (21, .iload 5, 23, 0), (23, .aload_n 0, 24, 0), (24, .getfield 13, 27, 0)]
def pgb_254_0_b2 : List pg_R := [(27, .iconst 2, 28, 0), (28, .isub, 29, 0), (29, .iload 4, 31, 0), (31, .isub, 32, 0), (32, .if_icmp .lt 28, 35, 60), (35, .iload 5, 37, 0), (37, .ifCond .lt 23, 40, 60), (40, .lload_n 2, 41, 0)]
def pgb_254_0_b3 : List pg_R := [(41, .bipush 16, 43, 0), (43, .lshl, 44, 0), (44, .aload_n 0, 45, 0), (45, .getfield 7, 48, 0), (48, .iload 5, 50, 0), (50, .iaload, 51, 0), (51, .i2l, 52, 0), (52, .lor, 53, 0)]
def pgb_254_0_b4 : List pg_R := [(53, .lstore_n 2, 54, 0), (54, .iinc 5 (-1), 57, 0), (57, .goto (-36), 60, 21), (60, .lconst 0, 61, 0), (61, .lstore 5, 63, 0), (63, .aload_n 1, 64, 0), (64, .getfield 13, 67, 0), (67, .iconst 1, 68, 0)]
def pgb_254_0_b5 : List pg_R := [(68, .isub, 69, 0), (69, .istore 7, 71, 0), (71, .iload 7, 73, 0), (73, .aload_n 1, 74, 0), (74, .getfield 13, 77, 0), (77, .iconst 2, 78, 0), (78, .isub, 79, 0), (79, .if_icmp .lt 30, 82, 109)]
def pgb_254_0_b6 : List pg_R := [(82, .iload 7, 84, 0), (84, .ifCond .lt 25, 87, 109), (87, .lload 5, 89, 0), (89, .bipush 16, 91, 0), (91, .lshl, 92, 0), (92, .aload_n 1, 93, 0), (93, .getfield 7, 96, 0), (96, .iload 7, 98, 0)]
def pgb_254_0_b7 : List pg_R := [(98, .iaload, 99, 0), (99, .i2l, 100, 0), (100, .lor, 101, 0), (101, .lstore 5, 103, 0)]
def pgB_254_0 : pg_Bk := [(13, pgb_254_0_b0), (27, pgb_254_0_b1), (41, pgb_254_0_b2), (53, pgb_254_0_b3), (68, pgb_254_0_b4), (82, pgb_254_0_b5), (98, pgb_254_0_b6), (102, pgb_254_0_b7)]
set_option maxRecDepth 20000 in
theorem pgc_254_0 : pgB_254_0.all (fun q => q.2.all (pg_ok (pg_cc 254))) = true := by decide +kernel
/-- MarkovDeskModel$Whole.guess(LMarkovDeskModel$Whole;)I -/
def pgb_254_1_b0 : List pg_R := [(103, .iinc 7 (-1), 106, 0), (106, .goto (-35), 109, 71), (109, .aload_n 1, 110, 0), (110, .getfield 13, 113, 0), (113, .iconst 2, 114, 0), (114, .if_icmp .ge 10, 117, 124), (117, .lload_n 2, 118, 0), (118, .lload 5, 120, 0)]
def pgb_254_1_b1 : List pg_R := [(120, .ldiv, 121, 0), (121, .goto 9, 124, 130), (124, .lload_n 2, 125, 0), (125, .lload 5, 127, 0), (127, .lconst 1, 128, 0), (128, .ladd, 129, 0), (129, .ldiv, 130, 0), (130, .lstore 7, 132, 0)]
def pgb_254_1_b2 : List pg_R := [(132, .lload 7, 134, 0), (134, .lconst 1, 135, 0), (135, .lcmp, 136, 0), (136, .ifCond .ge 7, 139, 143), (139, .iconst 1, 140, 0), (140, .goto 6, 143, 146), (143, .lload 7, 145, 0), (145, .l2i, 146, 0)]
def pgb_254_1_b3 : List pg_R := [(146, .ireturn, 147, 0)]
def pgB_254_1 : pg_Bk := [(120, pgb_254_1_b0), (132, pgb_254_1_b1), (146, pgb_254_1_b2), (147, pgb_254_1_b3)]
set_option maxRecDepth 20000 in
theorem pgc_254_1 : pgB_254_1.all (fun q => q.2.all (pg_ok (pg_cc 254))) = true := by decide +kernel
def pgB_254 : pg_Bk := pgB_254_0 ++ (pgB_254_1)
theorem pgc_254 : pgB_254.all (fun q => q.2.all (pg_ok (pg_cc 254))) = true := pg_all2 pgc_254_0 (pgc_254_1)
