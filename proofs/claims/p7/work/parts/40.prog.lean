/-! the program for the abstract machine -/
abbrev hv_Bk : Type := List (Nat × List (Nat × hw_P))
def hv_p0_0 : List (Nat × hw_P) := [(3, .inr (.inl 0)), (11, .inr (.inl 2)), (14, .inr (.inl 3)), (15, .inl (0, 0)), (21, .inr (.inl 4)), (22, .inl (0, 1)), (28, .inr (.inl 5)), (31, .inl (0, 2))]
def hv_p0_1 : List (Nat × hw_P) := [(37, .inr (.inl 6)), (40, .inl (0, 3)), (46, .inr (.inl 7)), (49, .inl (0, 4)), (55, .inr (.inl 12)), (58, .inl (0, 5)), (62, .inl (0, 6)), (67, .inr (.inl 13))]
def hv_p0_2 : List (Nat × hw_P) := [(68, .inl (0, 7)), (74, .inr (.inl 14)), (75, .inl (0, 8)), (81, .inl (0, 9)), (85, .inl (0, 10)), (88, .inr (.inl 9)), (91, .inl (0, 11)), (95, .inl (0, 12))]
def hv_p0_3 : List (Nat × hw_P) := [(98, .inl (10, 5)), (104, .inr (.inl 22)), (105, .inr (.inl 23)), (108, .inl (4, 0)), (112, .inr (.inl 26)), (115, .inr (.inl 28)), (118, .inr (.inl 60)), (122, .inr (.inl 63))]
def hv_p0_4 : List (Nat × hw_P) := [(125, .inr (.inl 85)), (128, .inr (.inl 86)), (131, .inr (.inl 88)), (134, .inr (.inl 95)), (138, .inr (.inl 96)), (141, .inl (10, 7)), (144, .inl (8, 20)), (149, .inr (.inl 99))]
def hv_p0_5 : List (Nat × hw_P) := [(150, .inr (.inl 100)), (153, .inl (9, 15)), (158, .inr (.inl 32)), (159, .inl (9, 18)), (160, .inl (1, 7)), (163, .inr (.inl 115)), (167, .inl (4, 4)), (170, .inr (.inl 116))]
def hv_p0_6 : List (Nat × hw_P) := [(174, .inl (9, 4)), (178, .inl (1, 1)), (182, .inr (.inl 117)), (186, .inr (.inl 118)), (189, .inr (.inl 121)), (192, .inl (9, 5)), (195, .inl (9, 6)), (198, .inl (9, 9))]
def hv_p0_7 : List (Nat × hw_P) := [(202, .inr (.inl 11)), (206, .inl (9, 7)), (209, .inr (.inl 122)), (213, .inl (9, 8)), (216, .inr (.inl 140)), (220, .inl (1, 5)), (223, .inr (.inl 163)), (226, .inr (.inl 164))]
def hv_p0_8 : List (Nat × hw_P) := [(229, .inl (1, 3)), (231, .inl (1, 4)), (233, .inl (7, 0)), (235, .inl (7, 1)), (236, .inr (.inl 125)), (240, .inr (.inl 167)), (244, .inl (11, 4)), (247, .inl (11, 3))]
def hv_p0_9 : List (Nat × hw_P) := [(248, .inl (5, 1)), (251, .inr (.inl 17)), (256, .inr (.inl 107)), (257, .inr (.inl 123)), (261, .inr (.inl 152)), (264, .inr (.inl 18)), (267, .inl (4, 1)), (270, .inl (4, 9))]
def hv_p0_10 : List (Nat × hw_P) := [(273, .inl (4, 2)), (276, .inl (9, 16)), (279, .inl (9, 17)), (282, .inr (.inl 181)), (285, .inr (.inl 27))]
def hv_p0 : hv_Bk := [(37, hv_p0_0), (68, hv_p0_1), (98, hv_p0_2), (125, hv_p0_3), (150, hv_p0_4), (174, hv_p0_5), (202, hv_p0_6), (229, hv_p0_7), (248, hv_p0_8), (273, hv_p0_9), (286, hv_p0_10)]
def hv_p1_0 : List (Nat × hw_P) := [(3, .inr (.inl 0)), (9, .inl (1, 1)), (15, .inl (1, 2)), (21, .inl (1, 3)), (25, .inr (.inl 9)), (28, .inl (1, 4)), (32, .inl (1, 0)), (36, .inl (1, 6))]
def hv_p1_1 : List (Nat × hw_P) := [(39, .inl (1, 7))]
def hv_p1 : hv_Bk := [(39, hv_p1_0), (40, hv_p1_1)]
def hv_p2_0 : List (Nat × hw_P) := [(3, .inr (.inl 0)), (13, .inl (2, 0)), (17, .inl (2, 1)), (20, .inl (2, 2)), (24, .inr (.inl 9)), (27, .inl (2, 3)), (31, .inl (2, 4)), (34, .inl (2, 5))]
def hv_p2_1 : List (Nat × hw_P) := [(37, .inl (2, 6)), (40, .inr (.inl 11)), (44, .inr (.inl 34)), (50, .inr (.inl 10)), (53, .inl (2, 7)), (57, .inr (.inl 147)), (61, .inr (.inl 151)), (65, .inr (.inl 150))]
def hv_p2_2 : List (Nat × hw_P) := [(68, .inl (5, 1)), (71, .inr (.inl 154)), (75, .inr (.inl 156)), (79, .inr (.inl 152)), (83, .inr (.inl 153)), (86, .inr (.inl 133)), (89, .inr (.inl 155))]
def hv_p2 : hv_Bk := [(37, hv_p2_0), (68, hv_p2_1), (90, hv_p2_2)]
def hv_p3_0 : List (Nat × hw_P) := [(3, .inr (.inl 0)), (9, .inl (3, 0)), (15, .inl (3, 1)), (18, .inl (3, 2)), (21, .inl (3, 3)), (25, .inl (3, 4)), (29, .inr (.inl 82)), (33, .inr (.inl 34))]
def hv_p3_1 : List (Nat × hw_P) := [(39, .inr (.inl 10)), (42, .inr (.inl 83)), (47, .inr (.inr (.inr (.inl 9223372036854775807))))]
def hv_p3 : hv_Bk := [(39, hv_p3_0), (48, hv_p3_1)]
def hv_p4_0 : List (Nat × hw_P) := [(3, .inr (.inl 0)), (9, .inl (4, 5)), (15, .inl (4, 6)), (18, .inl (4, 7)), (21, .inl (4, 8)), (24, .inl (4, 10)), (27, .inl (4, 11)), (30, .inl (4, 12))]
def hv_p4_1 : List (Nat × hw_P) := [(33, .inl (4, 13)), (37, .inl (4, 14)), (40, .inl (4, 16)), (43, .inl (4, 17)), (46, .inl (4, 19)), (49, .inl (4, 20)), (52, .inl (4, 1)), (56, .inl (4, 2))]
def hv_p4_2 : List (Nat × hw_P) := [(59, .inl (4, 4)), (62, .inl (4, 9)), (65, .inl (4, 15)), (68, .inl (4, 18))]
def hv_p4 : hv_Bk := [(33, hv_p4_0), (59, hv_p4_1), (69, hv_p4_2)]
def hv_p5_0 : List (Nat × hw_P) := [(3, .inr (.inl 0)), (9, .inr (.inl 10)), (15, .inl (5, 0)), (21, .inl (5, 1)), (25, .inr (.inr (.inr (.inl 2147483647)))), (27, .inr (.inl 34)), (30, .inr (.inr (.inr (.inr 0)))), (36, .inr (.inl 18))]
def hv_p5_1 : List (Nat × hw_P) := [(40, .inr (.inl 19)), (45, .inr (.inl 153)), (49, .inr (.inl 131)), (53, .inr (.inl 132)), (56, .inr (.inl 125)), (60, .inr (.inl 134)), (64, .inr (.inl 135)), (68, .inr (.inl 137))]
def hv_p5_2 : List (Nat × hw_P) := [(71, .inr (.inl 136))]
def hv_p5 : hv_Bk := [(40, hv_p5_0), (71, hv_p5_1), (72, hv_p5_2)]
def hv_p6_0 : List (Nat × hw_P) := [(3, .inr (.inl 0)), (11, .inr (.inl 8)), (12, .inl (6, 1)), (18, .inl (6, 2)), (24, .inr (.inl 9)), (27, .inl (6, 3)), (31, .inl (6, 4)), (34, .inl (6, 5))]
def hv_p6_1 : List (Nat × hw_P) := [(37, .inl (6, 6)), (40, .inl (6, 7)), (43, .inl (6, 0)), (47, .inl (1, 6)), (53, .inl (1, 0)), (56, .inr (.inl 141)), (60, .inr (.inl 143)), (63, .inr (.inr (.inl 1000000)))]
def hv_p6_2 : List (Nat × hw_P) := [(64, .inr (.inl 145)), (67, .inr (.inl 149)), (70, .inr (.inl 157)), (73, .inl (1, 5)), (77, .inr (.inl 158)), (81, .inl (9, 15)), (86, .inl (1, 1)), (89, .inl (1, 2))]
def hv_p6_3 : List (Nat × hw_P) := [(93, .inl (9, 4)), (96, .inr (.inl 144)), (100, .inr (.inl 116)), (104, .inl (9, 5)), (107, .inl (9, 6)), (110, .inl (9, 8)), (113, .inr (.inl 142)), (116, .inr (.inl 10))]
def hv_p6_4 : List (Nat × hw_P) := [(122, .inr (.inl 146)), (125, .inr (.inl 148)), (129, .inl (9, 7)), (133, .inl (9, 9)), (136, .inr (.inl 147)), (140, .inr (.inl 11)), (144, .inl (1, 4)), (146, .inr (.inl 156))]
def hv_p6_5 : List (Nat × hw_P) := [(150, .inr (.inl 123)), (154, .inl (1, 3)), (157, .inl (2, 1)), (160, .inr (.inl 159)), (163, .inr (.inl 160)), (167, .inr (.inl 153)), (171, .inr (.inl 152)), (174, .inr (.inl 125))]
def hv_p6 : hv_Bk := [(37, hv_p6_0), (64, hv_p6_1), (93, hv_p6_2), (122, hv_p6_3), (150, hv_p6_4), (175, hv_p6_5)]
def hv_p7_0 : List (Nat × hw_P) := [(3, .inr (.inl 0)), (11, .inr (.inl 9)), (14, .inl (7, 0)), (20, .inl (7, 1)), (23, .inl (7, 2)), (26, .inl (7, 3)), (29, .inl (7, 4)), (32, .inr (.inl 11))]
def hv_p7_1 : List (Nat × hw_P) := [(36, .inr (.inl 123)), (40, .inr (.inl 124)), (44, .inr (.inl 133)), (48, .inr (.inr (.inl 1000000))), (49, .inl (5, 1)), (53, .inr (.inl 125)), (57, .inr (.inl 126)), (61, .inr (.inl 94))]
def hv_p7_2 : List (Nat × hw_P) := [(65, .inr (.inl 127)), (69, .inr (.inl 18)), (73, .inr (.inl 19)), (78, .inr (.inl 128)), (82, .inr (.inr (.inr (.inl 2147483647)))), (84, .inr (.inl 129)), (90, .inr (.inl 130)), (94, .inr (.inl 131))]
def hv_p7_3 : List (Nat × hw_P) := [(98, .inl (5, 0)), (102, .inr (.inl 132))]
def hv_p7 : hv_Bk := [(36, hv_p7_0), (65, hv_p7_1), (98, hv_p7_2), (103, hv_p7_3)]
def hv_p8_0 : List (Nat × hw_P) := [(3, .inr (.inl 0)), (9, .inl (8, 3)), (15, .inl (8, 4)), (18, .inl (8, 5)), (21, .inl (8, 6)), (24, .inl (8, 7)), (27, .inl (8, 8)), (30, .inl (8, 9))]
def hv_p8_1 : List (Nat × hw_P) := [(33, .inl (8, 10)), (36, .inl (8, 11)), (39, .inl (8, 20)), (43, .inl (8, 0)), (47, .inl (8, 1)), (51, .inl (8, 2)), (55, .inr (.inl 29)), (60, .inl (3, 3))]
def hv_p8_2 : List (Nat × hw_P) := [(65, .inl (8, 17)), (68, .inr (.inl 30)), (74, .inr (.inl 31)), (78, .inr (.inl 33)), (81, .inl (8, 19)), (84, .inr (.inl 59)), (87, .inr (.inl 62)), (90, .inr (.inl 64))]
def hv_p8_3 : List (Nat × hw_P) := [(94, .inr (.inl 67)), (98, .inr (.inl 61)), (101, .inr (.inl 80)), (105, .inr (.inl 84)), (109, .inl (4, 1)), (112, .inl (4, 4)), (115, .inl (8, 18)), (118, .inr (.inl 60))]
def hv_p8_4 : List (Nat × hw_P) := [(121, .inl (4, 3)), (124, .inl (4, 5)), (127, .inl (4, 6)), (130, .inl (4, 7)), (133, .inr (.inl 87)), (136, .inl (4, 8)), (139, .inr (.inr (.inr (.inl 1000)))), (141, .inr (.inl 81))]
def hv_p8_5 : List (Nat × hw_P) := [(145, .inl (3, 4)), (149, .inl (4, 9)), (152, .inl (4, 11)), (155, .inl (4, 12)), (158, .inr (.inl 89)), (161, .inl (4, 10)), (164, .inl (4, 13)), (168, .inl (4, 14))]
def hv_p8_6 : List (Nat × hw_P) := [(171, .inl (4, 15)), (174, .inr (.inl 90)), (177, .inr (.inl 91)), (180, .inr (.inl 93)), (184, .inl (4, 16)), (187, .inl (4, 2)), (190, .inr (.inl 66)), (194, .inr (.inl 69))]
def hv_p8_7 : List (Nat × hw_P) := [(197, .inr (.inl 94)), (201, .inl (4, 17)), (204, .inl (4, 18)), (207, .inr (.inl 92)), (210, .inl (4, 19)), (213, .inl (4, 20)), (216, .inr (.inl 65)), (219, .inl (8, 12))]
def hv_p8_8 : List (Nat × hw_P) := [(222, .inl (8, 13)), (225, .inl (8, 15)), (228, .inl (8, 16)), (231, .inr (.inl 68)), (234, .inr (.inl 74)), (238, .inl (8, 14)), (240, .inr (.inl 71)), (243, .inr (.inl 70))]
def hv_p8_9 : List (Nat × hw_P) := [(246, .inr (.inl 72)), (249, .inr (.inl 73)), (253, .inr (.inl 75)), (256, .inr (.inl 76)), (259, .inr (.inl 79)), (263, .inr (.inl 77)), (267, .inr (.inl 78)), (270, .inl (10, 7))]
def hv_p8_10 : List (Nat × hw_P) := [(273, .inl (10, 1)), (275, .inl (10, 2)), (277, .inl (10, 6)), (280, .inl (10, 4)), (284, .inr (.inl 32))]
def hv_p8 : hv_Bk := [(33, hv_p8_0), (65, hv_p8_1), (94, hv_p8_2), (121, hv_p8_3), (145, hv_p8_4), (171, hv_p8_5), (197, hv_p8_6), (222, hv_p8_7), (246, hv_p8_8), (273, hv_p8_9), (285, hv_p8_10)]
def hv_p9_0 : List (Nat × hw_P) := [(3, .inr (.inl 0)), (9, .inl (9, 2)), (15, .inl (9, 3)), (18, .inl (9, 4)), (22, .inl (9, 5)), (25, .inl (9, 6)), (28, .inl (9, 7)), (32, .inl (9, 8))]
def hv_p9_1 : List (Nat × hw_P) := [(35, .inl (9, 9)), (38, .inl (9, 10)), (41, .inl (9, 11)), (44, .inl (9, 12)), (47, .inl (9, 13)), (50, .inl (9, 0)), (54, .inl (9, 1)), (58, .inl (9, 15))]
def hv_p9_2 : List (Nat × hw_P) := [(62, .inl (9, 18)), (66, .inl (9, 16)), (69, .inl (9, 17)), (72, .inl (4, 8)), (77, .inr (.inr (.inr (.inr 0)))), (83, .inr (.inl 101)), (87, .inr (.inl 104)), (90, .inr (.inl 110))]
def hv_p9_3 : List (Nat × hw_P) := [(93, .inl (9, 14)), (96, .inr (.inl 105)), (99, .inl (4, 9)), (102, .inl (4, 10)), (105, .inr (.inl 102)), (109, .inl (4, 3)), (111, .inr (.inl 81)), (117, .inl (3, 4))]
def hv_p9_4 : List (Nat × hw_P) := [(122, .inr (.inl 103)), (123, .inl (4, 12)), (126, .inl (4, 2)), (129, .inr (.inl 111)), (133, .inr (.inl 112)), (136, .inl (4, 1)), (139, .inl (4, 11)), (142, .inr (.inl 10))]
def hv_p9_5 : List (Nat × hw_P) := [(147, .inr (.inl 106)), (151, .inl (4, 13)), (154, .inr (.inl 107)), (155, .inr (.inl 108)), (159, .inr (.inl 94)), (163, .inl (4, 14)), (166, .inl (4, 16)), (167, .inl (4, 17))]
def hv_p9_6 : List (Nat × hw_P) := [(170, .inl (4, 19)), (173, .inl (4, 20)), (176, .inl (4, 6)), (179, .inl (4, 7)), (182, .inr (.inl 109)), (186, .inl (4, 4))]
def hv_p9 : hv_Bk := [(35, hv_p9_0), (62, hv_p9_1), (93, hv_p9_2), (122, hv_p9_3), (147, hv_p9_4), (170, hv_p9_5), (187, hv_p9_6)]
def hv_p10_0 : List (Nat × hw_P) := [(3, .inr (.inl 0)), (9, .inl (10, 0)), (15, .inl (10, 1)), (18, .inl (10, 2)), (21, .inl (10, 3)), (24, .inl (10, 4)), (27, .inl (10, 5)), (31, .inr (.inl 34))]
def hv_p10_1 : List (Nat × hw_P) := [(37, .inl (10, 6)), (40, .inl (10, 7)), (43, .inr (.inl 35)), (47, .inr (.inl 37)), (51, .inr (.inl 36)), (54, .inr (.inl 38)), (58, .inr (.inl 39)), (61, .inr (.inl 40))]
def hv_p10_2 : List (Nat × hw_P) := [(64, .inr (.inl 50)), (67, .inr (.inl 53)), (71, .inr (.inl 41)), (74, .inr (.inr (.inr (.inr 1)))), (76, .inr (.inl 42)), (81, .inr (.inl 44)), (85, .inr (.inl 49)), (89, .inr (.inl 51))]
def hv_p10_3 : List (Nat × hw_P) := [(92, .inr (.inl 52)), (95, .inr (.inr (.inr (.inr 2)))), (97, .inr (.inr (.inr (.inr 3)))), (99, .inr (.inl 54))]
def hv_p10 : hv_Bk := [(37, hv_p10_0), (64, hv_p10_1), (92, hv_p10_2), (100, hv_p10_3)]
def hv_p11_0 : List (Nat × hw_P) := [(3, .inr (.inl 0)), (11, .inl (11, 1)), (17, .inl (11, 2)), (20, .inr (.inl 9)), (23, .inl (11, 3)), (27, .inl (11, 4)), (30, .inl (11, 5)), (33, .inl (11, 6))]
def hv_p11_1 : List (Nat × hw_P) := [(36, .inl (11, 7)), (39, .inl (11, 8)), (42, .inl (11, 9)), (45, .inl (11, 0)), (49, .inl (9, 15)), (55, .inr (.inl 11)), (59, .inr (.inl 168)), (63, .inl (9, 4))]
def hv_p11_2 : List (Nat × hw_P) := [(67, .inr (.inl 153)), (71, .inr (.inl 169)), (74, .inl (1, 2)), (79, .inl (5, 1)), (82, .inl (9, 5)), (86, .inl (1, 1)), (89, .inr (.inl 170)), (93, .inr (.inl 123))]
def hv_p11_3 : List (Nat × hw_P) := [(97, .inr (.inl 152)), (100, .inl (9, 7)), (103, .inr (.inl 133)), (106, .inr (.inl 126)), (110, .inr (.inl 94)), (114, .inl (9, 6)), (117, .inl (9, 9)), (120, .inl (9, 8))]
def hv_p11 : hv_Bk := [(36, hv_p11_0), (67, hv_p11_1), (97, hv_p11_2), (121, hv_p11_3)]
def hv_p12_0 : List (Nat × hw_P) := [(7, .inr (.inl 21)), (15, .inr (.inl 25)), (21, .inr (.inl 98)), (31, .inr (.inl 114)), (35, .inr (.inl 120)), (38, .inr (.inl 139)), (42, .inr (.inl 162)), (46, .inr (.inl 166))]
def hv_p12_1 : List (Nat × hw_P) := [(50, .inr (.inl 172)), (54, .inr (.inl 174)), (58, .inr (.inl 176)), (62, .inr (.inl 178)), (66, .inr (.inl 180)), (69, .inr (.inl 1)), (72, .inr (.inl 182)), (73, .inr (.inl 20))]
def hv_p12_2 : List (Nat × hw_P) := [(78, .inr (.inl 188)), (79, .inr (.inl 24)), (82, .inr (.inl 191)), (83, .inr (.inl 15)), (86, .inr (.inl 190)), (87, .inr (.inl 97)), (90, .inr (.inl 237)), (91, .inr (.inl 113))]
def hv_p12_3 : List (Nat × hw_P) := [(94, .inr (.inl 275)), (95, .inr (.inl 119)), (97, .inr (.inl 276)), (98, .inr (.inl 187)), (101, .inr (.inl 138)), (104, .inr (.inl 258)), (105, .inr (.inl 161)), (108, .inr (.inl 269))]
def hv_p12_4 : List (Nat × hw_P) := [(109, .inr (.inl 165)), (112, .inr (.inl 270)), (113, .inr (.inr (.inr (.inl 4294967295)))), (115, .inr (.inl 171)), (118, .inr (.inl 271)), (119, .inr (.inl 173)), (122, .inr (.inl 272)), (123, .inr (.inl 175))]
def hv_p12_5 : List (Nat × hw_P) := [(125, .inr (.inl 274)), (126, .inr (.inl 16)), (129, .inr (.inl 277)), (130, .inr (.inl 177)), (132, .inr (.inl 278)), (133, .inr (.inl 179)), (135, .inr (.inl 280))]
def hv_p12 : hv_Bk := [(50, hv_p12_0), (78, hv_p12_1), (94, hv_p12_2), (109, hv_p12_3), (125, hv_p12_4), (136, hv_p12_5)]
def hv_p13_0 : List (Nat × hw_P) := [(1, .inr (.inl 0)), (9, .inr (.inr (.inr (.inr 4)))), (11, .inr (.inr (.inr (.inr 5)))), (13, .inr (.inr (.inr (.inr 6)))), (15, .inr (.inr (.inr (.inr 7)))), (17, .inr (.inr (.inr (.inr 8)))), (19, .inr (.inr (.inr (.inr 9)))), (21, .inr (.inr (.inr (.inr 10))))]
def hv_p13_1 : List (Nat × hw_P) := [(23, .inr (.inr (.inr (.inr 11)))), (25, .inr (.inr (.inr (.inr 12)))), (27, .inr (.inr (.inr (.inr 13)))), (29, .inr (.inr (.inr (.inr 14)))), (31, .inr (.inr (.inr (.inr 15)))), (33, .inr (.inr (.inr (.inr 16)))), (35, .inl (12, 0)), (41, .inr (.inr (.inr (.inr 17))))]
def hv_p13_2 : List (Nat × hw_P) := [(43, .inr (.inr (.inr (.inr 18)))), (45, .inr (.inr (.inr (.inr 19)))), (47, .inr (.inr (.inr (.inr 20)))), (49, .inr (.inr (.inr (.inr 21)))), (51, .inr (.inr (.inr (.inr 22)))), (53, .inr (.inr (.inr (.inr 23)))), (55, .inr (.inr (.inr (.inr 24)))), (57, .inr (.inr (.inr (.inr 25))))]
def hv_p13_3 : List (Nat × hw_P) := [(59, .inr (.inr (.inr (.inr 26)))), (61, .inr (.inr (.inr (.inr 27)))), (63, .inr (.inr (.inr (.inr 28)))), (65, .inr (.inr (.inr (.inr 29)))), (67, .inr (.inr (.inr (.inr 30)))), (69, .inr (.inr (.inr (.inr 31)))), (71, .inr (.inr (.inr (.inr 32)))), (73, .inr (.inr (.inr (.inr 33))))]
def hv_p13_4 : List (Nat × hw_P) := [(75, .inr (.inr (.inr (.inr 34)))), (77, .inr (.inr (.inr (.inr 35)))), (79, .inr (.inr (.inr (.inr 36)))), (81, .inr (.inr (.inr (.inr 37)))), (83, .inr (.inr (.inr (.inr 38)))), (85, .inr (.inr (.inr (.inr 39)))), (87, .inr (.inr (.inr (.inr 40)))), (89, .inr (.inr (.inr (.inr 41))))]
def hv_p13_5 : List (Nat × hw_P) := [(91, .inl (12, 1)), (94, .inl (12, 4)), (98, .inl (12, 7)), (102, .inl (12, 8)), (105, .inl (12, 19)), (108, .inl (12, 20)), (111, .inl (12, 21)), (114, .inl (12, 22))]
def hv_p13_6 : List (Nat × hw_P) := [(117, .inl (12, 23)), (120, .inl (12, 24)), (123, .inl (12, 25)), (126, .inl (12, 26)), (129, .inl (12, 27)), (132, .inl (12, 28)), (135, .inl (12, 29)), (138, .inl (12, 30))]
def hv_p13_7 : List (Nat × hw_P) := [(141, .inl (12, 31)), (144, .inl (12, 32)), (147, .inl (12, 33)), (150, .inl (12, 34)), (153, .inl (12, 35)), (156, .inl (12, 36)), (160, .inl (12, 39)), (163, .inl (12, 44))]
def hv_p13_8 : List (Nat × hw_P) := [(166, .inl (12, 45)), (169, .inl (12, 50)), (172, .inl (12, 51)), (175, .inl (12, 52)), (178, .inl (12, 53)), (181, .inl (12, 54)), (184, .inl (12, 55)), (187, .inl (12, 56))]
def hv_p13_9 : List (Nat × hw_P) := [(190, .inl (12, 57)), (193, .inl (12, 58)), (196, .inl (12, 59)), (199, .inr (.inr (.inl 64000))), (200, .inl (12, 60)), (203, .inl (12, 61)), (208, .inr (.inl 183)), (211, .inl (12, 63))]
def hv_p13_10 : List (Nat × hw_P) := [(215, .inl (12, 64)), (218, .inl (12, 65)), (221, .inl (12, 66)), (224, .inl (12, 67)), (227, .inl (12, 68)), (230, .inl (12, 69)), (233, .inl (12, 70)), (236, .inl (12, 71))]
def hv_p13_11 : List (Nat × hw_P) := [(239, .inl (12, 72)), (242, .inl (12, 73)), (245, .inl (12, 74)), (248, .inl (12, 75)), (251, .inl (12, 76)), (254, .inl (12, 77)), (257, .inl (12, 78)), (260, .inl (12, 79))]
def hv_p13_12 : List (Nat × hw_P) := [(263, .inl (12, 80)), (266, .inl (12, 81)), (270, .inl (12, 82)), (273, .inl (12, 83)), (276, .inl (12, 84)), (279, .inl (12, 85)), (282, .inl (12, 86)), (285, .inl (12, 87))]
def hv_p13_13 : List (Nat × hw_P) := [(288, .inl (12, 88)), (291, .inl (12, 89)), (294, .inl (12, 90)), (297, .inl (12, 91)), (300, .inl (12, 92)), (303, .inl (12, 93)), (306, .inl (12, 94)), (309, .inl (12, 95))]
def hv_p13_14 : List (Nat × hw_P) := [(312, .inl (12, 96)), (315, .inl (12, 97)), (318, .inl (12, 98)), (321, .inl (12, 99)), (324, .inl (12, 100)), (327, .inl (12, 101)), (330, .inl (12, 102)), (333, .inl (12, 103))]
def hv_p13_15 : List (Nat × hw_P) := [(336, .inr (.inl 184)), (339, .inl (12, 2)), (342, .inl (12, 3)), (345, .inr (.inl 189)), (349, .inl (12, 6)), (353, .inl (12, 46)), (356, .inl (12, 5)), (359, .inr (.inl 192))]
def hv_p13_16 : List (Nat × hw_P) := [(363, .inr (.inl 193)), (367, .inr (.inl 194)), (371, .inl (12, 13)), (374, .inl (12, 12)), (377, .inr (.inl 196)), (379, .inr (.inl 197)), (383, .inl (12, 11)), (386, .inl (12, 9))]
def hv_p13_17 : List (Nat × hw_P) := [(389, .inr (.inl 198)), (392, .inr (.inl 199)), (395, .inr (.inl 200)), (399, .inr (.inl 42)), (403, .inl (12, 10)), (406, .inr (.inl 201)), (409, .inr (.inl 44)), (413, .inr (.inl 204))]
def hv_p13_18 : List (Nat × hw_P) := [(417, .inr (.inl 203)), (420, .inl (12, 14)), (423, .inr (.inl 209)), (427, .inl (12, 40)), (430, .inl (12, 41)), (433, .inr (.inl 211)), (436, .inl (12, 42)), (438, .inr (.inl 221))]
def hv_p13_19 : List (Nat × hw_P) := [(442, .inr (.inl 212)), (445, .inr (.inl 220)), (448, .inr (.inl 202)), (451, .inr (.inl 213)), (454, .inr (.inl 214)), (457, .inr (.inl 215)), (460, .inr (.inl 216)), (463, .inr (.inl 217))]
def hv_p13_20 : List (Nat × hw_P) := [(466, .inr (.inl 223)), (469, .inr (.inl 218)), (471, .inr (.inl 219)), (473, .inr (.inl 222)), (476, .inr (.inl 208)), (479, .inl (12, 38)), (482, .inl (12, 43)), (485, .inr (.inl 225))]
def hv_p13_21 : List (Nat × hw_P) := [(489, .inr (.inl 226)), (493, .inl (12, 15)), (496, .inl (12, 16)), (499, .inl (12, 17)), (502, .inl (12, 18)), (505, .inr (.inl 195)), (508, .inr (.inl 206)), (511, .inr (.inl 227))]
def hv_p13_22 : List (Nat × hw_P) := [(513, .inr (.inl 210)), (517, .inl (12, 37)), (519, .inr (.inl 207)), (522, .inr (.inl 224)), (525, .inr (.inl 228)), (529, .inr (.inl 229)), (532, .inr (.inl 231)), (535, .inr (.inl 230))]
def hv_p13_23 : List (Nat × hw_P) := [(538, .inr (.inr (.inr (.inl 1000)))), (540, .inr (.inl 232)), (543, .inr (.inl 233)), (546, .inr (.inl 234)), (549, .inr (.inl 235)), (552, .inr (.inl 236)), (555, .inl (12, 47)), (558, .inl (12, 48))]
def hv_p13_24 : List (Nat × hw_P) := [(561, .inl (12, 49)), (564, .inl (12, 62)), (567, .inr (.inl 238)), (570, .inl (13, 1)), (573, .inr (.inl 185)), (576, .inr (.inl 239)), (579, .inr (.inl 256)), (582, .inr (.inl 240))]
def hv_p13_25 : List (Nat × hw_P) := [(585, .inr (.inl 257)), (588, .inr (.inl 241)), (591, .inr (.inl 242)), (594, .inr (.inl 243)), (597, .inr (.inl 186)), (600, .inr (.inl 244)), (604, .inr (.inl 245)), (607, .inr (.inl 247))]
def hv_p13_26 : List (Nat × hw_P) := [(611, .inr (.inl 248)), (615, .inr (.inl 249)), (618, .inr (.inl 250)), (621, .inr (.inl 252)), (625, .inr (.inl 251)), (628, .inr (.inl 261)), (631, .inr (.inl 262)), (635, .inr (.inl 264))]
def hv_p13_27 : List (Nat × hw_P) := [(638, .inr (.inl 265)), (642, .inr (.inl 266)), (645, .inr (.inl 267)), (648, .inr (.inl 260)), (650, .inr (.inl 263)), (653, .inr (.inl 268)), (656, .inr (.inl 253)), (660, .inr (.inl 259))]
def hv_p13_28 : List (Nat × hw_P) := [(663, .inr (.inl 273)), (666, .inr (.inr (.inr (.inl 31)))), (668, .inr (.inl 279))]
def hv_p13 : hv_Bk := [(23, hv_p13_0), (43, hv_p13_1), (59, hv_p13_2), (75, hv_p13_3), (91, hv_p13_4), (117, hv_p13_5), (141, hv_p13_6), (166, hv_p13_7), (190, hv_p13_8), (215, hv_p13_9), (239, hv_p13_10), (263, hv_p13_11), (288, hv_p13_12), (312, hv_p13_13), (336, hv_p13_14), (363, hv_p13_15), (389, hv_p13_16), (417, hv_p13_17), (442, hv_p13_18), (466, hv_p13_19), (489, hv_p13_20), (513, hv_p13_21), (538, hv_p13_22), (561, hv_p13_23), (585, hv_p13_24), (611, hv_p13_25), (638, hv_p13_26), (663, hv_p13_27), (669, hv_p13_28)]
def hv_p14_0 : List (Nat × hw_P) := [(1, .inr (.inl 0)), (7, .inl (13, 0)), (13, .inl (13, 1)), (17, .inr (.inr (.inr (.inl 65535)))), (19, .inr (.inl 186)), (23, .inr (.inl 246)), (26, .inr (.inr (.inl 65535))), (27, .inr (.inr (.inr (.inl 16))))]
def hv_p14_1 : List (Nat × hw_P) := [(29, .inr (.inr (.inr (.inl 15)))), (31, .inr (.inl 253)), (35, .inr (.inl 254)), (38, .inr (.inl 255))]
def hv_p14 : hv_Bk := [(29, hv_p14_0), (39, hv_p14_1)]
def hv_p15 : hv_Bk := []
def hv_p16 : hv_Bk := []
def hv_p17 : hv_Bk := []
def hv_p18 : hv_Bk := []
def hv_p19_0 : List (Nat × hw_P) := [(264, .inr (.inr (.inl 65536)))]
def hv_p19 : hv_Bk := [(265, hv_p19_0)]
def hv_p20 : hv_Bk := []
def hv_p21_0 : List (Nat × hw_P) := [(9, .inr (.inr (.inr (.inr 2000)))), (10, .inr (.inr (.inr (.inr 2003)))), (15, .inr (.inr (.inr (.inr 2001)))), (38, .inr (.inr (.inr (.inr 2002)))), (335, .inr (.inl 43)), (492, .inr (.inl 45)), (495, .inr (.inl 46)), (505, .inr (.inl 42))]
def hv_p21_1 : List (Nat × hw_P) := [(541, .inr (.inl 205)), (633, .inr (.inl 55)), (637, .inr (.inl 56)), (1053, .inr (.inr (.inr (.inr 2004)))), (1059, .inr (.inl 48))]
def hv_p21 : hv_Bk := [(541, hv_p21_0), (1060, hv_p21_1)]
def hv_p22_0 : List (Nat × hw_P) := [(9, .inr (.inl 47)), (38, .inr (.inl 34)), (88, .inr (.inl 57)), (92, .inr (.inl 10)), (95, .inr (.inl 58))]
def hv_p22 : hv_Bk := [(96, hv_p22_0)]
def hv_p23 : hv_Bk := []
def hv_p24 : hv_Bk := []
def hv_pl (n : Nat) : hv_Bk := (bif Nat.blt n 12 then (bif Nat.blt n 6 then (bif Nat.blt n 3 then (bif Nat.blt n 1 then (bif Nat.beq n 0 then hv_p0 else []) else (bif Nat.blt n 2 then (bif Nat.beq n 1 then hv_p1 else []) else (bif Nat.beq n 2 then hv_p2 else []))) else (bif Nat.blt n 4 then (bif Nat.beq n 3 then hv_p3 else []) else (bif Nat.blt n 5 then (bif Nat.beq n 4 then hv_p4 else []) else (bif Nat.beq n 5 then hv_p5 else [])))) else (bif Nat.blt n 9 then (bif Nat.blt n 7 then (bif Nat.beq n 6 then hv_p6 else []) else (bif Nat.blt n 8 then (bif Nat.beq n 7 then hv_p7 else []) else (bif Nat.beq n 8 then hv_p8 else []))) else (bif Nat.blt n 10 then (bif Nat.beq n 9 then hv_p9 else []) else (bif Nat.blt n 11 then (bif Nat.beq n 10 then hv_p10 else []) else (bif Nat.beq n 11 then hv_p11 else []))))) else (bif Nat.blt n 18 then (bif Nat.blt n 15 then (bif Nat.blt n 13 then (bif Nat.beq n 12 then hv_p12 else []) else (bif Nat.blt n 14 then (bif Nat.beq n 13 then hv_p13 else []) else (bif Nat.beq n 14 then hv_p14 else []))) else (bif Nat.blt n 16 then (bif Nat.beq n 15 then hv_p15 else []) else (bif Nat.blt n 17 then (bif Nat.beq n 16 then hv_p16 else []) else (bif Nat.beq n 17 then hv_p17 else [])))) else (bif Nat.blt n 21 then (bif Nat.blt n 19 then (bif Nat.beq n 18 then hv_p18 else []) else (bif Nat.blt n 20 then (bif Nat.beq n 19 then hv_p19 else []) else (bif Nat.beq n 20 then hv_p20 else []))) else (bif Nat.blt n 23 then (bif Nat.blt n 22 then (bif Nat.beq n 21 then hv_p21 else []) else (bif Nat.beq n 22 then hv_p22 else [])) else (bif Nat.blt n 24 then (bif Nat.beq n 23 then hv_p23 else []) else (bif Nat.beq n 24 then hv_p24 else []))))))
noncomputable def hv_pool (f x : Nat) : Option hw_P := pg_lk2 (hv_pl (pg_pc f)) x
/-- a row is the pool's -/
def hv_ck (pl : Nat → Option mm_P) (q : Nat × hw_P) : Bool := match q.2 with
  | .inl (ci, p) => decide (pl q.1 = some (.inl (ci, p)))
  | .inr (.inl g) => decide (pl q.1 = some (.inr (.inl g)))
  | .inr (.inr (.inl c)) => (match pl q.1 with
    | some (.inr (.inr (.inr (.inl v)))) => decide (v.toInt = c)
    | _ => false)
  | .inr (.inr (.inr (.inl c))) => (match pl q.1 with
    | some (.inr (.inr (.inr (.inr (.inl v))))) => decide (v.toInt = c)
    | _ => false)
  | .inr (.inr (.inr (.inr k))) => decide (pl q.1 = some (.inr (.inr (.inr (.inr (.inr k))))))
def hv_ckB (pl : Nat → Option mm_P) (t : hv_Bk) : Bool := t.all (fun b => b.2.all (hv_ck pl))
theorem hv_ck_ok {pl : Nat → Option mm_P} {t : hv_Bk} (h : hv_ckB pl t = true) : hw_pk (pg_lk2 t) pl := by
  intro x q hq
  obtain ⟨b, h1, h2⟩ := pg_lk2_in hq
  have h3 := List.all_eq_true.mp (List.all_eq_true.mp h b h1) _ h2
  rcases q with ⟨ci, p⟩ | g | c | c | k
  · exact of_decide_eq_true h3
  · exact of_decide_eq_true h3
  · unfold hv_ck at h3
    dsimp only at h3
    split at h3
    · rename_i v hv
      exact ⟨v, hv, of_decide_eq_true h3⟩
    · cases h3
  · unfold hv_ck at h3
    dsimp only at h3
    split at h3
    · rename_i v hv
      exact ⟨v, hv, of_decide_eq_true h3⟩
    · cases h3
  · exact of_decide_eq_true h3
theorem hv_k0 : hv_ckB (pg_pool (pg_plr 0)) (hv_pl 0) = true := by decide +kernel
theorem hv_k1 : hv_ckB (pg_pool (pg_plr 1)) (hv_pl 1) = true := by decide +kernel
theorem hv_k2 : hv_ckB (pg_pool (pg_plr 2)) (hv_pl 2) = true := by decide +kernel
theorem hv_k3 : hv_ckB (pg_pool (pg_plr 3)) (hv_pl 3) = true := by decide +kernel
theorem hv_k4 : hv_ckB (pg_pool (pg_plr 4)) (hv_pl 4) = true := by decide +kernel
theorem hv_k5 : hv_ckB (pg_pool (pg_plr 5)) (hv_pl 5) = true := by decide +kernel
theorem hv_k6 : hv_ckB (pg_pool (pg_plr 6)) (hv_pl 6) = true := by decide +kernel
theorem hv_k7 : hv_ckB (pg_pool (pg_plr 7)) (hv_pl 7) = true := by decide +kernel
theorem hv_k8 : hv_ckB (pg_pool (pg_plr 8)) (hv_pl 8) = true := by decide +kernel
theorem hv_k9 : hv_ckB (pg_pool (pg_plr 9)) (hv_pl 9) = true := by decide +kernel
theorem hv_k10 : hv_ckB (pg_pool (pg_plr 10)) (hv_pl 10) = true := by decide +kernel
theorem hv_k11 : hv_ckB (pg_pool (pg_plr 11)) (hv_pl 11) = true := by decide +kernel
theorem hv_k12 : hv_ckB (pg_pool (pg_plr 12)) (hv_pl 12) = true := by decide +kernel
theorem hv_k13 : hv_ckB (pg_pool (pg_plr 13)) (hv_pl 13) = true := by decide +kernel
theorem hv_k14 : hv_ckB (pg_pool (pg_plr 14)) (hv_pl 14) = true := by decide +kernel
theorem hv_k15 : hv_ckB (pg_pool (pg_plr 15)) (hv_pl 15) = true := by decide +kernel
theorem hv_k16 : hv_ckB (pg_pool (pg_plr 16)) (hv_pl 16) = true := by decide +kernel
theorem hv_k17 : hv_ckB (pg_pool (pg_plr 17)) (hv_pl 17) = true := by decide +kernel
theorem hv_k18 : hv_ckB (pg_pool (pg_plr 18)) (hv_pl 18) = true := by decide +kernel
theorem hv_k19 : hv_ckB (pg_pool (pg_plr 19)) (hv_pl 19) = true := by decide +kernel
theorem hv_k20 : hv_ckB (pg_pool (pg_plr 20)) (hv_pl 20) = true := by decide +kernel
theorem hv_k21 : hv_ckB (pg_pool (pg_plr 21)) (hv_pl 21) = true := by decide +kernel
theorem hv_k22 : hv_ckB (pg_pool (pg_plr 22)) (hv_pl 22) = true := by decide +kernel
theorem hv_k23 : hv_ckB (pg_pool (pg_plr 23)) (hv_pl 23) = true := by decide +kernel
theorem hv_k24 : hv_ckB (pg_pool (pg_plr 24)) (hv_pl 24) = true := by decide +kernel
theorem hv_ka : ∀ n, hw_pk (pg_lk2 (hv_pl n)) (pg_pool (pg_plr n)) := by
  intro n
  rcases Nat.lt_or_ge n 25 with h | h
  · match n, h with
    | 0, _ => exact hv_ck_ok hv_k0
    | 1, _ => exact hv_ck_ok hv_k1
    | 2, _ => exact hv_ck_ok hv_k2
    | 3, _ => exact hv_ck_ok hv_k3
    | 4, _ => exact hv_ck_ok hv_k4
    | 5, _ => exact hv_ck_ok hv_k5
    | 6, _ => exact hv_ck_ok hv_k6
    | 7, _ => exact hv_ck_ok hv_k7
    | 8, _ => exact hv_ck_ok hv_k8
    | 9, _ => exact hv_ck_ok hv_k9
    | 10, _ => exact hv_ck_ok hv_k10
    | 11, _ => exact hv_ck_ok hv_k11
    | 12, _ => exact hv_ck_ok hv_k12
    | 13, _ => exact hv_ck_ok hv_k13
    | 14, _ => exact hv_ck_ok hv_k14
    | 15, _ => exact hv_ck_ok hv_k15
    | 16, _ => exact hv_ck_ok hv_k16
    | 17, _ => exact hv_ck_ok hv_k17
    | 18, _ => exact hv_ck_ok hv_k18
    | 19, _ => exact hv_ck_ok hv_k19
    | 20, _ => exact hv_ck_ok hv_k20
    | 21, _ => exact hv_ck_ok hv_k21
    | 22, _ => exact hv_ck_ok hv_k22
    | 23, _ => exact hv_ck_ok hv_k23
    | 24, _ => exact hv_ck_ok hv_k24
    | n + 25, h => exact absurd h (by omega)
  · intro x q hq
    exfalso
    have e : hv_pl n = [] := by
      unfold hv_pl
      have hb : ∀ k, k < 25 → Nat.beq n k = false := fun k hk => by
        cases hq : Nat.beq n k with
        | false => rfl
        | true => have := Nat.eq_of_beq_eq_true hq; omega
      have hl : ∀ k, k < 25 → Nat.blt n k = false := fun k hk => by
        cases hq : Nat.blt n k with
        | false => rfl
        | true => have := Nat.blt_eq.mp hq; omega
      simp [hb, hl]
    rw [e] at hq
    cases hq
/-- is the place among those? -/
noncomputable def hw_in (pc : Nat) (cs : List Nat) : Bool := List.rec (motive := fun _ => Bool) false (fun a _ ih => bif Nat.beq pc a then true else ih) cs
noncomputable def hv_nh (f : Nat) : Bool := !(hw_in f [20, 24, 97, 113, 119, 138, 161, 165, 171, 173, 175, 177, 179])
noncomputable def hv_D : hw_D := hw_og pg_G hv_nh hv_pool
theorem hv_nh_ok {f : Nat} (h : hv_nh f = true) : pg_hh f = [] := by
  unfold pg_hh
  split
  all_goals first | rfl | (exfalso; revert h; decide +kernel)
theorem hv_DG : hw_DG hv_D pg_G := by
  refine hw_og_ok (fun f hf pc ec => ?_) (fun f => hv_ka (pg_pc f))
  show (if pg_hh f = [] then some none else _) = _
  rw [if_pos (hv_nh_ok hf)]
section HVR
variable {G : mm_G} {TT : mm_T} {scr : Nat × (Nat → Int32)} {T : hw_T} {D : hw_D} {d f : Nat} {K : Option hw_V → hw_Z → Prop} {E : Nat → hw_Z → Prop}
/-- locals may be forgotten -/
def hw_le : hw_L → hw_L → Prop
  | [], [] => True
  | none :: r, _ :: r' => hw_le r r'
  | some v :: r, some v' :: r' => v = v' ∧ hw_le r r'
  | _, _ => False
theorem hw_le_ok : ∀ {L' L : hw_L}, hw_le L' L → L'.length = L.length ∧ ∀ i v, hw_ld L' i = some v → hw_ld L i = some v
  | [], [], _ => ⟨rfl, fun _ _ h => h⟩
  | none :: r, x :: r', h => by
    have h : hw_le r r' := h
    obtain ⟨h1, h2⟩ := hw_le_ok h
    refine ⟨by rw [List.length_cons, List.length_cons, h1], fun i v hv => ?_⟩
    cases i with
    | zero => cases hv
    | succ i => exact h2 i v hv
  | some a :: r, some b :: r', h => by
    have h : a = b ∧ hw_le r r' := h
    obtain ⟨h0, h⟩ := h
    obtain ⟨h1, h2⟩ := hw_le_ok h
    refine ⟨by rw [List.length_cons, List.length_cons, h1], fun i v hv => ?_⟩
    cases i with
    | zero => rw [h0] at hv; exact hv
    | succ i => exact h2 i v hv
  | some _ :: _, none :: _, h => h.elim
  | [], _ :: _, h => h.elim
  | none :: _, [], h => h.elim
  | some _ :: _, [], h => h.elim
theorem hw_W_le {pc : Nat} {L L' : hw_L} {st : List hw_V} {Z : hw_Z} (hl : hw_le L' L) (h : hw_W G TT scr T d f K E (pc, L', st, Z)) : hw_W G TT scr T d f K E (pc, L, st, Z) := by
  intro M us S Q hL hs hR hroom hK hE
  obtain ⟨h1, h2⟩ := hw_le_ok hl
  have hL : hw_ls T L M := hL
  exact h M us S Q ⟨by rw [hL.1]; exact h1.symm, fun i v hv => hL.2 i v (h2 i v hv)⟩ hs hR hroom hK hE
/-- a walk with an unknown goal and unknown calls; the places in a list are not walked into -/
theorem hw_run (hU : hw_U T) (hD : hw_DG D G) {k : hw_K} (h : ∀ (w : hw_K → Prop) (X : hw_X), (∀ (cs : List Nat) k, hw_in k.1 cs = false → hw_body D TT T X f K E w k → w k) → (∀ g as Z K E, hw_C G TT scr T d g as Z K E → X g as Z K E) → (∀ {pc L L' st Z}, hw_le L' L → w (pc, L', st, Z) → w (pc, L, st, Z)) → w k) : hw_W G TT scr T d f K E k :=
  h (hw_W G TT scr T d f K E) (fun g as Z K E => hw_C G TT scr T d g as Z K E) (fun _ _ _ => hw_step hU hD) (fun _ _ _ _ _ h => h) hw_W_le
theorem hw_meth (hU : hw_U T) (hD : hw_DG D G) {g : Nat} {args : List hw_V} {Z : hw_Z} {L : hw_L} (he : hw_nl (hw_entry (D.2.2.2 g).2.1 args) (fun l => L = l ∧ Nat.beq l.length (D.2.2.2 g).2.1 = true)) (h : ∀ (w : hw_K → Prop) (X : hw_X), (∀ (cs : List Nat) k, hw_in k.1 cs = false → hw_body D TT T X g K E w k → w k) → (∀ g as Z K E, hw_C G TT scr T d g as Z K E → X g as Z K E) → (∀ {pc L L' st Z}, hw_le L' L → w (pc, L', st, Z) → w (pc, L, st, Z)) → w (0, L, [], Z)) : hw_C G TT scr T (d + 1) g args Z K E :=
  hw_enter hD he (hw_run hU hD h)
end HVR
theorem hw_up_up {α : Type} {g : Int → α} {i : Int} {x y : α} : hw_up (hw_up g i x) i y = hw_up g i y := by
  funext q
  unfold hw_up
  by_cases h : q = i
  · rw [if_pos h, if_pos h]
  · rw [if_neg h, if_neg h, if_neg h]
theorem hw_up_id {α : Type} (g : Int → α) (i : Int) : g = hw_up g i (g i) := by
  funext q
  unfold hw_up
  by_cases h : q = i
  · rw [if_pos h, h]
  · rw [if_neg h]
/-- a result that has room -/
theorem hw_ex32 {P : Int → Prop} {e : Int} (h : -2147483648 ≤ e ∧ e ≤ 2147483647) (k : P e) : ∀ z q : Int, (-2147483648 ≤ z ∧ z ≤ 2147483647) → z = e + 4294967296 * q → P z := by
  intro z q hz hq
  have : z = e := by omega
  rw [this]
  exact k
theorem hw_ex64 {P : Int → Prop} {e : Int} (h : -9223372036854775808 ≤ e ∧ e ≤ 9223372036854775807) (k : P e) : ∀ z q : Int, (-9223372036854775808 ≤ z ∧ z ≤ 9223372036854775807) → z = e + 18446744073709551616 * q → P z := by
  intro z q hz hq
  have : z = e := by omega
  rw [this]
  exact k
