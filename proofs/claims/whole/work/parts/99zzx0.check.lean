/-! the kernel holds the tables against the bytes: printed by wip/whole/checks.py -/
set_option maxRecDepth 100000 in
theorem zk_0 : zz_okM [(1, [272, 115, 325, 271])] zm_0 = true := by decide +kernel
set_option maxRecDepth 100000 in
theorem zk_1 : zz_okM [(2, [326])] zm_1 = true := by decide +kernel
set_option maxRecDepth 100000 in
theorem zk_2 : zz_okM [(1, [326])] zm_2 = true := by decide +kernel
set_option maxRecDepth 100000 in
theorem zk_3 : zz_okM [(1, [326]), (11, [326]), (33, [326]), (43, [326]), (78, [326])] zm_3 = true := by decide +kernel
set_option maxRecDepth 100000 in
theorem zk_4 : zz_okM [(1, [235, 134, 135]), (7, [159]), (9, [249]), (15, [159]), (17, [250]), (24, [159]), (26, [251]), (30, [239, 113, 236, 237, 238])] zm_4 = true := by decide +kernel
set_option maxRecDepth 100000 in
theorem zk_5 : zz_okM [(1, [240]), (4, [240]), (8, [245, 113, 242, 244, 0])] zm_5 = true := by decide +kernel
set_option maxRecDepth 100000 in
theorem zk_6 : zz_okM [(2, [294]), (6, [297]), (9, [245, 113, 242, 244, 0])] zm_6 = true := by decide +kernel
set_option maxRecDepth 100000 in
theorem zk_7 : zz_okM [(5, [249]), (9, [248, 114, 246, 247]), (12, [248, 114, 246, 247]), (15, [252]), (22, [252]), (29, [249]), (45, [253])] zm_7 = true := by decide +kernel
set_option maxRecDepth 100000 in
theorem zk_8 : zz_okM [(2, [253])] zm_8 = true := by decide +kernel
set_option maxRecDepth 100000 in
theorem zk_9 : zz_okM [(1, [253]), (9, [148]), (14, [248, 114, 246, 247]), (39, [696, 113, 693, 695, 21]), (45, [251]), (60, [248, 114, 246, 247]), (63, [610, 114, 715, 609]), (81, [253])] zm_9 = true := by decide +kernel
set_option maxRecDepth 100000 in
theorem zk_10 : zz_okM [(23, [251])] zm_10 = true := by decide +kernel
set_option maxRecDepth 100000 in
theorem zk_11 : zz_okM [(9, [252]), (18, [249]), (26, [249]), (44, [700, 113, 697, 699, 22]), (55, [587, 117, 701, 586]), (70, [704, 113, 702, 703]), (73, [700, 113, 697, 699, 22]), (98, [250]), (106, [250]), (114, [250]), (136, [250]), (144, [250]), (155, [250]), (164, [250]), (172, [714, 113, 712, 713]), (191, [250])] zm_11 = true := by decide +kernel
set_option maxRecDepth 100000 in
theorem zk_12 : zz_okM [(6, [250]), (16, [250])] zm_12 = true := by decide +kernel
set_option maxRecDepth 100000 in
theorem zk_13 : zz_okM [(43, [546, 110, 705, 544, 545]), (49, [546, 110, 705, 544, 545]), (64, [546, 110, 705, 544, 545]), (70, [546, 110, 705, 544, 545]), (74, [708, 127, 706, 707]), (81, [546, 110, 705, 544, 545]), (87, [546, 110, 705, 544, 545]), (91, [708, 127, 706, 707]), (98, [546, 110, 705, 544, 545]), (105, [546, 110, 705, 544, 545]), (112, [546, 110, 705, 544, 545]), (115, [708, 127, 706, 707])] zm_13 = true := by decide +kernel
set_option maxRecDepth 100000 in
theorem zk_14 : zz_okM [] zm_14 = true := by decide +kernel
set_option maxRecDepth 100000 in
theorem zk_15 : zz_okM [(1, [412, 134, 135]), (7, [159]), (9, [414]), (15, [159]), (17, [415]), (22, [413])] zm_15 = true := by decide +kernel
set_option maxRecDepth 100000 in
theorem zk_16 : zz_okM [(6, [413]), (9, [145]), (16, [413]), (21, [546, 110, 1092, 544, 545])] zm_16 = true := by decide +kernel
set_option maxRecDepth 100000 in
theorem zk_17 : zz_okM [(7, [413]), (10, [145]), (27, [413]), (32, [546, 110, 1092, 544, 545])] zm_17 = true := by decide +kernel
set_option maxRecDepth 100000 in
theorem zk_18 : zz_okM [(4, [1091, 121, 1118, 1089, 1090]), (25, [1091, 121, 1118, 1089, 1090]), (48, [708, 127, 1119, 707]), (52, [708, 127, 1119, 707])] zm_18 = true := by decide +kernel
set_option maxRecDepth 100000 in
theorem zk_19 : zz_okM [(4, [414]), (12, [414]), (38, [1091, 121, 1118, 1089, 1090]), (48, [708, 127, 1119, 707]), (56, [414]), (64, [414]), (73, [1139, 121, 1137, 1138])] zm_19 = true := by decide +kernel
set_option maxRecDepth 100000 in
theorem zk_20 : zz_okM [] zm_20 = true := by decide +kernel
set_option maxRecDepth 100000 in
theorem zk_21 : zz_okM [(6, [414]), (14, [414]), (20, [414])] zm_21 = true := by decide +kernel
set_option maxRecDepth 100000 in
theorem zk_22 : zz_okM [(6, [414]), (14, [414])] zm_22 = true := by decide +kernel
set_option maxRecDepth 100000 in
theorem zk_23 : zz_okM [] zm_23 = true := by decide +kernel
set_option maxRecDepth 100000 in
theorem zk_24 : zz_okM [(19, [610, 114, 1163, 609]), (23, [610, 114, 1163, 609])] zm_24 = true := by decide +kernel
set_option maxRecDepth 100000 in
theorem zk_25 : zz_okM [(3, [1162, 121, 1160, 1161]), (11, [1162, 121, 1160, 1161]), (29, [1162, 121, 1160, 1161]), (41, [1162, 121, 1160, 1161])] zm_25 = true := by decide +kernel
set_option maxRecDepth 100000 in
theorem zk_26 : zz_okM [(9, [415]), (17, [415]), (25, [1175, 121, 1172, 1173, 1174]), (28, [1179, 121, 1176, 1178, 54])] zm_26 = true := by decide +kernel
set_option maxRecDepth 100000 in
theorem zk_27 : zz_okM [(6, [415]), (14, [415])] zm_27 = true := by decide +kernel
set_option maxRecDepth 100000 in
theorem zk_28 : zz_okM [(16, [1183, 121, 1180, 1181, 1182])] zm_28 = true := by decide +kernel
set_option maxRecDepth 100000 in
theorem zk_29 : zz_okM [(17, [1179, 121, 1176, 1178, 54]), (23, [1179, 121, 1176, 1178, 54])] zm_29 = true := by decide +kernel
set_option maxRecDepth 100000 in
theorem zk_30 : zz_okM [(8, [413]), (11, [145]), (18, [413]), (24, [546, 110, 1092, 544, 545])] zm_30 = true := by decide +kernel
set_option maxRecDepth 100000 in
theorem zk_31 : zz_okM [(5, [1091, 121, 1118, 1089, 1090]), (9, [708, 127, 1119, 707]), (15, [708, 127, 1119, 707]), (20, [610, 114, 1163, 609])] zm_31 = true := by decide +kernel
set_option maxRecDepth 100000 in
theorem zk_32 : zz_okM [(1, [272, 115, 270, 271]), (6, [274])] zm_32 = true := by decide +kernel
set_option maxRecDepth 100000 in
theorem zk_33 : zz_okM [(1, [277])] zm_33 = true := by decide +kernel
set_option maxRecDepth 100000 in
theorem zk_34 : zz_okM [(2, [275]), (7, [274]), (10, [147]), (13, [276]), (18, [277])] zm_34 = true := by decide +kernel
set_option maxRecDepth 100000 in
theorem zk_35 : zz_okM [(1, [275])] zm_35 = true := by decide +kernel
set_option maxRecDepth 100000 in
theorem zk_36 : zz_okM [(1, [275]), (62, [526, 116, 523, 525, 3]), (75, [534, 116, 531, 533, 4]), (81, [538, 116, 535, 537, 5]), (89, [550, 116, 547, 549, 7]), (97, [554, 116, 551, 553, 8]), (111, [550, 116, 547, 549, 7]), (119, [554, 116, 551, 553, 8]), (140, [534, 116, 531, 533, 4]), (153, [534, 116, 531, 533, 4]), (159, [558, 116, 555, 557, 9]), (165, [562, 116, 559, 561, 10]), (171, [554, 116, 551, 553, 8])] zm_36 = true := by decide +kernel
set_option maxRecDepth 100000 in
theorem zk_37 : zz_okM [(1, [276]), (24, [274]), (28, [276]), (36, [530, 110, 527, 528, 529]), (40, [274]), (44, [276]), (49, [530, 110, 527, 528, 529]), (53, [274]), (57, [276]), (62, [530, 110, 527, 528, 529]), (66, [274]), (70, [276]), (75, [530, 110, 527, 528, 529]), (79, [274]), (83, [276]), (88, [530, 110, 527, 528, 529]), (93, [275])] zm_37 = true := by decide +kernel
set_option maxRecDepth 100000 in
theorem zk_38 : zz_okM [(13, [274]), (17, [276]), (26, [530, 110, 527, 528, 529]), (31, [275]), (36, [275])] zm_38 = true := by decide +kernel
set_option maxRecDepth 100000 in
theorem zk_39 : zz_okM [(18, [542, 116, 539, 541, 6])] zm_39 = true := by decide +kernel
set_option maxRecDepth 100000 in
theorem zk_40 : zz_okM [(18, [542, 116, 539, 541, 6]), (28, [275])] zm_40 = true := by decide +kernel
set_option maxRecDepth 100000 in
theorem zk_41 : zz_okM [(1, [274]), (5, [276]), (9, [546, 110, 543, 544, 545]), (22, [274]), (26, [276]), (35, [530, 110, 527, 528, 529])] zm_41 = true := by decide +kernel
set_option maxRecDepth 100000 in
theorem zk_42 : zz_okM [(7, [275]), (16, [275]), (28, [275]), (38, [275]), (50, [275]), (61, [275])] zm_42 = true := by decide +kernel
set_option maxRecDepth 100000 in
theorem zk_43 : zz_okM [(10, [534, 116, 531, 533, 4]), (20, [276]), (25, [276]), (30, [277]), (35, [277])] zm_43 = true := by decide +kernel
set_option maxRecDepth 100000 in
theorem zk_44 : zz_okM [(10, [275])] zm_44 = true := by decide +kernel
set_option maxRecDepth 100000 in
theorem zk_45 : zz_okM [(1, [335, 134, 135]), (8, [159]), (10, [337]), (16, [159]), (18, [338]), (25, [159]), (27, [339]), (33, [159]), (35, [340]), (40, [336])] zm_45 = true := by decide +kernel
set_option maxRecDepth 100000 in
theorem zk_46 : zz_okM [(9, [336]), (14, [546, 110, 852, 544, 545]), (30, [337]), (44, [728, 113, 853, 726, 727]), (58, [337]), (69, [728, 113, 853, 726, 727])] zm_46 = true := by decide +kernel
set_option maxRecDepth 100000 in
theorem zk_47 : zz_okM [(4, [861, 119, 858, 860, 33]), (7, [343]), (14, [861, 119, 858, 860, 33]), (17, [344])] zm_47 = true := by decide +kernel
set_option maxRecDepth 100000 in
theorem zk_48 : zz_okM [(2, [336]), (6, [684, 110, 862, 682, 683]), (27, [338]), (59, [338])] zm_48 = true := by decide +kernel
set_option maxRecDepth 100000 in
theorem zk_49 : zz_okM [(5, [343]), (12, [344])] zm_49 = true := by decide +kernel
set_option maxRecDepth 100000 in
theorem zk_50 : zz_okM [(6, [340]), (14, [340])] zm_50 = true := by decide +kernel
set_option maxRecDepth 100000 in
theorem zk_51 : zz_okM [(20, [339]), (28, [339]), (37, [883])] zm_51 = true := by decide +kernel
set_option maxRecDepth 100000 in
theorem zk_52 : zz_okM [(20, [339]), (28, [339])] zm_52 = true := by decide +kernel
set_option maxRecDepth 100000 in
theorem zk_53 : zz_okM [(41, [338]), (56, [338]), (63, [883]), (67, [338]), (77, [338]), (94, [337]), (102, [337]), (111, [883])] zm_53 = true := by decide +kernel
set_option maxRecDepth 100000 in
theorem zk_54 : zz_okM [(39, [339]), (47, [339]), (56, [883])] zm_54 = true := by decide +kernel
set_option maxRecDepth 100000 in
theorem zk_55 : zz_okM [(6, [882, 119, 879, 881, 37]), (14, [887, 119, 884, 886, 38])] zm_55 = true := by decide +kernel
set_option maxRecDepth 100000 in
theorem zk_56 : zz_okM [(2, [343]), (10, [344]), (25, [878, 119, 875, 877, 36]), (34, [878, 119, 875, 877, 36]), (41, [344]), (55, [878, 119, 875, 877, 36]), (69, [610, 114, 888, 609]), (79, [248, 114, 889, 247])] zm_56 = true := by decide +kernel
set_option maxRecDepth 100000 in
theorem zk_57 : zz_okM [(1, [343]), (10, [344]), (27, [874, 119, 871, 873, 35]), (30, [893, 119, 890, 892, 39]), (42, [874, 119, 871, 873, 35]), (45, [893, 119, 890, 892, 39]), (64, [897, 119, 894, 896, 40])] zm_57 = true := by decide +kernel
set_option maxRecDepth 100000 in
theorem zk_58 : zz_okM [(2, [870, 119, 867, 869, 34])] zm_58 = true := by decide +kernel
set_option maxRecDepth 100000 in
theorem zk_59 : zz_okM [(2, [870, 119, 867, 869, 34])] zm_59 = true := by decide +kernel
set_option maxRecDepth 100000 in
theorem zk_60 : zz_okM [(5, [878, 119, 875, 877, 36])] zm_60 = true := by decide +kernel
set_option maxRecDepth 100000 in
theorem zk_61 : zz_okM [(8, [341]), (12, [343]), (16, [344]), (35, [340]), (44, [343]), (55, [878, 119, 875, 877, 36]), (62, [897, 119, 894, 896, 40]), (113, [340]), (125, [341])] zm_61 = true := by decide +kernel
set_option maxRecDepth 100000 in
theorem zk_62 : zz_okM [(6, [343]), (14, [344])] zm_62 = true := by decide +kernel
set_option maxRecDepth 100000 in
theorem zk_63 : zz_okM [(6, [343]), (15, [344]), (27, [958]), (35, [887, 119, 884, 886, 38]), (54, [345]), (61, [346]), (64, [248, 114, 889, 247]), (77, [882, 119, 879, 881, 37])] zm_63 = true := by decide +kernel
set_option maxRecDepth 100000 in
theorem zk_64 : zz_okM [(2, [343]), (10, [344]), (16, [883]), (24, [957, 119, 954, 956, 45]), (32, [957, 119, 954, 956, 45]), (35, [610, 114, 888, 609])] zm_64 = true := by decide +kernel
set_option maxRecDepth 100000 in
theorem zk_65 : zz_okM [(2, [345]), (7, [346]), (12, [341]), (16, [343]), (25, [344]), (45, [953, 119, 950, 952, 44]), (48, [893, 119, 890, 892, 39]), (61, [953, 119, 950, 952, 44]), (64, [893, 119, 890, 892, 39]), (83, [897, 119, 894, 896, 40]), (92, [962, 119, 959, 961, 46])] zm_65 = true := by decide +kernel
set_option maxRecDepth 100000 in
theorem zk_66 : zz_okM [(10, [343]), (14, [344]), (33, [340]), (45, [957, 119, 954, 956, 45]), (80, [882, 119, 879, 881, 37]), (116, [340]), (129, [341])] zm_66 = true := by decide +kernel
set_option maxRecDepth 100000 in
theorem zk_67 : zz_okM [(46, [883]), (55, [897, 119, 894, 896, 40]), (65, [882, 119, 879, 881, 37]), (75, [897, 119, 894, 896, 40]), (85, [882, 119, 879, 881, 37]), (89, [248, 114, 889, 247])] zm_67 = true := by decide +kernel
set_option maxRecDepth 100000 in
theorem zk_68 : zz_okM [(4, [343]), (14, [344]), (28, [925, 119, 922, 924, 42]), (31, [893, 119, 890, 892, 39]), (42, [925, 119, 922, 924, 42]), (45, [893, 119, 890, 892, 39])] zm_68 = true := by decide +kernel
set_option maxRecDepth 100000 in
theorem zk_69 : zz_okM [(8, [897, 119, 894, 896, 40]), (18, [897, 119, 894, 896, 40])] zm_69 = true := by decide +kernel
set_option maxRecDepth 100000 in
theorem zk_70 : zz_okM [(0, [883]), (12, [917, 119, 930, 915, 916]), (24, [934, 119, 931, 933, 43]), (27, [248, 114, 889, 247])] zm_70 = true := by decide +kernel
set_option maxRecDepth 100000 in
theorem zk_71 : zz_okM [(9, [917, 119, 930, 915, 916]), (20, [934, 119, 931, 933, 43])] zm_71 = true := by decide +kernel
set_option maxRecDepth 100000 in
theorem zk_72 : zz_okM [(0, [883]), (7, [343]), (26, [344]), (38, [897, 119, 894, 896, 40]), (46, [897, 119, 894, 896, 40]), (49, [248, 114, 889, 247]), (52, [248, 114, 889, 247])] zm_72 = true := by decide +kernel
set_option maxRecDepth 100000 in
theorem zk_73 : zz_okM [(2, [353]), (7, [348]), (12, [350]), (17, [336]), (23, [1006, 110, 1003, 1004, 1005]), (26, [351]), (31, [708, 127, 1007, 707]), (34, [352]), (40, [1011, 119, 1008, 1010, 47]), (43, [354]), (53, [354]), (57, [1015, 119, 1012, 1014, 48]), (61, [351])] zm_73 = true := by decide +kernel
set_option maxRecDepth 100000 in
theorem zk_74 : zz_okM [(12, [336]), (17, [546, 110, 852, 544, 545]), (59, [337]), (73, [248, 114, 889, 247])] zm_74 = true := by decide +kernel
set_option maxRecDepth 100000 in
theorem zk_75 : zz_okM [(1, [708, 127, 1007, 707]), (9, [351]), (18, [351]), (27, [352]), (48, [353]), (64, [1019, 119, 1016, 1018, 49]), (90, [1015, 119, 1012, 1014, 48]), (105, [354]), (110, [336]), (115, [546, 110, 852, 544, 545]), (119, [1015, 119, 1012, 1014, 48]), (134, [336]), (140, [546, 110, 852, 544, 545]), (146, [1015, 119, 1012, 1014, 48])] zm_75 = true := by decide +kernel
set_option maxRecDepth 100000 in
theorem zk_76 : zz_okM [(6, [857, 119, 1020, 855, 856]), (11, [870, 119, 867, 869, 34]), (19, [353]), (27, [348]), (33, [350]), (38, [351]), (43, [708, 127, 1007, 707]), (46, [352])] zm_76 = true := by decide +kernel
set_option maxRecDepth 100000 in
theorem zk_77 : zz_okM [(1, [165, 134, 135]), (6, [168])] zm_77 = true := by decide +kernel
set_option maxRecDepth 100000 in
theorem zk_78 : zz_okM [(2, [166]), (5, [166]), (10, [168]), (13, [168]), (18, [170]), (21, [170]), (26, [173]), (29, [173]), (34, [175]), (37, [175]), (42, [177]), (45, [177]), (50, [178]), (53, [178]), (58, [179]), (61, [179]), (66, [180]), (69, [180])] zm_78 = true := by decide +kernel
set_option maxRecDepth 100000 in
theorem zk_79 : zz_okM [(5, [177]), (12, [178])] zm_79 = true := by decide +kernel
set_option maxRecDepth 100000 in
theorem zk_80 : zz_okM [(5, [179]), (12, [180])] zm_80 = true := by decide +kernel
set_option maxRecDepth 100000 in
theorem zk_81 : zz_okM [(5, [173]), (16, [175])] zm_81 = true := by decide +kernel
set_option maxRecDepth 100000 in
theorem zk_82 : zz_okM [(6, [170]), (13, [170]), (18, [175]), (23, [175])] zm_82 = true := by decide +kernel
set_option maxRecDepth 100000 in
theorem zk_83 : zz_okM [(6, [175]), (13, [175]), (18, [170]), (23, [170])] zm_83 = true := by decide +kernel
set_option maxRecDepth 100000 in
theorem zk_84 : zz_okM [(3, [546, 110, 733, 544, 545]), (13, [737, 111, 734, 735, 736]), (16, [741, 110, 738, 739, 740]), (28, [166]), (35, [546, 110, 733, 544, 545]), (40, [166]), (45, [168]), (50, [170]), (58, [170]), (63, [173]), (69, [173]), (79, [179]), (85, [179]), (90, [177]), (95, [749, 110, 746, 747, 748]), (99, [177]), (107, [180]), (113, [180]), (118, [178]), (123, [749, 110, 746, 747, 748]), (127, [178])] zm_84 = true := by decide +kernel
set_option maxRecDepth 100000 in
theorem zk_85 : zz_okM [(1, [205, 134, 135]), (7, [206, 207]), (10, [209]), (15, [206, 207]), (18, [210]), (23, [229]), (25, [211]), (29, [206, 161, 111]), (33, [164, 111, 208, 163]), (36, [212]), (48, [209]), (52, [206, 161, 111]), (56, [164, 111, 208, 163]), (74, [210]), (78, [206, 161, 111]), (82, [164, 111, 208, 163])] zm_85 = true := by decide +kernel
set_option maxRecDepth 100000 in
theorem zk_86 : zz_okM [(1, [213]), (8, [213]), (17, [209]), (21, [213]), (26, [723, 111, 720, 721, 722]), (31, [213]), (42, [213]), (51, [213]), (58, [214]), (63, [248, 114, 724, 247]), (66, [214])] zm_86 = true := by decide +kernel
set_option maxRecDepth 100000 in
theorem zk_87 : zz_okM [(1, [212]), (5, [723, 111, 720, 721, 722])] zm_87 = true := by decide +kernel
set_option maxRecDepth 100000 in
theorem zk_88 : zz_okM [(2, [212]), (5, [719, 112, 827, 717, 718])] zm_88 = true := by decide +kernel
set_option maxRecDepth 100000 in
theorem zk_89 : zz_okM [(2, [212]), (5, [723, 111, 720, 721, 722])] zm_89 = true := by decide +kernel
set_option maxRecDepth 100000 in
theorem zk_90 : zz_okM [(1, [214]), (11, [213]), (18, [213]), (28, [213]), (32, [213]), (42, [209]), (46, [213]), (50, [723, 111, 720, 721, 722]), (55, [214]), (60, [214]), (64, [214])] zm_90 = true := by decide +kernel
set_option maxRecDepth 100000 in
theorem zk_91 : zz_okM [(2, [214])] zm_91 = true := by decide +kernel
set_option maxRecDepth 100000 in
theorem zk_92 : zz_okM [(8, [211])] zm_92 = true := by decide +kernel
