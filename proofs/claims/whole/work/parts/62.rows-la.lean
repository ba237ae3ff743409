theorem mem_r {big ws : List Cond} (ps : List Nat) (hp : ws = ps.filterMap (fun i => big[i]?)) : ∀ w ∈ ws, w ∈ big := by
  intro w hw
  rw [hp] at hw
  obtain ⟨i, -, hi⟩ := List.mem_filterMap.mp hw
  exact List.mem_of_getElem? hi
set_option maxRecDepth 100000 in
theorem wsL_law_r1_in : ∀ w ∈ wsL_law_r1, w ∈ lw_tbl := mem_r [73, 74, 63, 802, 803, 70, 75, 76, 77, 78, 79, 80, 81, 82, 64, 299, 179, 88, 65, 300, 181, 182, 66, 301] (by decide +kernel)
set_option maxRecDepth 100000 in
theorem wsL_law_r2_in : ∀ w ∈ wsL_law_r2, w ∈ lw_tbl := mem_r [209, 210, 67, 302, 228, 229, 68, 303, 269, 270, 69, 304, 84, 85, 86, 153, 154, 87, 158, 90, 91, 92, 120, 124] (by decide +kernel)
set_option maxRecDepth 100000 in
theorem wsL_law_r3_in : ∀ w ∈ wsL_law_r3, w ∈ lw_tbl := mem_r [128, 183, 184, 185, 186, 187, 211, 212, 213, 214, 215, 230, 231, 232, 233, 244, 245, 246, 234, 235, 236, 271, 272, 273] (by decide +kernel)
set_option maxRecDepth 100000 in
theorem wsL_law_r4_in : ∀ w ∈ wsL_law_r4, w ∈ lw_tbl := mem_r [274, 282, 283, 275, 276, 277, 804, 805, 806, 807, 809, 814, 815, 816, 817, 820, 821, 822, 823, 831, 832, 833, 847, 848] (by decide +kernel)
set_option maxRecDepth 100000 in
theorem wsL_law_r5_in : ∀ w ∈ wsL_law_r5, w ∈ lw_tbl := mem_r [849, 850, 327, 328, 329, 330, 157, 331, 332, 333, 334, 156, 941, 942, 943, 944, 808, 945, 946, 947, 335, 336, 337, 338] (by decide +kernel)
set_option maxRecDepth 100000 in
theorem wsL_law_r6_in : ∀ w ∈ wsL_law_r6, w ∈ lw_tbl := mem_r [948, 949, 950, 951, 339, 340, 341, 342, 343, 344, 345, 346, 160, 347, 348, 349, 350, 93, 96, 99, 105, 108, 111, 114] (by decide +kernel)
set_option maxRecDepth 100000 in
theorem wsL_law_r7_in : ∀ w ∈ wsL_law_r7, w ∈ lw_tbl := mem_r [117, 351, 352, 353, 354, 355, 356, 357, 358, 161, 359, 360, 361, 362, 363, 364, 365, 366, 94, 97, 367, 368, 369, 370] (by decide +kernel)
set_option maxRecDepth 100000 in
theorem wsL_law_r8_in : ∀ w ∈ wsL_law_r8, w ∈ lw_tbl := mem_r [371, 372, 373, 104, 162, 374, 375, 376, 377, 378, 379, 380, 381, 163, 382, 383, 384, 385, 386, 387, 388, 389, 390, 391] (by decide +kernel)
set_option maxRecDepth 100000 in
theorem wsL_law_r9_in : ∀ w ∈ wsL_law_r9, w ∈ lw_tbl := mem_r [392, 393, 394, 395, 396, 397, 398, 399, 952, 953, 954, 955, 956, 958, 5, 959, 826, 830, 960, 962, 6, 963, 827, 828] (by decide +kernel)
set_option maxRecDepth 100000 in
theorem wsL_law_r10_in : ∀ w ∈ wsL_law_r10, w ∈ lw_tbl := mem_r [829, 964, 966, 7, 967, 968, 970, 8, 971, 972, 974, 9, 975, 976, 977, 978, 979, 981, 10, 982, 983, 985, 11, 986] (by decide +kernel)
set_option maxRecDepth 100000 in
theorem wsL_law_r11_in : ∀ w ∈ wsL_law_r11, w ∈ lw_tbl := mem_r [987, 989, 12, 990, 991, 993, 13, 994, 400, 401, 402, 403, 159, 305, 103, 404, 405, 406, 407, 408, 409, 410, 411, 412] (by decide +kernel)
set_option maxRecDepth 100000 in
theorem wsL_law_r12_in : ∀ w ∈ wsL_law_r12, w ∈ lw_tbl := mem_r [413, 414, 415, 417, 0, 418, 238, 419, 420, 421, 422, 278, 280, 995, 996, 997, 998, 810, 811, 813, 818, 812, 423, 424] (by decide +kernel)
set_option maxRecDepth 100000 in
theorem wsL_law_r13_in : ∀ w ∈ wsL_law_r13, w ∈ lw_tbl := mem_r [425, 426, 427, 428, 429, 430, 431, 432, 433, 434, 435, 436, 437, 438, 439, 440, 441, 442, 443, 444, 445, 446, 447, 448] (by decide +kernel)
set_option maxRecDepth 100000 in
theorem wsL_law_r14_in : ∀ w ∈ wsL_law_r14, w ∈ lw_tbl := mem_r [999, 1000, 1001, 1002, 1003, 1005, 14, 1006, 1007, 1009, 15, 1010, 834, 835, 836, 1011, 1013, 16, 1014, 1015, 1017, 17, 1018, 1019] (by decide +kernel)
set_option maxRecDepth 100000 in
theorem wsL_law_r15_in : ∀ w ∈ wsL_law_r15, w ∈ lw_tbl := mem_r [1020, 1021, 449, 450, 451, 452, 453, 454, 455, 457, 1, 458, 459, 1022, 1023, 1024, 1025, 1026, 1028, 18, 1029, 1030, 1032, 19] (by decide +kernel)
set_option maxRecDepth 100000 in
theorem wsL_law_r16_in : ∀ w ∈ wsL_law_r16, w ∈ lw_tbl := mem_r [1033, 1034, 1036, 20, 1037, 460, 461, 462, 463, 464, 465, 466, 467, 468, 1038, 1039, 1040, 1041, 1042, 1044, 21, 1045, 469, 470] (by decide +kernel)
set_option maxRecDepth 100000 in
theorem wsL_law_r17_in : ∀ w ∈ wsL_law_r17, w ∈ lw_tbl := mem_r [471, 472, 479, 481, 473, 474, 475, 476, 477, 478, 1046, 1047, 1048, 1049, 1050, 1051, 1052, 1053, 1054, 1055, 1056, 1057, 1058, 1059] (by decide +kernel)
set_option maxRecDepth 100000 in
theorem wsL_law_r18_in : ∀ w ∈ wsL_law_r18, w ∈ lw_tbl := mem_r [1061, 22, 1062, 483, 484, 485, 486, 95, 98, 487, 488, 489, 490, 491, 492, 493, 494, 495, 496, 1063, 1064, 1065, 1066, 837] (by decide +kernel)
set_option maxRecDepth 100000 in
theorem wsL_law_r19_in : ∀ w ∈ wsL_law_r19, w ∈ lw_tbl := mem_r [1067, 1069, 23, 1070, 1071, 1072, 1073, 1074, 497, 498, 499, 500, 123, 127, 129, 501, 502, 503, 504, 1075, 1076, 1077, 1078, 1079] (by decide +kernel)
set_option maxRecDepth 100000 in
theorem wsL_law_r20_in : ∀ w ∈ wsL_law_r20, w ∈ lw_tbl := mem_r [1081, 24, 1082, 1083, 1085, 25, 1086, 505, 506, 507, 508, 107, 110, 113, 116, 119, 1087, 1088, 1089, 1090, 1091, 1093, 26, 1094] (by decide +kernel)
set_option maxRecDepth 100000 in
theorem wsL_law_r21_in : ∀ w ∈ wsL_law_r21, w ∈ lw_tbl := mem_r [509, 510, 511, 512, 513, 514, 515, 516, 517, 518, 519, 520, 521, 1095, 1096, 1097, 1098, 1099, 1101, 27, 1102, 522, 523, 524] (by decide +kernel)
set_option maxRecDepth 100000 in
theorem wsL_law_r22_in : ∀ w ∈ wsL_law_r22, w ∈ lw_tbl := mem_r [525, 526, 527, 528, 529, 188, 189, 190, 121, 125, 191, 192, 193, 530, 531, 532, 533, 534, 535, 536, 537, 106, 109, 538] (by decide +kernel)
set_option maxRecDepth 100000 in
theorem wsL_law_r23_in : ∀ w ∈ wsL_law_r23, w ∈ lw_tbl := mem_r [539, 540, 541, 542, 543, 544, 71, 545, 546, 547, 548, 549, 550, 551, 552, 553, 554, 555, 556, 557, 558, 561, 562, 563] (by decide +kernel)
set_option maxRecDepth 100000 in
theorem wsL_law_r24_in : ∀ w ∈ wsL_law_r24, w ∈ lw_tbl := mem_r [564, 565, 566, 567, 568, 570, 571, 572, 573, 574, 575, 1103, 1104, 1105, 1106, 1107, 1109, 28, 1110, 1111, 838, 1112, 839, 840] (by decide +kernel)
set_option maxRecDepth 100000 in
theorem wsL_law_r25_in : ∀ w ∈ wsL_law_r25, w ∈ lw_tbl := mem_r [1113, 1115, 29, 1116, 1117, 1119, 30, 1120, 841, 842, 843, 1121, 1122, 1123, 1124, 1126, 31, 1127, 1128, 1130, 32, 1131, 1132, 1134] (by decide +kernel)
set_option maxRecDepth 100000 in
theorem wsL_law_r26_in : ∀ w ∈ wsL_law_r26, w ∈ lw_tbl := mem_r [33, 1135, 1136, 576, 577, 578, 579, 580, 581, 582, 583, 237, 242, 239, 584, 585, 586, 587, 243, 100, 588, 589, 590, 591] (by decide +kernel)
set_option maxRecDepth 100000 in
theorem wsL_law_r27_in : ∀ w ∈ wsL_law_r27, w ∈ lw_tbl := mem_r [592, 593, 594, 595, 596, 597, 598, 599, 600, 601, 602, 603, 604, 605, 606, 607, 608, 609, 216, 217, 218, 611, 612, 614] (by decide +kernel)
set_option maxRecDepth 100000 in
theorem wsL_law_r28_in : ∀ w ∈ wsL_law_r28, w ∈ lw_tbl := mem_r [615, 617, 618, 619, 620, 621, 622, 102, 623, 624, 625, 626, 112, 627, 628, 71, 629, 630, 631, 632, 633, 122, 126, 634] (by decide +kernel)
set_option maxRecDepth 100000 in
theorem wsL_law_r29_in : ∀ w ∈ wsL_law_r29, w ∈ lw_tbl := mem_r [635, 636, 637, 638, 642, 643, 644, 645, 1137, 1138, 1139, 1140, 844, 1141, 1143, 34, 1144, 845, 846, 1145, 1147, 35, 1148, 1149] (by decide +kernel)
set_option maxRecDepth 100000 in
theorem wsL_law_r30_in : ∀ w ∈ wsL_law_r30, w ∈ lw_tbl := mem_r [1151, 36, 1152, 1153, 1155, 37, 1156, 1157, 1159, 38, 1160, 1161, 1162, 1163, 646, 647, 648, 649, 241, 650, 651, 652, 653, 654] (by decide +kernel)
set_option maxRecDepth 100000 in
theorem wsL_law_r31_in : ∀ w ∈ wsL_law_r31, w ∈ lw_tbl := mem_r [655, 72, 656, 657, 658, 659, 660, 661, 662, 663, 664, 665, 666, 667, 668, 1164, 1165, 1166, 1167, 1168, 1170, 39, 1171, 1172] (by decide +kernel)
set_option maxRecDepth 100000 in
theorem wsL_law_r32_in : ∀ w ∈ wsL_law_r32, w ∈ lw_tbl := mem_r [1174, 40, 1175, 1176, 1178, 41, 1179, 1180, 1182, 42, 1183, 1184, 1185, 1186, 1187, 1189, 43, 1190, 1191, 1193, 44, 1194, 1195, 1196] (by decide +kernel)
set_option maxRecDepth 100000 in
theorem wsL_law_r33_in : ∀ w ∈ wsL_law_r33, w ∈ lw_tbl := mem_r [1197, 669, 670, 671, 672, 673, 674, 675, 676, 677, 678, 679, 680, 1198, 1199, 1200, 1201, 1202, 1204, 45, 1205, 1206, 1208, 46] (by decide +kernel)
set_option maxRecDepth 100000 in
theorem wsL_law_r34_in : ∀ w ∈ wsL_law_r34, w ∈ lw_tbl := mem_r [1209, 681, 682, 683, 684, 306, 281, 685, 686, 687, 688, 101, 247, 689, 690, 691, 692, 240, 693, 694, 695, 696, 697, 115] (by decide +kernel)
set_option maxRecDepth 100000 in
theorem wsL_law_r35_in : ∀ w ∈ wsL_law_r35, w ∈ lw_tbl := mem_r [118, 698, 699, 700, 1210, 1211, 1212, 1213, 1214, 1216, 47, 1217, 819, 824, 1218, 1220, 48, 1221, 701, 702, 703, 704, 279, 307] (by decide +kernel)
set_option maxRecDepth 100000 in
theorem wsL_law_r36_in : ∀ w ∈ wsL_law_r36, w ∈ lw_tbl := mem_r [705, 706, 707, 708, 709, 710, 711, 712, 713, 714, 715, 716, 717, 718, 719, 720, 721, 722, 723, 724, 725, 726, 727, 728] (by decide +kernel)
set_option maxRecDepth 100000 in
theorem wsL_law_r37_in : ∀ w ∈ wsL_law_r37, w ∈ lw_tbl := mem_r [729, 730, 731, 732, 733, 734, 735, 736, 737, 738, 739, 740, 1222, 1223, 1224, 1225, 1226, 1228, 49, 1229, 825, 1230, 1232, 50] (by decide +kernel)
set_option maxRecDepth 100000 in
theorem wsL_law_r38_in : ∀ w ∈ wsL_law_r38, w ∈ lw_tbl := mem_r [1233, 1234, 1236, 51, 1237, 1238, 1240, 52, 1241, 1242, 1244, 53, 1245, 1246, 1248, 54, 1249, 741, 742, 743, 744, 745, 746, 747] (by decide +kernel)
set_option maxRecDepth 100000 in
theorem wsL_law_r39_in : ∀ w ∈ wsL_law_r39, w ∈ lw_tbl := mem_r [748, 749, 753, 754, 755, 756, 757, 758, 759, 760, 1250, 1251, 1252, 1253, 1254, 1256, 55, 1257, 1258, 1260, 56, 1261, 1262, 1264] (by decide +kernel)
set_option maxRecDepth 100000 in
theorem wsL_law_r40_in : ∀ w ∈ wsL_law_r40, w ∈ lw_tbl := mem_r [57, 1265, 761, 762, 763, 764, 765, 1266, 1267, 1268, 1269, 766, 767, 768, 769, 770, 771, 772, 773, 1270, 1271, 1272, 1273, 774] (by decide +kernel)
set_option maxRecDepth 100000 in
theorem wsL_law_r41_in : ∀ w ∈ wsL_law_r41, w ∈ lw_tbl := mem_r [775, 776, 777, 778, 779, 780, 781, 1274, 1275, 1276, 1277, 1278, 1280, 58, 1281, 1282, 1284, 59, 1285, 782, 783, 784, 785, 786] (by decide +kernel)
set_option maxRecDepth 100000 in
theorem wsL_law_r42_in : ∀ w ∈ wsL_law_r42, w ∈ lw_tbl := mem_r [791, 155, 787, 789, 2, 790, 792, 793, 795, 3, 796, 797, 799, 4, 800, 801, 1286, 1287, 1288, 1289, 1290, 851, 1291, 1293] (by decide +kernel)
set_option maxRecDepth 100000 in
theorem wsL_law_r43_in : ∀ w ∈ wsL_law_r43, w ∈ lw_tbl := mem_r [60, 1294, 1295, 1297, 61, 1298, 1299] (by decide +kernel)
set_option maxRecDepth 100000 in
theorem inX0 : ∀ w ∈ wsX00, w ∈ lw_tbl := mem_r [130, 132, 134, 136, 138, 140, 142, 144, 146, 148, 150] (by decide +kernel)
set_option maxRecDepth 100000 in
theorem inX1 : ∀ w ∈ wsX10, w ∈ lw_tbl := mem_r [194, 196, 198, 200, 202, 204, 206] (by decide +kernel)
set_option maxRecDepth 100000 in
theorem inX2 : ∀ w ∈ wsX20, w ∈ lw_tbl := mem_r [164, 166, 168, 170, 172, 174, 176] (by decide +kernel)
set_option maxRecDepth 100000 in
theorem inX3 : ∀ w ∈ wsX30, w ∈ lw_tbl := mem_r [284, 286, 288, 290, 292, 294, 296] (by decide +kernel)
set_option maxRecDepth 100000 in
theorem inX4 : ∀ w ∈ wsX40, w ∈ lw_tbl := mem_r [219, 221, 223, 225] (by decide +kernel)
set_option maxRecDepth 100000 in
theorem inX5 : ∀ w ∈ wsX50, w ∈ lw_tbl := mem_r [248, 250, 252, 254, 256, 258, 260, 262, 264, 266] (by decide +kernel)
set_option maxRecDepth 100000 in
theorem inX6 : ∀ w ∈ wsX60, w ∈ lw_tbl := mem_r [308, 310, 312, 314, 316, 318, 320, 322, 324] (by decide +kernel)
set_option maxRecDepth 100000 in
theorem inX7 : ∀ w ∈ wsX70, w ∈ lw_tbl := mem_r [852, 854, 856, 858, 860, 862, 864, 866, 868, 870, 872, 874, 876, 878, 880, 882, 884, 886, 888, 890, 892, 894, 896, 898, 900, 902, 904, 906, 908, 910, 912, 914, 916, 918, 920, 922, 924, 926, 928, 930, 932, 934, 936, 938] (by decide +kernel)
theorem wsL_law_in : ∀ w ∈ wsL_law, w ∈ lw_tbl := by
  intro w h
  simp only [wsL_law, List.mem_append] at h
  rcases h with (((((((((h | (h | (h | (h | (h | (h | (h | (h | (h | (h | (h | (h | (h | (h | (h | (h | (h | (h | (h | (h | (h | (h | (h | (h | (h | (h | (h | (h | (h | (h | (h | (h | (h | (h | (h | (h | (h | (h | (h | (h | (h | (h | h)))))))))))))))))))))))))))))))))))))))))) | h) | h) | h) | h) | h) | h) | h) | h) | h
  · exact wsL_law_r1_in w h
  · exact wsL_law_r2_in w h
  · exact wsL_law_r3_in w h
  · exact wsL_law_r4_in w h
  · exact wsL_law_r5_in w h
  · exact wsL_law_r6_in w h
  · exact wsL_law_r7_in w h
  · exact wsL_law_r8_in w h
  · exact wsL_law_r9_in w h
  · exact wsL_law_r10_in w h
  · exact wsL_law_r11_in w h
  · exact wsL_law_r12_in w h
  · exact wsL_law_r13_in w h
  · exact wsL_law_r14_in w h
  · exact wsL_law_r15_in w h
  · exact wsL_law_r16_in w h
  · exact wsL_law_r17_in w h
  · exact wsL_law_r18_in w h
  · exact wsL_law_r19_in w h
  · exact wsL_law_r20_in w h
  · exact wsL_law_r21_in w h
  · exact wsL_law_r22_in w h
  · exact wsL_law_r23_in w h
  · exact wsL_law_r24_in w h
  · exact wsL_law_r25_in w h
  · exact wsL_law_r26_in w h
  · exact wsL_law_r27_in w h
  · exact wsL_law_r28_in w h
  · exact wsL_law_r29_in w h
  · exact wsL_law_r30_in w h
  · exact wsL_law_r31_in w h
  · exact wsL_law_r32_in w h
  · exact wsL_law_r33_in w h
  · exact wsL_law_r34_in w h
  · exact wsL_law_r35_in w h
  · exact wsL_law_r36_in w h
  · exact wsL_law_r37_in w h
  · exact wsL_law_r38_in w h
  · exact wsL_law_r39_in w h
  · exact wsL_law_r40_in w h
  · exact wsL_law_r41_in w h
  · exact wsL_law_r42_in w h
  · exact wsL_law_r43_in w h
  · exact inX6 w h
  · exact inX7 w h
  · exact inX2 w h
  · exact inX0 w h
  · exact inX1 w h
  · exact inX4 w h
  · exact inX5 w h
  · exact inX3 w h
  · exact absurd h List.not_mem_nil
