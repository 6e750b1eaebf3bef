theorem mem_ps {big : List Cond} (ws : List Cond) (ps : List Nat) (hp : ws = ps.filterMap (fun i => big[i]?)) : ∀ w ∈ ws, w ∈ big := by
  intro w hw
  rw [hp] at hw
  obtain ⟨i, -, hi⟩ := List.mem_filterMap.mp hw
  exact List.mem_of_getElem? hi
theorem mem_ap {a b : List Cond} {P : Cond → Prop} (ha : ∀ w ∈ a, P w) (hb : ∀ w ∈ b, P w) : ∀ w ∈ a ++ b, P w := fun w h => (List.mem_append.mp h).elim (ha w) (hb w)
set_option maxRecDepth 100000 in
theorem wli_1 : ∀ w ∈ wsL_law_r1, w ∈ lw_tbl := mem_ps _ [88, 89, 78, 816, 817, 84, 90, 91, 92, 93, 94, 95, 96, 97, 79, 203, 204, 117, 205, 118, 206, 120, 121, 82] (by decide +kernel)
set_option maxRecDepth 100000 in
theorem wli_2 : ∀ w ∈ wsL_law_r2, w ∈ lw_tbl := mem_ps _ [207, 208, 161, 83, 209, 210, 211, 212, 213, 214, 215, 98, 99, 100, 101, 102, 103, 80, 104, 105, 110, 111, 107, 108] (by decide +kernel)
set_option maxRecDepth 100000 in
theorem wli_3 : ∀ w ∈ wsL_law_r3, w ∈ lw_tbl := mem_ps _ [81, 109, 123, 124, 125, 126, 127, 128, 160, 129, 130, 131, 132, 133, 135, 137, 163, 164, 165, 166, 169, 172, 175, 177] (by decide +kernel)
set_option maxRecDepth 100000 in
theorem wli_4 : ∀ w ∈ wsL_law_r4, w ∈ lw_tbl := mem_ps _ [179, 180, 181, 202, 182, 818, 819, 820, 821, 823, 826, 827, 828, 829, 830, 831, 832, 833, 837, 838, 839, 840, 841, 842] (by decide +kernel)
set_option maxRecDepth 100000 in
theorem wli_5 : ∀ w ∈ wsL_law_r5, w ∈ lw_tbl := mem_ps _ [843, 844, 845, 846, 847, 848, 849, 851, 854, 855, 243, 244, 245, 246, 247, 249, 0, 250, 251, 252, 253, 254, 255, 257] (by decide +kernel)
set_option maxRecDepth 100000 in
theorem wli_6 : ∀ w ∈ wsL_law_r6, w ∈ lw_tbl := mem_ps _ [1, 258, 259, 260, 261, 262, 263, 934, 935, 936, 937, 938, 939, 940, 941, 942, 943, 944, 946, 40, 947, 822, 264, 265] (by decide +kernel)
set_option maxRecDepth 100000 in
theorem wli_7 : ∀ w ∈ wsL_law_r7, w ∈ lw_tbl := mem_ps _ [266, 267, 268, 270, 2, 271, 272, 273, 274, 275, 276, 277, 278, 279, 280, 281, 282, 283, 284, 285, 286, 287, 288, 289] (by decide +kernel)
set_option maxRecDepth 100000 in
theorem wli_8 : ∀ w ∈ wsL_law_r8, w ∈ lw_tbl := mem_ps _ [964, 965, 966, 967, 968, 949, 950, 951, 952, 954, 41, 955, 956, 958, 42, 959, 960, 962, 43, 963, 824, 290, 291, 292] (by decide +kernel)
set_option maxRecDepth 100000 in
theorem wli_9 : ∀ w ∈ wsL_law_r9, w ∈ lw_tbl := mem_ps _ [293, 948, 294, 295, 296, 297, 298, 299, 300, 301, 969, 970, 971, 972, 302, 303, 304, 305, 306, 307, 308, 309, 310, 312] (by decide +kernel)
set_option maxRecDepth 100000 in
theorem wli_10 : ∀ w ∈ wsL_law_r10, w ∈ lw_tbl := mem_ps _ [311, 85, 973, 974, 975, 976, 313, 314, 315, 316, 317, 318, 319, 320, 321, 322, 323, 324, 325, 977, 978, 979, 980, 326] (by decide +kernel)
set_option maxRecDepth 100000 in
theorem wli_11 : ∀ w ∈ wsL_law_r11, w ∈ lw_tbl := mem_ps _ [327, 328, 329, 981, 982, 983, 984, 985, 986, 987, 330, 331, 332, 333, 988, 989, 990, 991, 992, 994, 44, 995, 334, 335] (by decide +kernel)
set_option maxRecDepth 100000 in
theorem wli_12 : ∀ w ∈ wsL_law_r12, w ∈ lw_tbl := mem_ps _ [336, 337, 338, 339, 340, 996, 997, 998, 999, 1000, 1001, 1002, 341, 342, 343, 344, 345, 346, 347, 348, 349, 350, 351, 353] (by decide +kernel)
set_option maxRecDepth 100000 in
theorem wli_13 : ∀ w ∈ wsL_law_r13, w ∈ lw_tbl := mem_ps _ [3, 354, 355, 357, 4, 358, 1003, 1004, 1005, 1006, 1007, 1009, 45, 1010, 1011, 1012, 1013, 1014, 1016, 46, 1017, 359, 360, 361] (by decide +kernel)
set_option maxRecDepth 100000 in
theorem wli_14 : ∀ w ∈ wsL_law_r14, w ∈ lw_tbl := mem_ps _ [362, 1018, 1019, 1020, 1021, 363, 364, 365, 366, 367, 368, 369, 370, 371, 372, 373, 374, 375, 376, 378, 5, 379, 380, 382] (by decide +kernel)
set_option maxRecDepth 100000 in
theorem wli_15 : ∀ w ∈ wsL_law_r15, w ∈ lw_tbl := mem_ps _ [6, 383, 384, 386, 7, 387, 388, 390, 8, 391, 392, 394, 9, 395, 396, 398, 10, 399, 400, 402, 11, 403, 404, 405] (by decide +kernel)
set_option maxRecDepth 100000 in
theorem wli_16 : ∀ w ∈ wsL_law_r16, w ∈ lw_tbl := mem_ps _ [406, 407, 408, 410, 12, 411, 412, 414, 13, 415, 1022, 1023, 1024, 1025, 1026, 1027, 1028, 1029, 1031, 47, 1032, 834, 835, 1033] (by decide +kernel)
set_option maxRecDepth 100000 in
theorem wli_17 : ∀ w ∈ wsL_law_r17, w ∈ lw_tbl := mem_ps _ [1035, 48, 1036, 1037, 1039, 49, 1040, 1041, 1043, 50, 1044, 836, 1045, 1047, 51, 1048, 1049, 1051, 52, 1052, 1053, 1055, 53, 1056] (by decide +kernel)
set_option maxRecDepth 100000 in
theorem wli_18 : ∀ w ∈ wsL_law_r18, w ∈ lw_tbl := mem_ps _ [416, 417, 418, 419, 420, 421, 422, 423, 424, 425, 426, 427, 428, 429, 430, 431, 432, 433, 434, 435, 436, 437, 438, 439] (by decide +kernel)
set_option maxRecDepth 100000 in
theorem wli_19 : ∀ w ∈ wsL_law_r19, w ∈ lw_tbl := mem_ps _ [440, 1057, 1058, 1059, 1060, 1061, 1062, 1063, 1064, 1065, 1066, 1067, 1069, 54, 1070, 1071, 1073, 55, 1074, 441, 442, 443, 444, 1075] (by decide +kernel)
set_option maxRecDepth 100000 in
theorem wli_20 : ∀ w ∈ wsL_law_r20, w ∈ lw_tbl := mem_ps _ [1076, 1077, 1078, 1079, 1081, 56, 1082, 445, 446, 447, 448, 1083, 1084, 1085, 1086, 449, 450, 451, 452, 453, 455, 14, 456, 1087] (by decide +kernel)
set_option maxRecDepth 100000 in
theorem wli_21 : ∀ w ∈ wsL_law_r21, w ∈ lw_tbl := mem_ps _ [1088, 1089, 1090, 1091, 1093, 57, 1094, 457, 458, 459, 460, 461, 462, 463, 464, 465, 466, 467, 468, 469, 470, 471, 472, 473] (by decide +kernel)
set_option maxRecDepth 100000 in
theorem wli_22 : ∀ w ∈ wsL_law_r22, w ∈ lw_tbl := mem_ps _ [474, 475, 476, 477, 1095, 1096, 1097, 1098, 1099, 1101, 58, 1102, 1103, 1105, 59, 1106, 1107, 1108, 1109, 478, 479, 480, 481, 1110] (by decide +kernel)
set_option maxRecDepth 100000 in
theorem wli_23 : ∀ w ∈ wsL_law_r23, w ∈ lw_tbl := mem_ps _ [1111, 1112, 1113, 850, 1114, 1116, 60, 1117, 482, 483, 484, 485, 486, 488, 15, 489, 490, 492, 16, 493, 494, 495, 496, 497] (by decide +kernel)
set_option maxRecDepth 100000 in
theorem wli_24 : ∀ w ∈ wsL_law_r24, w ∈ lw_tbl := mem_ps _ [498, 500, 17, 501, 502, 504, 18, 505, 506, 507, 508, 509, 511, 19, 512, 513, 514, 516, 20, 517, 518, 519, 520, 521] (by decide +kernel)
set_option maxRecDepth 100000 in
theorem wli_25 : ∀ w ∈ wsL_law_r25, w ∈ lw_tbl := mem_ps _ [522, 523, 524, 525, 526, 527, 528, 530, 21, 531, 532, 533, 534, 535, 538, 539, 540, 541, 542, 543, 544, 545, 546, 547] (by decide +kernel)
set_option maxRecDepth 100000 in
theorem wli_26 : ∀ w ∈ wsL_law_r26, w ∈ lw_tbl := mem_ps _ [548, 550, 22, 551, 552, 553, 554, 555, 556, 557, 558, 559, 560, 561, 562, 563, 564, 1118, 1119, 1120, 1121, 1122, 1124, 61] (by decide +kernel)
set_option maxRecDepth 100000 in
theorem wli_27 : ∀ w ∈ wsL_law_r27, w ∈ lw_tbl := mem_ps _ [1125, 1126, 1128, 62, 1129, 1130, 1132, 63, 1133, 1134, 1136, 64, 1137, 1138, 1139, 1140, 1141, 1142, 1143, 565, 566, 567, 568, 569] (by decide +kernel)
set_option maxRecDepth 100000 in
theorem wli_28 : ∀ w ∈ wsL_law_r28, w ∈ lw_tbl := mem_ps _ [1144, 1145, 1146, 1147, 570, 571, 572, 573, 574, 575, 576, 577, 1148, 1149, 1150, 1151, 853, 852, 1152, 1154, 65, 1155, 1156, 1158] (by decide +kernel)
set_option maxRecDepth 100000 in
theorem wli_29 : ∀ w ∈ wsL_law_r29, w ∈ lw_tbl := mem_ps _ [66, 1159, 1160, 1162, 67, 1163, 856, 1164, 1166, 68, 1167, 578, 579, 580, 581, 582, 583, 584, 585, 1168, 1169, 1170, 1171, 586] (by decide +kernel)
set_option maxRecDepth 100000 in
theorem wli_30 : ∀ w ∈ wsL_law_r30, w ∈ lw_tbl := mem_ps _ [587, 588, 589, 590, 591, 592, 593, 594, 596, 23, 597, 598, 600, 24, 601, 602, 603, 604, 605, 606, 607, 1172, 1173, 1174] (by decide +kernel)
set_option maxRecDepth 100000 in
theorem wli_31 : ∀ w ∈ wsL_law_r31, w ∈ lw_tbl := mem_ps _ [1175, 1176, 1178, 69, 1179, 1180, 1182, 70, 1183, 825, 608, 609, 610, 611, 1184, 1185, 1186, 1187, 1188, 1190, 71, 1191, 612, 613] (by decide +kernel)
set_option maxRecDepth 100000 in
theorem wli_32 : ∀ w ∈ wsL_law_r32, w ∈ lw_tbl := mem_ps _ [614, 615, 1192, 1193, 1194, 1195, 616, 617, 618, 619, 620, 622, 25, 623, 624, 625, 626, 627, 628, 629, 1196, 1197, 1198, 1199] (by decide +kernel)
set_option maxRecDepth 100000 in
theorem wli_33 : ∀ w ∈ wsL_law_r33, w ∈ lw_tbl := mem_ps _ [1200, 1201, 1202, 630, 631, 632, 633, 641, 634, 635, 636, 637, 638, 639, 640, 642, 643, 644, 645, 646, 647, 648, 649, 1203] (by decide +kernel)
set_option maxRecDepth 100000 in
theorem wli_34 : ∀ w ∈ wsL_law_r34, w ∈ lw_tbl := mem_ps _ [1204, 1205, 1206, 1207, 1208, 650, 651, 652, 653, 654, 655, 86, 656, 657, 658, 659, 660, 662, 26, 663, 664, 666, 27, 667] (by decide +kernel)
set_option maxRecDepth 100000 in
theorem wli_35 : ∀ w ∈ wsL_law_r35, w ∈ lw_tbl := mem_ps _ [668, 669, 671, 28, 672, 673, 675, 29, 676, 677, 678, 679, 680, 681, 682, 683, 687, 688, 689, 690, 691, 692, 684, 685] (by decide +kernel)
set_option maxRecDepth 100000 in
theorem wli_36 : ∀ w ∈ wsL_law_r36, w ∈ lw_tbl := mem_ps _ [686, 693, 694, 87, 695, 696, 697, 698, 699, 700, 701, 702, 1209, 1210, 1211, 1212, 1213, 1214, 1215, 1216, 1218, 72, 1219, 1220] (by decide +kernel)
set_option maxRecDepth 100000 in
theorem wli_37 : ∀ w ∈ wsL_law_r37, w ∈ lw_tbl := mem_ps _ [1221, 1222, 703, 704, 705, 706, 1223, 1224, 1225, 1226, 707, 708, 709, 710, 711, 713, 30, 714, 715, 1227, 1228, 1229, 1230, 1231] (by decide +kernel)
set_option maxRecDepth 100000 in
theorem wli_38 : ∀ w ∈ wsL_law_r38, w ∈ lw_tbl := mem_ps _ [716, 717, 718, 719, 720, 722, 31, 723, 1232, 1233, 1234, 1235, 1236, 724, 725, 726, 727, 728, 730, 32, 731, 732, 734, 33] (by decide +kernel)
set_option maxRecDepth 100000 in
theorem wli_39 : ∀ w ∈ wsL_law_r39, w ∈ lw_tbl := mem_ps _ [735, 736, 738, 34, 739, 740, 742, 35, 743, 1237, 1238, 1239, 1240, 857, 1241, 1243, 73, 1244, 1245, 1247, 74, 1248, 744, 745] (by decide +kernel)
set_option maxRecDepth 100000 in
theorem wli_40 : ∀ w ∈ wsL_law_r40, w ∈ lw_tbl := mem_ps _ [746, 747, 748, 750, 36, 751, 1249, 1250, 1251, 1252, 752, 753, 754, 755, 756, 757, 758, 759, 1253, 1254, 1255, 1256, 760, 761] (by decide +kernel)
set_option maxRecDepth 100000 in
theorem wli_41 : ∀ w ∈ wsL_law_r41, w ∈ lw_tbl := mem_ps _ [762, 763, 764, 766, 37, 767, 1257, 1258, 1259, 1260, 768, 769, 770, 771, 1261, 1262, 1263, 1264, 772, 773, 774, 775, 1265, 1266] (by decide +kernel)
set_option maxRecDepth 100000 in
theorem wli_42 : ∀ w ∈ wsL_law_r42, w ∈ lw_tbl := mem_ps _ [1267, 1268, 776, 777, 778, 779, 1269, 1270, 1271, 1272, 780, 781, 782, 783, 784, 786, 38, 787, 788, 789, 790, 791, 1273, 1274] (by decide +kernel)
set_option maxRecDepth 100000 in
theorem wli_43 : ∀ w ∈ wsL_law_r43, w ∈ lw_tbl := mem_ps _ [1275, 1276, 1277, 1279, 75, 1280, 792, 793, 794, 795, 1281, 1282, 1283, 1284, 796, 797, 798, 799, 1285, 1286, 1287, 1288, 800, 801] (by decide +kernel)
set_option maxRecDepth 100000 in
theorem wli_44 : ∀ w ∈ wsL_law_r44, w ∈ lw_tbl := mem_ps _ [802, 803, 804, 805, 806, 807, 809, 39, 810, 811, 812, 813, 814, 815, 1289, 1290, 1291, 1292, 1293, 858, 1294, 1296, 76, 1297] (by decide +kernel)
set_option maxRecDepth 100000 in
theorem wli_45 : ∀ w ∈ wsL_law_r45, w ∈ lw_tbl := mem_ps _ [1298] (by decide +kernel)
set_option maxRecDepth 100000 in
theorem inX0 : ∀ w ∈ wsX00, w ∈ lw_tbl := by decide +kernel
set_option maxRecDepth 100000 in
theorem inX1 : ∀ w ∈ wsX10, w ∈ lw_tbl := by decide +kernel
set_option maxRecDepth 100000 in
theorem inX2 : ∀ w ∈ wsX20, w ∈ lw_tbl := by decide +kernel
set_option maxRecDepth 100000 in
theorem inX3 : ∀ w ∈ wsX30, w ∈ lw_tbl := by decide +kernel
set_option maxRecDepth 100000 in
theorem inX4 : ∀ w ∈ wsX40, w ∈ lw_tbl := by decide +kernel
theorem wsL_law_in : ∀ w ∈ wsL_law, w ∈ lw_tbl := mem_ap (mem_ap (mem_ap (mem_ap (mem_ap (mem_ap (mem_ap wli_1 (mem_ap wli_2 (mem_ap wli_3 (mem_ap wli_4 (mem_ap wli_5 (mem_ap wli_6 (mem_ap wli_7 (mem_ap wli_8 (mem_ap wli_9 (mem_ap wli_10 (mem_ap wli_11 (mem_ap wli_12 (mem_ap wli_13 (mem_ap wli_14 (mem_ap wli_15 (mem_ap wli_16 (mem_ap wli_17 (mem_ap wli_18 (mem_ap wli_19 (mem_ap wli_20 (mem_ap wli_21 (mem_ap wli_22 (mem_ap wli_23 (mem_ap wli_24 (mem_ap wli_25 (mem_ap wli_26 (mem_ap wli_27 (mem_ap wli_28 (mem_ap wli_29 (mem_ap wli_30 (mem_ap wli_31 (mem_ap wli_32 (mem_ap wli_33 (mem_ap wli_34 (mem_ap wli_35 (mem_ap wli_36 (mem_ap wli_37 (mem_ap wli_38 (mem_ap wli_39 (mem_ap wli_40 (mem_ap wli_41 (mem_ap wli_42 (mem_ap wli_43 (mem_ap wli_44 (wli_45))))))))))))))))))))))))))))))))))))))))))))) inX3) inX4) inX1) inX2) inX0) (fun _ h => absurd h List.not_mem_nil)
