/-! THE LAW'S WORDS among the tables', by their places -/
theorem lw_pl {ws : List Cond} (ps : List Nat) (hp : ws = ps.filterMap (fun i => lw_tbl[i]?)) : ∀ w ∈ ws, w ∈ lw_tbl := by
  intro w hw
  rw [hp] at hw
  obtain ⟨i, -, hi⟩ := List.mem_filterMap.mp hw
  exact List.mem_of_getElem? hi
theorem lw_ap {a b : List Cond} (ha : ∀ w ∈ a, w ∈ lw_tbl) (hb : ∀ w ∈ b, w ∈ lw_tbl) : ∀ w ∈ a ++ b, w ∈ lw_tbl := fun w h => (List.mem_append.mp h).elim (ha w) (hb w)
set_option maxRecDepth 20000 in
theorem wsL_law_r1_in : ∀ w ∈ wsL_law_r1, w ∈ lw_tbl := lw_pl [61, 62, 45, 880, 881, 50, 63, 64, 65, 66, 67, 68, 69, 172, 71, 72, 46, 173, 98, 99, 47, 174, 113, 175] (by decide +kernel)
set_option maxRecDepth 20000 in
theorem wsL_law_r2_in : ∀ w ∈ wsL_law_r2, w ∈ lw_tbl := lw_pl [97, 176, 177, 178, 179, 180, 115, 48, 181, 182, 183, 153, 49, 74, 75, 76, 77, 79, 81, 82, 84, 101, 102, 103] (by decide +kernel)
set_option maxRecDepth 20000 in
theorem wsL_law_r3_in : ∀ w ∈ wsL_law_r3, w ∈ lw_tbl := lw_pl [104, 106, 116, 117, 118, 119, 127, 131, 134, 120, 137, 122, 124, 155, 156, 157, 158, 160, 162, 882, 883, 884, 885, 886] (by decide +kernel)
set_option maxRecDepth 20000 in
theorem wsL_law_r4_in : ∀ w ∈ wsL_law_r4, w ∈ lw_tbl := lw_pl [944, 888, 889, 890, 891, 892, 894, 901, 903, 209, 210, 211, 212, 217, 213, 215, 0, 216, 218, 220, 1, 221, 222, 223] (by decide +kernel)
set_option maxRecDepth 20000 in
theorem wsL_law_r5_in : ∀ w ∈ wsL_law_r5, w ∈ lw_tbl := lw_pl [224, 225, 226, 227, 228, 51, 229, 230, 232, 2, 233, 945, 946, 947, 948, 956, 957, 949, 950, 951, 952, 953, 954, 955] (by decide +kernel)
set_option maxRecDepth 20000 in
theorem wsL_law_r6_in : ∀ w ∈ wsL_law_r6, w ∈ lw_tbl := lw_pl [958, 960, 9, 961, 893, 962, 963, 965, 10, 966, 234, 235, 236, 237, 163, 238, 239, 240, 241, 242, 243, 244, 245, 246] (by decide +kernel)
set_option maxRecDepth 20000 in
theorem wsL_law_r7_in : ∀ w ∈ wsL_law_r7, w ∈ lw_tbl := lw_pl [247, 248, 249, 967, 968, 969, 970, 971, 973, 11, 974, 975, 976, 977, 250, 251, 252, 253, 159, 254, 256, 255, 52, 978] (by decide +kernel)
set_option maxRecDepth 20000 in
theorem wsL_law_r8_in : ∀ w ∈ wsL_law_r8, w ∈ lw_tbl := lw_pl [979, 980, 981, 257, 258, 259, 260, 161, 982, 983, 984, 985, 261, 262, 263, 264, 80, 265, 78, 986, 987, 988, 989, 990] (by decide +kernel)
set_option maxRecDepth 20000 in
theorem wsL_law_r9_in : ∀ w ∈ wsL_law_r9, w ∈ lw_tbl := lw_pl [895, 991, 266, 267, 268, 269, 83, 440, 85, 133, 270, 271, 272, 273, 274, 275, 276, 277, 302, 278, 279, 280, 281, 282] (by decide +kernel)
set_option maxRecDepth 20000 in
theorem wsL_law_r10_in : ∀ w ∈ wsL_law_r10, w ∈ lw_tbl := lw_pl [283, 284, 285, 286, 287, 288, 289, 290, 291, 292, 293, 294, 295, 296, 297, 298, 299, 300, 301, 303, 304, 305, 306, 307] (by decide +kernel)
set_option maxRecDepth 20000 in
theorem wsL_law_r11_in : ∀ w ∈ wsL_law_r11, w ∈ lw_tbl := lw_pl [128, 308, 309, 310, 311, 312, 313, 314, 315, 132, 316, 317, 318, 319, 320, 321, 322, 343, 347, 323, 324, 53, 325, 326] (by decide +kernel)
set_option maxRecDepth 20000 in
theorem wsL_law_r12_in : ∀ w ∈ wsL_law_r12, w ∈ lw_tbl := lw_pl [327, 55, 383, 384, 56, 397, 398, 57, 411, 412, 58, 425, 426, 54, 329, 330, 332, 333, 335, 336, 337, 338, 342, 346] (by decide +kernel)
set_option maxRecDepth 20000 in
theorem wsL_law_r13_in : ∀ w ∈ wsL_law_r13, w ∈ lw_tbl := lw_pl [350, 360, 362, 365, 386, 387, 400, 401, 414, 415, 436, 437, 438, 439, 339, 357, 992, 993, 994, 995, 899, 896, 1037, 898] (by decide +kernel)
set_option maxRecDepth 20000 in
theorem wsL_law_r14_in : ∀ w ∈ wsL_law_r14, w ∈ lw_tbl := lw_pl [887, 996, 998, 12, 999, 897, 1000, 1002, 13, 1003, 900, 1004, 1006, 14, 1007, 1008, 1010, 15, 1011, 1012, 1014, 16, 1015, 1016] (by decide +kernel)
set_option maxRecDepth 20000 in
theorem wsL_law_r15_in : ∀ w ∈ wsL_law_r15, w ∈ lw_tbl := lw_pl [1018, 17, 1019, 1020, 1021, 1022, 1024, 18, 1025, 1026, 1028, 19, 1029, 1030, 1031, 1032, 1033, 1035, 20, 1036, 441, 442, 443, 444] (by decide +kernel)
set_option maxRecDepth 20000 in
theorem wsL_law_r16_in : ∀ w ∈ wsL_law_r16, w ∈ lw_tbl := lw_pl [1038, 1039, 1040, 1041, 445, 446, 447, 448, 449, 450, 451, 452, 453, 454, 456, 457, 455, 462, 458, 459, 460, 461, 1042, 1043] (by decide +kernel)
set_option maxRecDepth 20000 in
theorem wsL_law_r17_in : ∀ w ∈ wsL_law_r17, w ∈ lw_tbl := lw_pl [1044, 1045, 1046, 463, 464, 465, 466, 361, 467, 469, 3, 470, 139, 471, 473, 4, 474, 475, 477, 5, 478, 1047, 1048, 1049] (by decide +kernel)
set_option maxRecDepth 20000 in
theorem wsL_law_r18_in : ∀ w ∈ wsL_law_r18, w ∈ lw_tbl := lw_pl [1050, 1055, 1051, 1053, 21, 1054, 1056, 1058, 22, 1059, 479, 480, 481, 482, 364, 1060, 1061, 1062, 1063, 483, 484, 485, 486, 345] (by decide +kernel)
set_option maxRecDepth 20000 in
theorem wsL_law_r19_in : ∀ w ∈ wsL_law_r19, w ∈ lw_tbl := lw_pl [349, 487, 488, 489, 490, 1064, 1065, 1066, 1067, 1068, 491, 492, 493, 494, 367, 495, 497, 498, 496, 503, 504, 506, 505, 507] (by decide +kernel)
set_option maxRecDepth 20000 in
theorem wsL_law_r20_in : ∀ w ∈ wsL_law_r20, w ∈ lw_tbl := lw_pl [508, 509, 355, 356, 518, 510, 511, 512, 351, 352, 513, 505, 514, 515, 516, 517, 353, 354, 519, 521, 522, 520, 529, 523] (by decide +kernel)
set_option maxRecDepth 20000 in
theorem wsL_law_r21_in : ∀ w ∈ wsL_law_r21, w ∈ lw_tbl := lw_pl [520, 524, 525, 526, 527, 528, 499, 500, 501, 502, 1069, 1070, 1071, 1072, 1073, 1075, 23, 1076, 530, 531, 532, 533, 126, 534] (by decide +kernel)
set_option maxRecDepth 20000 in
theorem wsL_law_r22_in : ∀ w ∈ wsL_law_r22, w ∈ lw_tbl := lw_pl [536, 6, 537, 130, 1077, 1078, 1079, 1080, 538, 539, 540, 541, 136, 542, 544, 7, 545, 1081, 1082, 1083, 1084, 1085, 1087, 24] (by decide +kernel)
set_option maxRecDepth 20000 in
theorem wsL_law_r23_in : ∀ w ∈ wsL_law_r23, w ∈ lw_tbl := lw_pl [1088, 546, 547, 548, 549, 359, 550, 551, 552, 553, 554, 555, 556, 557, 559, 560, 59, 561, 562, 563, 564, 558, 565, 566] (by decide +kernel)
set_option maxRecDepth 20000 in
theorem wsL_law_r24_in : ∀ w ∈ wsL_law_r24, w ∈ lw_tbl := lw_pl [567, 568, 569, 1089, 1090, 1091, 1092, 1093, 1095, 25, 1096, 1097, 1099, 26, 1100, 1101, 1103, 27, 1104, 1105, 1106, 1107, 1108, 1110] (by decide +kernel)
set_option maxRecDepth 20000 in
theorem wsL_law_r25_in : ∀ w ∈ wsL_law_r25, w ∈ lw_tbl := lw_pl [28, 1111, 570, 571, 572, 573, 574, 575, 576, 577, 578, 341, 1112, 1113, 1114, 1115, 1116, 1117, 579, 580, 581, 582, 583, 584] (by decide +kernel)
set_option maxRecDepth 20000 in
theorem wsL_law_r26_in : ∀ w ∈ wsL_law_r26, w ∈ lw_tbl := lw_pl [585, 586, 1118, 1119, 1120, 1121, 1122, 1124, 29, 1125, 587, 588, 589, 590, 591, 592, 593, 594, 595, 596, 597, 598, 599, 600] (by decide +kernel)
set_option maxRecDepth 20000 in
theorem wsL_law_r27_in : ∀ w ∈ wsL_law_r27, w ∈ lw_tbl := lw_pl [601, 1126, 1127, 1128, 1129, 1130, 1132, 30, 1133, 602, 603, 604, 605, 606, 607, 608, 609, 610, 611, 612, 613, 614, 1134, 1135] (by decide +kernel)
set_option maxRecDepth 20000 in
theorem wsL_law_r28_in : ∀ w ∈ wsL_law_r28, w ∈ lw_tbl := lw_pl [1136, 1137, 1138, 1140, 31, 1141, 615, 616, 617, 618, 619, 620, 60, 621, 363, 622, 623, 624, 625, 1142, 1143, 1144, 1145, 626] (by decide +kernel)
set_option maxRecDepth 20000 in
theorem wsL_law_r29_in : ∀ w ∈ wsL_law_r29, w ∈ lw_tbl := lw_pl [627, 628, 629, 630, 631, 632, 138, 344, 348, 340, 633, 634, 1146, 1147, 1148, 1149, 635, 636, 637, 638, 639, 640, 641, 366] (by decide +kernel)
set_option maxRecDepth 20000 in
theorem wsL_law_r30_in : ∀ w ∈ wsL_law_r30, w ∈ lw_tbl := lw_pl [642, 643, 644, 645, 646, 647, 648, 649, 650, 651, 652, 653, 654, 655, 656, 657, 658, 659, 660, 661, 1150, 1151, 1152, 1153] (by decide +kernel)
set_option maxRecDepth 20000 in
theorem wsL_law_r31_in : ∀ w ∈ wsL_law_r31, w ∈ lw_tbl := lw_pl [1154, 1155, 902, 1156, 1158, 32, 1159, 1160, 1161, 1162, 662, 663, 664, 665, 666, 667, 668, 135, 669, 670, 671, 672, 164, 673] (by decide +kernel)
set_option maxRecDepth 20000 in
theorem wsL_law_r32_in : ∀ w ∈ wsL_law_r32, w ∈ lw_tbl := lw_pl [1163, 1164, 1165, 1166, 1167, 1169, 33, 1170, 674, 675, 676, 677, 678, 679, 680, 358, 681, 1171, 1172, 1173, 1174, 1175, 1176, 682] (by decide +kernel)
set_option maxRecDepth 20000 in
theorem wsL_law_r33_in : ∀ w ∈ wsL_law_r33, w ∈ lw_tbl := lw_pl [683, 684, 685, 686, 687, 688, 1177, 1178, 1179, 1180, 689, 690, 691, 692, 693, 694, 695, 1181, 1182, 1183, 1184, 696, 697, 698] (by decide +kernel)
set_option maxRecDepth 20000 in
theorem wsL_law_r34_in : ∀ w ∈ wsL_law_r34, w ∈ lw_tbl := lw_pl [699, 700, 701, 702, 125, 1185, 1186, 1187, 1188, 703, 704, 705, 706, 707, 708, 709, 710, 711, 712, 713, 1189, 1190, 1191, 1192] (by decide +kernel)
set_option maxRecDepth 20000 in
theorem wsL_law_r35_in : ∀ w ∈ wsL_law_r35, w ∈ lw_tbl := lw_pl [714, 715, 716, 717, 718, 719, 720, 721, 722, 723, 724, 725, 726, 727, 728, 1193, 1194, 1195, 1196, 729, 730, 731, 732, 733] (by decide +kernel)
set_option maxRecDepth 20000 in
theorem wsL_law_r36_in : ∀ w ∈ wsL_law_r36, w ∈ lw_tbl := lw_pl [734, 735, 736, 737, 738, 739, 740, 741, 743, 129, 744, 745, 746, 747, 1197, 1198, 1199, 1200, 1201, 1202, 1203, 1204, 748, 749] (by decide +kernel)
set_option maxRecDepth 20000 in
theorem wsL_law_r37_in : ∀ w ∈ wsL_law_r37, w ∈ lw_tbl := lw_pl [750, 751, 752, 753, 754, 755, 756, 757, 758, 759, 761, 760, 762, 764, 765, 763, 770, 771, 773, 774, 775, 776, 777, 778] (by decide +kernel)
set_option maxRecDepth 20000 in
theorem wsL_law_r38_in : ∀ w ∈ wsL_law_r38, w ∈ lw_tbl := lw_pl [779, 780, 781, 782, 783, 784, 785, 786, 787, 788, 789, 766, 767, 768, 769, 1205, 1206, 1207, 1208, 790, 791, 792, 793, 1209] (by decide +kernel)
set_option maxRecDepth 20000 in
theorem wsL_law_r39_in : ∀ w ∈ wsL_law_r39, w ∈ lw_tbl := lw_pl [1210, 1211, 1212, 794, 795, 796, 797, 798, 1213, 1214, 1215, 1216, 799, 800, 801, 802, 1217, 1218, 1219, 1220, 1221, 1222, 1223, 803] (by decide +kernel)
set_option maxRecDepth 20000 in
theorem wsL_law_r40_in : ∀ w ∈ wsL_law_r40, w ∈ lw_tbl := lw_pl [804, 805, 806, 107, 807, 809, 808, 810, 811, 812, 813, 814, 815, 816, 817, 435, 808, 858, 836, 818, 821, 819, 822, 823] (by decide +kernel)
set_option maxRecDepth 20000 in
theorem wsL_law_r41_in : ∀ w ∈ wsL_law_r41, w ∈ lw_tbl := lw_pl [824, 825, 826, 396, 819, 832, 833, 1280, 834, 835, 837, 838, 840, 841, 842, 827, 828, 829, 830, 831, 382, 818, 820, 843] (by decide +kernel)
set_option maxRecDepth 20000 in
theorem wsL_law_r42_in : ∀ w ∈ wsL_law_r42, w ∈ lw_tbl := lw_pl [844, 845, 846, 1281, 847, 848, 849, 850, 851, 410, 852, 853, 854, 855, 856, 857, 1282, 424, 859, 834, 1283, 1284, 1285, 860] (by decide +kernel)
set_option maxRecDepth 20000 in
theorem wsL_law_r43_in : ∀ w ∈ wsL_law_r43, w ∈ lw_tbl := lw_pl [861, 862, 863, 1286, 863, 848, 1287, 1288, 1289, 1224, 1225, 1226, 1227, 904, 1228, 1230, 34, 1231, 1232, 1234, 35, 1235, 1236, 1238] (by decide +kernel)
set_option maxRecDepth 20000 in
theorem wsL_law_r44_in : ∀ w ∈ wsL_law_r44, w ∈ lw_tbl := lw_pl [36, 1239, 1240, 1242, 37, 1243, 1244, 1246, 38, 1247, 1248, 1250, 39, 1251, 1252, 1254, 40, 1255, 1256, 1258, 41, 1259, 1260, 1262] (by decide +kernel)
set_option maxRecDepth 20000 in
theorem wsL_law_r45_in : ∀ w ∈ wsL_law_r45, w ∈ lw_tbl := lw_pl [42, 1263, 864, 865, 866, 867, 105, 1264, 1265, 1266, 1267, 868, 869, 870, 871, 123, 872, 874, 8, 875, 1268, 1269, 1270, 1271] (by decide +kernel)
set_option maxRecDepth 20000 in
theorem wsL_law_r46_in : ∀ w ∈ wsL_law_r46, w ∈ lw_tbl := lw_pl [1272, 1274, 43, 1275, 876, 877, 878, 879, 1276, 1277, 1278, 1279] (by decide +kernel)
set_option maxRecDepth 20000 in
theorem wsX110_in : ∀ w ∈ wsX110, w ∈ lw_tbl := by decide +kernel
set_option maxRecDepth 20000 in
theorem wsX120_in : ∀ w ∈ wsX120, w ∈ lw_tbl := by decide +kernel
set_option maxRecDepth 20000 in
theorem wsX80_in : ∀ w ∈ wsX80, w ∈ lw_tbl := by decide +kernel
set_option maxRecDepth 20000 in
theorem wsX90_in : ∀ w ∈ wsX90, w ∈ lw_tbl := by decide +kernel
set_option maxRecDepth 20000 in
theorem wsX30_in : ∀ w ∈ wsX30, w ∈ lw_tbl := by decide +kernel
set_option maxRecDepth 20000 in
theorem wsX50_in : ∀ w ∈ wsX50, w ∈ lw_tbl := by decide +kernel
set_option maxRecDepth 20000 in
theorem wsX00_in : ∀ w ∈ wsX00, w ∈ lw_tbl := by decide +kernel
set_option maxRecDepth 20000 in
theorem wsX20_in : ∀ w ∈ wsX20, w ∈ lw_tbl := by decide +kernel
set_option maxRecDepth 20000 in
theorem wsX40_in : ∀ w ∈ wsX40, w ∈ lw_tbl := by decide +kernel
set_option maxRecDepth 20000 in
theorem wsX70_in : ∀ w ∈ wsX70, w ∈ lw_tbl := by decide +kernel
set_option maxRecDepth 20000 in
theorem wsX100_in : ∀ w ∈ wsX100, w ∈ lw_tbl := by decide +kernel
theorem wsL_law_in : ∀ w ∈ wsL_law, w ∈ lw_tbl := lw_ap (lw_ap (lw_ap (lw_ap (lw_ap (lw_ap (lw_ap (lw_ap (lw_ap (lw_ap (lw_ap (lw_ap (lw_ap wsL_law_r1_in (lw_ap wsL_law_r2_in (lw_ap wsL_law_r3_in (lw_ap wsL_law_r4_in (lw_ap wsL_law_r5_in (lw_ap wsL_law_r6_in (lw_ap wsL_law_r7_in (lw_ap wsL_law_r8_in (lw_ap wsL_law_r9_in (lw_ap wsL_law_r10_in (lw_ap wsL_law_r11_in (lw_ap wsL_law_r12_in (lw_ap wsL_law_r13_in (lw_ap wsL_law_r14_in (lw_ap wsL_law_r15_in (lw_ap wsL_law_r16_in (lw_ap wsL_law_r17_in (lw_ap wsL_law_r18_in (lw_ap wsL_law_r19_in (lw_ap wsL_law_r20_in (lw_ap wsL_law_r21_in (lw_ap wsL_law_r22_in (lw_ap wsL_law_r23_in (lw_ap wsL_law_r24_in (lw_ap wsL_law_r25_in (lw_ap wsL_law_r26_in (lw_ap wsL_law_r27_in (lw_ap wsL_law_r28_in (lw_ap wsL_law_r29_in (lw_ap wsL_law_r30_in (lw_ap wsL_law_r31_in (lw_ap wsL_law_r32_in (lw_ap wsL_law_r33_in (lw_ap wsL_law_r34_in (lw_ap wsL_law_r35_in (lw_ap wsL_law_r36_in (lw_ap wsL_law_r37_in (lw_ap wsL_law_r38_in (lw_ap wsL_law_r39_in (lw_ap wsL_law_r40_in (lw_ap wsL_law_r41_in (lw_ap wsL_law_r42_in (lw_ap wsL_law_r43_in (lw_ap wsL_law_r44_in (lw_ap wsL_law_r45_in wsL_law_r46_in))))))))))))))))))))))))))))))))))))))))))))) wsX110_in) wsX120_in) wsX80_in) wsX90_in) wsX30_in) wsX50_in) wsX00_in) wsX20_in) wsX40_in) wsX70_in) wsX100_in) (fun w h => absurd h List.not_mem_nil)
