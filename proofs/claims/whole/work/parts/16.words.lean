theorem inP {ws : List Cond} (ps : List Nat) (h : ws = ps.filterMap (fun i => lw_tbl[i]?)) : ∀ w ∈ ws, w ∈ lw_tbl := by
  intro w hw
  rw [h] at hw
  obtain ⟨i, -, hi⟩ := List.mem_filterMap.mp hw
  exact List.mem_of_getElem? hi
set_option maxRecDepth 100000 in
theorem in_wsL_law0_r1 : ∀ w ∈ wsL_law0_r1, w ∈ lw_tbl := inP [94, 95, 70, 916, 917, 78, 127, 96, 97, 98, 99, 100, 101, 102, 103, 71, 254, 255, 178, 179, 74, 256, 195, 196] (by decide +kernel)
set_option maxRecDepth 100000 in
theorem in_wsL_law0_r2 : ∀ w ∈ wsL_law0_r2, w ∈ lw_tbl := inP [75, 257, 213, 214, 76, 258, 238, 239, 77, 259, 105, 106, 107, 108, 109, 72, 169, 128, 129, 73, 171, 111, 112, 113] (by decide +kernel)
set_option maxRecDepth 100000 in
theorem in_wsL_law0_r3 : ∀ w ∈ wsL_law0_r3, w ∈ lw_tbl := inP [114, 115, 117, 131, 132, 133, 168, 134, 136, 137, 139, 140, 142, 144, 146, 147, 180, 181, 182, 183, 184, 187, 188, 198] (by decide +kernel)
set_option maxRecDepth 100000 in
theorem in_wsL_law0_r4 : ∀ w ∈ wsL_law0_r4, w ∈ lw_tbl := inP [199, 200, 201, 204, 216, 217, 218, 219, 220, 221, 222, 223, 224, 241, 242, 243, 244, 245, 246, 918, 919, 920, 921, 923] (by decide +kernel)
set_option maxRecDepth 100000 in
theorem in_wsL_law0_r5 : ∀ w ∈ wsL_law0_r5, w ∈ lw_tbl := inP [925, 927, 929, 930, 933, 934, 711, 712, 69, 713, 714, 715, 716, 717, 718, 719, 498, 82, 724, 83, 172, 141, 143, 720] (by decide +kernel)
set_option maxRecDepth 100000 in
theorem in_wsL_law0_r6 : ∀ w ∈ wsL_law0_r6, w ∈ lw_tbl := inP [721, 722, 277, 278, 279, 280, 281, 283, 0, 284, 285, 287, 1, 288, 289, 290, 291, 292, 293, 294, 295, 296, 297, 298] (by decide +kernel)
set_option maxRecDepth 100000 in
theorem in_wsL_law0_r7 : ∀ w ∈ wsL_law0_r7, w ∈ lw_tbl := inP [84, 299, 300, 301, 85, 302, 303, 305, 304, 86, 306, 307, 308, 309, 310, 311, 312, 313, 740, 741, 742, 743, 744, 745] (by decide +kernel)
set_option maxRecDepth 100000 in
theorem in_wsL_law0_r8 : ∀ w ∈ wsL_law0_r8, w ∈ lw_tbl := inP [746, 747, 326, 327, 328, 748, 749, 750, 751, 752, 753, 754, 755, 756, 453, 454, 455, 456, 457, 458, 87, 459, 460, 334] (by decide +kernel)
set_option maxRecDepth 100000 in
theorem in_wsL_law0_r9 : ∀ w ∈ wsL_law0_r9, w ∈ lw_tbl := inP [335, 461, 385, 386, 462, 463, 464, 465, 466, 467, 468, 404, 405, 406, 757, 401, 402, 403, 758, 759, 760, 761, 422, 423] (by decide +kernel)
set_option maxRecDepth 100000 in
theorem in_wsL_law0_r10 : ∀ w ∈ wsL_law0_r10, w ∈ lw_tbl := inP [424, 762, 426, 427, 428, 429, 430, 763, 319, 320, 321, 322, 323, 324, 325, 329, 330, 331, 332, 333, 973, 974, 975, 976] (by decide +kernel)
set_option maxRecDepth 100000 in
theorem in_wsL_law0_r11 : ∀ w ∈ wsL_law0_r11, w ∈ lw_tbl := inP [922, 977, 978, 979, 980, 981, 982, 983, 985, 21, 986, 924, 987, 989, 22, 990, 991, 993, 23, 994, 928, 995, 997, 24] (by decide +kernel)
set_option maxRecDepth 100000 in
theorem in_wsL_law0_r12 : ∀ w ∈ wsL_law0_r12, w ∈ lw_tbl := inP [998, 999, 1000, 1001, 1002, 1004, 25, 1005, 1006, 1007, 1008, 1009, 1011, 26, 1012, 1013, 1014, 1015, 1016, 1018, 27, 1019, 1020, 1022] (by decide +kernel)
set_option maxRecDepth 100000 in
theorem in_wsL_law0_r13 : ∀ w ∈ wsL_law0_r13, w ∈ lw_tbl := inP [28, 1023, 965, 966, 967, 968, 764, 765, 766, 767, 768, 769, 770, 135, 630, 772, 773, 774, 775, 776, 1024, 1025, 1026, 1027] (by decide +kernel)
set_option maxRecDepth 100000 in
theorem in_wsL_law0_r14 : ∀ w ∈ wsL_law0_r14, w ∈ lw_tbl := inP [273, 274, 275, 276, 314, 315, 316, 317, 318, 1028, 1029, 1030, 1031, 777, 778, 779, 780, 781, 782, 783, 148, 1032, 1033, 1034] (by decide +kernel)
set_option maxRecDepth 100000 in
theorem in_wsL_law0_r15 : ∀ w ∈ wsL_law0_r15, w ∈ lw_tbl := inP [1035, 785, 786, 787, 788, 789, 790, 791, 792, 613, 88, 170, 668, 670, 19, 671, 119, 793, 794, 795, 796, 579, 797, 600] (by decide +kernel)
set_option maxRecDepth 100000 in
theorem in_wsL_law0_r16 : ∀ w ∈ wsL_law0_r16, w ∈ lw_tbl := inP [1036, 1037, 1038, 1039, 1040, 1042, 29, 1043, 1044, 1046, 30, 1047, 798, 799, 800, 801, 802, 803, 804, 116, 675, 805, 567, 568] (by decide +kernel)
set_option maxRecDepth 100000 in
theorem in_wsL_law0_r17 : ∀ w ∈ wsL_law0_r17, w ∈ lw_tbl := inP [569, 570, 1048, 1049, 1050, 1051, 1052, 1054, 31, 1055, 1056, 1058, 32, 1059, 806, 807, 808, 809, 810, 811, 812, 641, 643, 17] (by decide +kernel)
set_option maxRecDepth 100000 in
theorem in_wsL_law0_r18 : ∀ w ∈ wsL_law0_r18, w ∈ lw_tbl := inP [644, 647, 814, 815, 816, 817, 818, 820, 821, 822, 823, 477, 478, 479, 480, 481, 482, 483, 89, 484, 485, 486, 487, 488] (by decide +kernel)
set_option maxRecDepth 100000 in
theorem in_wsL_law0_r19 : ∀ w ∈ wsL_law0_r19, w ∈ lw_tbl := inP [412, 90, 413, 414, 415, 416, 824, 653, 654, 655, 656, 657, 91, 658, 371, 372, 373, 659, 825, 826, 827, 828, 362, 363] (by decide +kernel)
set_option maxRecDepth 100000 in
theorem in_wsL_law0_r20 : ∀ w ∈ wsL_law0_r20, w ∈ lw_tbl := inP [829, 830, 831, 832, 1060, 1061, 1062, 1063, 1064, 1066, 33, 1067, 1068, 1070, 34, 1071, 1072, 1074, 35, 1075, 1076, 1078, 36, 1079] (by decide +kernel)
set_option maxRecDepth 100000 in
theorem in_wsL_law0_r21 : ∀ w ∈ wsL_law0_r21, w ∈ lw_tbl := inP [1080, 1082, 37, 1083, 1084, 1086, 38, 1087, 833, 834, 835, 836, 837, 838, 839, 207, 842, 843, 844, 845, 846, 1088, 1089, 1090] (by decide +kernel)
set_option maxRecDepth 100000 in
theorem in_wsL_law0_r22 : ∀ w ∈ wsL_law0_r22, w ∈ lw_tbl := inP [1091, 926, 336, 337, 338, 339, 1092, 1093, 1094, 1095, 340, 341, 342, 343, 344, 345, 346, 347, 206, 202, 348, 350, 2, 351] (by decide +kernel)
set_option maxRecDepth 100000 in
theorem in_wsL_law0_r23 : ∀ w ∈ wsL_law0_r23, w ∈ lw_tbl := inP [352, 353, 355, 3, 356, 357, 359, 4, 360, 361, 364, 366, 5, 367, 368, 369, 370, 376, 378, 6, 379, 380, 382, 7] (by decide +kernel)
set_option maxRecDepth 100000 in
theorem in_wsL_law0_r24 : ∀ w ∈ wsL_law0_r24, w ∈ lw_tbl := inP [383, 384, 1096, 1097, 1098, 1099, 1100, 1102, 39, 1103, 932, 931, 1104, 1106, 40, 1107, 1108, 1110, 41, 1111, 1112, 1114, 42, 1115] (by decide +kernel)
set_option maxRecDepth 100000 in
theorem in_wsL_law0_r25 : ∀ w ∈ wsL_law0_r25, w ∈ lw_tbl := inP [1116, 1117, 1118, 847, 848, 849, 850, 851, 852, 853, 854, 855, 856, 857, 858, 860, 861, 862, 863, 864, 865, 866, 868, 1119] (by decide +kernel)
set_option maxRecDepth 100000 in
theorem in_wsL_law0_r26 : ∀ w ∈ wsL_law0_r26, w ∈ lw_tbl := inP [1120, 1121, 1122, 1123, 1125, 43, 1126, 1127, 1129, 44, 1130, 1131, 1133, 45, 1134, 1135, 1137, 46, 1138, 869, 870, 871, 872, 873] (by decide +kernel)
set_option maxRecDepth 100000 in
theorem in_wsL_law0_r27 : ∀ w ∈ wsL_law0_r27, w ∈ lw_tbl := inP [874, 875, 189, 877, 878, 879, 880, 969, 970, 971, 972, 881, 882, 883, 884, 610, 611, 612, 631, 632, 633, 634, 635, 1139] (by decide +kernel)
set_option maxRecDepth 100000 in
theorem in_wsL_law0_r28 : ∀ w ∈ wsL_law0_r28, w ∈ lw_tbl := inP [1140, 1141, 1142, 1143, 1145, 47, 1146, 1147, 1148, 1149, 1150, 1152, 48, 1153, 885, 886, 887, 888, 638, 639, 640, 138, 145, 636] (by decide +kernel)
set_option maxRecDepth 100000 in
theorem in_wsL_law0_r29 : ∀ w ∈ wsL_law0_r29, w ∈ lw_tbl := inP [648, 649, 650, 651, 652, 1154, 1155, 1156, 1157, 1158, 1160, 49, 1161, 889, 890, 891, 892, 665, 666, 667, 674, 676, 677, 678] (by decide +kernel)
set_option maxRecDepth 100000 in
theorem in_wsL_law0_r30 : ∀ w ∈ wsL_law0_r30, w ∈ lw_tbl := inP [679, 680, 681, 682, 576, 577, 578, 580, 582, 12, 583, 584, 585, 587, 13, 588, 589, 590, 591, 592, 594, 14, 595, 596] (by decide +kernel)
set_option maxRecDepth 100000 in
theorem in_wsL_law0_r31 : ∀ w ∈ wsL_law0_r31, w ∈ lw_tbl := inP [598, 15, 599, 683, 1162, 1163, 1164, 1165, 1166, 1168, 50, 1169, 1170, 1172, 51, 1173, 1174, 1176, 52, 1177, 893, 894, 895, 896] (by decide +kernel)
set_option maxRecDepth 100000 in
theorem in_wsL_law0_r32 : ∀ w ∈ wsL_law0_r32, w ∈ lw_tbl := inP [495, 496, 497, 566, 473, 474, 475, 476, 571, 572, 573, 574, 575, 1178, 1179, 1180, 1181, 1182, 1184, 53, 1185, 1186, 1188, 54] (by decide +kernel)
set_option maxRecDepth 100000 in
theorem in_wsL_law0_r33 : ∀ w ∈ wsL_law0_r33, w ∈ lw_tbl := inP [1189, 1190, 1192, 55, 1193, 897, 898, 899, 900, 901, 902, 903, 1194, 1195, 1196, 1197, 1198, 1200, 56, 1201, 905, 906, 907, 908] (by decide +kernel)
set_option maxRecDepth 100000 in
theorem in_wsL_law0_r34 : ∀ w ∈ wsL_law0_r34, w ∈ lw_tbl := inP [909, 910, 911, 1202, 1203, 1204, 1205, 387, 388, 389, 390, 391, 392, 393, 394, 205, 118, 395, 396, 398, 8, 399, 400, 407] (by decide +kernel)
set_option maxRecDepth 100000 in
theorem in_wsL_law0_r35 : ∀ w ∈ wsL_law0_r35, w ∈ lw_tbl := inP [408, 409, 410, 411, 417, 418, 419, 420, 421, 425, 1206, 1207, 1208, 1209, 1210, 1212, 57, 1213, 1214, 1216, 58, 1217, 1218, 1220] (by decide +kernel)
set_option maxRecDepth 100000 in
theorem in_wsL_law0_r36 : ∀ w ∈ wsL_law0_r36, w ∈ lw_tbl := inP [59, 1221, 431, 432, 433, 434, 435, 436, 437, 438, 439, 441, 9, 442, 443, 445, 10, 446, 447, 448, 449, 450, 451, 452] (by decide +kernel)
set_option maxRecDepth 100000 in
theorem in_wsL_law0_r37 : ∀ w ∈ wsL_law0_r37, w ∈ lw_tbl := inP [1222, 1223, 1224, 1225, 1226, 1228, 60, 1229, 1230, 1232, 61, 1233, 1234, 1236, 62, 1237, 912, 913, 914, 915, 685, 686, 687, 688] (by decide +kernel)
set_option maxRecDepth 100000 in
theorem in_wsL_law0_r38 : ∀ w ∈ wsL_law0_r38, w ∈ lw_tbl := inP [689, 690, 691, 692, 694, 20, 695, 696, 697, 92, 698, 699, 700, 701, 1238, 1239, 1240, 1241, 1242, 1244, 63, 1245, 1246, 1248] (by decide +kernel)
set_option maxRecDepth 100000 in
theorem in_wsL_law0_r39 : ∀ w ∈ wsL_law0_r39, w ∈ lw_tbl := inP [64, 1249, 469, 470, 471, 472, 1250, 1251, 1252, 1253, 1254, 1256, 65, 1257, 489, 490, 491, 492, 493, 203, 494, 601, 602, 603] (by decide +kernel)
set_option maxRecDepth 100000 in
theorem in_wsL_law0_r40 : ∀ w ∈ wsL_law0_r40, w ∈ lw_tbl := inP [604, 605, 607, 16, 608, 609, 637, 660, 662, 18, 663, 664, 684, 702, 703, 704, 705, 706, 707, 708, 709, 710, 1258, 1259] (by decide +kernel)
set_option maxRecDepth 100000 in
theorem in_wsL_law0_r41 : ∀ w ∈ wsL_law0_r41, w ∈ lw_tbl := inP [1260, 1261, 1262, 935, 1263, 1265, 66, 1266, 1267, 1268, 1270, 67, 1271, 1272, 1274, 68, 1275, 1276, 1277, 93, 1278, 1282, 1284, 1283] (by decide +kernel)
set_option maxRecDepth 100000 in
theorem in_wsL_law0_r42 : ∀ w ∈ wsL_law0_r42, w ∈ lw_tbl := inP [93, 1285, 1279, 1280, 1281] (by decide +kernel)
set_option maxRecDepth 100000 in
theorem in_wsX110 : ∀ w ∈ wsX110, w ∈ lw_tbl := by decide +kernel
set_option maxRecDepth 100000 in
theorem in_wsX120 : ∀ w ∈ wsX120, w ∈ lw_tbl := by decide +kernel
set_option maxRecDepth 100000 in
theorem in_wsX80 : ∀ w ∈ wsX80, w ∈ lw_tbl := by decide +kernel
set_option maxRecDepth 100000 in
theorem in_wsX20 : ∀ w ∈ wsX20, w ∈ lw_tbl := by decide +kernel
set_option maxRecDepth 100000 in
theorem in_wsX00 : ∀ w ∈ wsX00, w ∈ lw_tbl := by decide +kernel
set_option maxRecDepth 100000 in
theorem in_wsX40 : ∀ w ∈ wsX40, w ∈ lw_tbl := by decide +kernel
set_option maxRecDepth 100000 in
theorem in_wsX100 : ∀ w ∈ wsX100, w ∈ lw_tbl := by decide +kernel
set_option maxRecDepth 100000 in
theorem in_wsX10 : ∀ w ∈ wsX10, w ∈ lw_tbl := by decide +kernel
set_option maxRecDepth 100000 in
theorem in_wsX70 : ∀ w ∈ wsX70, w ∈ lw_tbl := by decide +kernel
set_option maxRecDepth 100000 in
theorem wsL_law_in0 : ∀ w ∈ wsL_law0, w ∈ lw_tbl := List.forall_mem_append.mpr ⟨(List.forall_mem_append.mpr ⟨(List.forall_mem_append.mpr ⟨(List.forall_mem_append.mpr ⟨(List.forall_mem_append.mpr ⟨(List.forall_mem_append.mpr ⟨(List.forall_mem_append.mpr ⟨(List.forall_mem_append.mpr ⟨(List.forall_mem_append.mpr ⟨(List.forall_mem_append.mpr ⟨(List.forall_mem_append.mpr ⟨in_wsL_law0_r1, List.forall_mem_append.mpr ⟨in_wsL_law0_r2, List.forall_mem_append.mpr ⟨in_wsL_law0_r3, List.forall_mem_append.mpr ⟨in_wsL_law0_r4, List.forall_mem_append.mpr ⟨in_wsL_law0_r5, List.forall_mem_append.mpr ⟨in_wsL_law0_r6, List.forall_mem_append.mpr ⟨in_wsL_law0_r7, List.forall_mem_append.mpr ⟨in_wsL_law0_r8, List.forall_mem_append.mpr ⟨in_wsL_law0_r9, List.forall_mem_append.mpr ⟨in_wsL_law0_r10, List.forall_mem_append.mpr ⟨in_wsL_law0_r11, List.forall_mem_append.mpr ⟨in_wsL_law0_r12, List.forall_mem_append.mpr ⟨in_wsL_law0_r13, List.forall_mem_append.mpr ⟨in_wsL_law0_r14, List.forall_mem_append.mpr ⟨in_wsL_law0_r15, List.forall_mem_append.mpr ⟨in_wsL_law0_r16, List.forall_mem_append.mpr ⟨in_wsL_law0_r17, List.forall_mem_append.mpr ⟨in_wsL_law0_r18, List.forall_mem_append.mpr ⟨in_wsL_law0_r19, List.forall_mem_append.mpr ⟨in_wsL_law0_r20, List.forall_mem_append.mpr ⟨in_wsL_law0_r21, List.forall_mem_append.mpr ⟨in_wsL_law0_r22, List.forall_mem_append.mpr ⟨in_wsL_law0_r23, List.forall_mem_append.mpr ⟨in_wsL_law0_r24, List.forall_mem_append.mpr ⟨in_wsL_law0_r25, List.forall_mem_append.mpr ⟨in_wsL_law0_r26, List.forall_mem_append.mpr ⟨in_wsL_law0_r27, List.forall_mem_append.mpr ⟨in_wsL_law0_r28, List.forall_mem_append.mpr ⟨in_wsL_law0_r29, List.forall_mem_append.mpr ⟨in_wsL_law0_r30, List.forall_mem_append.mpr ⟨in_wsL_law0_r31, List.forall_mem_append.mpr ⟨in_wsL_law0_r32, List.forall_mem_append.mpr ⟨in_wsL_law0_r33, List.forall_mem_append.mpr ⟨in_wsL_law0_r34, List.forall_mem_append.mpr ⟨in_wsL_law0_r35, List.forall_mem_append.mpr ⟨in_wsL_law0_r36, List.forall_mem_append.mpr ⟨in_wsL_law0_r37, List.forall_mem_append.mpr ⟨in_wsL_law0_r38, List.forall_mem_append.mpr ⟨in_wsL_law0_r39, List.forall_mem_append.mpr ⟨in_wsL_law0_r40, List.forall_mem_append.mpr ⟨in_wsL_law0_r41, in_wsL_law0_r42⟩⟩⟩⟩⟩⟩⟩⟩⟩⟩⟩⟩⟩⟩⟩⟩⟩⟩⟩⟩⟩⟩⟩⟩⟩⟩⟩⟩⟩⟩⟩⟩⟩⟩⟩⟩⟩⟩⟩⟩⟩), in_wsX110⟩), in_wsX120⟩), in_wsX80⟩), in_wsX20⟩), in_wsX00⟩), in_wsX40⟩), in_wsX100⟩), in_wsX10⟩), in_wsX70⟩), fun _ h => absurd h List.not_mem_nil⟩
theorem wsL_law_x0 : ∀ w ∈ (vx_atS RX11 55 "java/lang/IllegalArgumentException" ["java/lang/RuntimeException", "java/lang/Exception"]).filter goodWord, w ∈ lw_tbl := by decide +kernel
theorem wsL_law_x1 : ∀ w ∈ (vx_atS RX11 72 "java/lang/IllegalStateException" ["java/lang/RuntimeException", "java/lang/Exception"]).filter goodWord, w ∈ lw_tbl := by decide +kernel
theorem wsL_law_x2 : ∀ w ∈ (vx_atS RX11 121 "java/lang/IndexOutOfBoundsException" ["java/lang/RuntimeException", "java/lang/Exception"]).filter goodWord, w ∈ lw_tbl := by decide +kernel
theorem wsL_law_in : ∀ w ∈ wsL_law, w ∈ lw_tbl := fun w h => (List.mem_append.mp h).elim (fun h => (List.mem_append.mp h).elim (fun h => (List.mem_append.mp h).elim (fun h => wsL_law_in0 w h) (fun h => wsL_law_x0 w h)) (fun h => wsL_law_x1 w h)) (fun h => wsL_law_x2 w h)
theorem inlX0 : ∀ w ∈ wsX00, w ∈ wsL_law := fun _ h => List.mem_append_left _ (List.mem_append_left _ (List.mem_append_left _ (List.mem_append_left _ (List.mem_append_left _ (List.mem_append_left _ (List.mem_append_left _ (List.mem_append_left _ (List.mem_append_right _ h))))))))
theorem inX0 : ∀ w ∈ wsX00, w ∈ lw_tbl := fun w h => wsL_law_in w (inlX0 w h)
theorem inlX1 : ∀ w ∈ wsX10, w ∈ wsL_law := fun _ h => List.mem_append_left _ (List.mem_append_left _ (List.mem_append_left _ (List.mem_append_left _ (List.mem_append_left _ (List.mem_append_right _ h)))))
theorem inX1 : ∀ w ∈ wsX10, w ∈ lw_tbl := fun w h => wsL_law_in w (inlX1 w h)
theorem inlX2 : ∀ w ∈ wsX20, w ∈ wsL_law := fun _ h => List.mem_append_left _ (List.mem_append_left _ (List.mem_append_left _ (List.mem_append_left _ (List.mem_append_left _ (List.mem_append_left _ (List.mem_append_left _ (List.mem_append_left _ (List.mem_append_left _ (List.mem_append_right _ h)))))))))
theorem inX2 : ∀ w ∈ wsX20, w ∈ lw_tbl := fun w h => wsL_law_in w (inlX2 w h)
theorem inX3 : ∀ w ∈ wsX30, w ∈ lw_tbl := by decide +kernel
theorem inlX4 : ∀ w ∈ wsX40, w ∈ wsL_law := fun _ h => List.mem_append_left _ (List.mem_append_left _ (List.mem_append_left _ (List.mem_append_left _ (List.mem_append_left _ (List.mem_append_left _ (List.mem_append_left _ (List.mem_append_right _ h)))))))
theorem inX4 : ∀ w ∈ wsX40, w ∈ lw_tbl := fun w h => wsL_law_in w (inlX4 w h)
theorem inX5 : ∀ w ∈ wsX50, w ∈ lw_tbl := by decide +kernel
theorem inX6 : ∀ w ∈ wsX60, w ∈ lw_tbl := by decide +kernel
theorem inlX7 : ∀ w ∈ wsX70, w ∈ wsL_law := fun _ h => List.mem_append_left _ (List.mem_append_left _ (List.mem_append_left _ (List.mem_append_left _ (List.mem_append_right _ h))))
theorem inX7 : ∀ w ∈ wsX70, w ∈ lw_tbl := fun w h => wsL_law_in w (inlX7 w h)
theorem inlX8 : ∀ w ∈ wsX80, w ∈ wsL_law := fun _ h => List.mem_append_left _ (List.mem_append_left _ (List.mem_append_left _ (List.mem_append_left _ (List.mem_append_left _ (List.mem_append_left _ (List.mem_append_left _ (List.mem_append_left _ (List.mem_append_left _ (List.mem_append_left _ (List.mem_append_right _ h))))))))))
theorem inX8 : ∀ w ∈ wsX80, w ∈ lw_tbl := fun w h => wsL_law_in w (inlX8 w h)
theorem inX9 : ∀ w ∈ wsX90, w ∈ lw_tbl := by decide +kernel
theorem inlX10 : ∀ w ∈ wsX100, w ∈ wsL_law := fun _ h => List.mem_append_left _ (List.mem_append_left _ (List.mem_append_left _ (List.mem_append_left _ (List.mem_append_left _ (List.mem_append_left _ (List.mem_append_right _ h))))))
theorem inX10 : ∀ w ∈ wsX100, w ∈ lw_tbl := fun w h => wsL_law_in w (inlX10 w h)
theorem inlX11 : ∀ w ∈ wsX110, w ∈ wsL_law := fun _ h => List.mem_append_left _ (List.mem_append_left _ (List.mem_append_left _ (List.mem_append_left _ (List.mem_append_left _ (List.mem_append_left _ (List.mem_append_left _ (List.mem_append_left _ (List.mem_append_left _ (List.mem_append_left _ (List.mem_append_left _ (List.mem_append_left _ (List.mem_append_right _ h))))))))))))
theorem inX11 : ∀ w ∈ wsX110, w ∈ lw_tbl := fun w h => wsL_law_in w (inlX11 w h)
theorem inlX12 : ∀ w ∈ wsX120, w ∈ wsL_law := fun _ h => List.mem_append_left _ (List.mem_append_left _ (List.mem_append_left _ (List.mem_append_left _ (List.mem_append_left _ (List.mem_append_left _ (List.mem_append_left _ (List.mem_append_left _ (List.mem_append_left _ (List.mem_append_left _ (List.mem_append_left _ (List.mem_append_right _ h)))))))))))
theorem inX12 : ∀ w ∈ wsX120, w ∈ lw_tbl := fun w h => wsL_law_in w (inlX12 w h)
theorem inJxe99ae : ∀ w ∈ wsJxe99ae0, w ∈ lw_tbl := by decide +kernel
theorem inJ6 : ∀ w ∈ wsJ60, w ∈ lw_tbl := by decide +kernel
theorem inJ13 : ∀ w ∈ wsJ130, w ∈ lw_tbl := by decide +kernel
theorem inJ9 : ∀ w ∈ wsJ90, w ∈ lw_tbl := by decide +kernel
theorem inJ0 : ∀ w ∈ wsJ00, w ∈ lw_tbl := by decide +kernel
theorem inJ10 : ∀ w ∈ wsJ100, w ∈ lw_tbl := by decide +kernel
set_option maxRecDepth 20000 in
theorem ggL_law_X11_init : GoodIn wsL_law wsX11_init := goodIn_r _ [9, 10, 11, 12, 13, 14, 15, 16, 17, 18, 19, 20, 21, 22, 23, 24, 25, 26, 27, 28, 29, 30, 31, 32, 33, 34, 35, 36, 37, 38, 39, 40, 41, 42, 43, 44, 45, 46, 47, 6, 48, 49, 50, 51, 52, 53, 54, 55, 56, 57, 58, 59, 60, 61, 62, 63, 64, 65, 66, 67, 68, 69, 70, 71, 72, 73, 74, 75, 76, 77, 78, 79, 80, 81, 82, 83, 84, 85, 86, 87, 88, 89, 90, 1009, 1010, 989, 990, 991, 992, 993, 994, 1011, 1012, 1013, 1014, 1015, 1016, 1017, 1018, 1019, 1020, 1021, 1022, 1023, 1024, 1025, 1026, 1027, 1028, 1029, 1030, 1031, 1032, 1033, 1034, 1035] (by decide +kernel) (by decide +kernel)
set_option maxRecDepth 20000 in
theorem gL_law_X11_init : GoodIn wsL_law (wsX11_init) := ggL_law_X11_init
set_option maxRecDepth 20000 in
theorem ggL_law_X12_init : GoodIn wsL_law wsX12_init := goodIn_r _ [93, 94, 11, 12, 54, 95, 96, 97, 98, 99, 100, 101, 995, 996, 997, 998, 999, 1000, 1001, 1002, 1003, 1004, 1005, 1006, 1007, 1008] (by decide +kernel) (by decide +kernel)
set_option maxRecDepth 20000 in
theorem gL_law_X12_init : GoodIn wsL_law (wsX12_init) := ggL_law_X12_init
set_option maxRecDepth 20000 in
theorem ggL_law_L_stroke : GoodIn wsL_law wsL_stroke := goodIn_ca (goodIn_ca (goodIn_r _ [105, 106, 107, 108, 109, 110, 2, 111, 112, 113, 114, 115, 16, 116, 117, 21, 118, 119, 120, 121, 122, 123, 124, 20, 125, 70, 69, 126, 127, 128, 129, 130, 131, 132, 133, 134, 135, 136, 15, 137, 40, 44, 138, 139, 140, 39, 141, 48, 49, 50, 142, 143, 144, 145, 146, 147, 148, 149, 150, 151, 152, 153, 154, 155, 156, 43, 157, 55, 56, 57, 58, 59, 60, 61, 62, 63, 158, 159, 160, 161, 162, 163, 164, 165, 166, 167, 168, 169, 170, 171, 172, 173, 174, 175, 176, 177, 178, 179, 180, 181, 182, 183, 184, 185, 186, 187, 188, 189, 190, 191, 192, 193, 194, 195, 196, 197, 198, 199, 200, 201, 202, 203, 204, 205, 206, 207, 208, 209, 210, 211, 212, 213, 214, 215, 216, 217, 218, 219, 220, 221, 222, 223, 224, 225, 226, 227, 228, 229, 230, 231, 232, 233, 234, 235, 989, 990, 991, 992, 993, 994, 1009, 1010, 1027, 1028, 1029, 1030, 1031, 1032, 1033, 1034, 1035, 1011, 1012, 1024, 1025, 1026] (by decide +kernel) (by decide +kernel)) (goodIn_sub (fun _ h => List.mem_append_left _ (List.mem_append_left _ (List.mem_append_right _ h))) (by decide +kernel))) (goodIn_sub (fun _ h => List.mem_append_left _ (List.mem_append_right _ h)) (by decide +kernel))
set_option maxRecDepth 20000 in
theorem gL_law_L_stroke : GoodIn wsL_law (va_wsS RL 70 yL_stroke wsL_stroke) := goodIn_app (goodIn_of _ (by decide +kernel)) ggL_law_L_stroke
set_option maxRecDepth 20000 in
theorem ggL_law_X12_stroke : GoodIn wsL_law wsX12_stroke := goodIn_r _ [239, 95, 240, 241, 242, 5, 243, 244, 245, 246, 247, 248, 249, 250, 251, 96, 252, 253, 254, 255, 256, 257, 258, 259, 260, 98, 261, 262, 263, 264, 265, 266, 267, 268, 269, 270, 271, 272, 273, 274, 275, 276, 277, 278, 279, 280, 281, 282, 283, 284, 285, 286, 287, 288, 289, 995, 996, 997, 998, 999, 1000, 1001, 1002, 1003, 1004, 1005, 1006, 1007, 1008] (by decide +kernel) (by decide +kernel)
set_option maxRecDepth 20000 in
theorem gL_law_X12_stroke : GoodIn wsL_law (wsV RL 75 RX12 yX12_stroke wsX12_stroke) := goodIn_app (goodIn_of _ (by decide +kernel)) ggL_law_X12_stroke
set_option maxRecDepth 20000 in
theorem ggL_law_X12_thrown : GoodIn wsL_law wsX12_thrown := goodIn_r _ [293, 240, 995, 996, 997, 998, 999, 1000, 1001, 1002, 1003, 1004, 1005, 1006, 1007, 1008] (by decide +kernel) (by decide +kernel)
set_option maxRecDepth 20000 in
theorem gL_law_X12_thrown : GoodIn wsL_law (wsV RL 76 RX12 yX12_thrown wsX12_thrown) := goodIn_app (goodIn_of _ (by decide +kernel)) ggL_law_X12_thrown
set_option maxRecDepth 20000 in
theorem ggL_law_L_takeBack : GoodIn wsL_law wsL_takeBack := goodIn_ca (goodIn_r _ [296, 107, 297, 298, 299, 2, 300, 114, 115, 16, 116, 117, 21, 301, 122, 123, 124, 20, 125, 70, 69, 126, 127, 128, 129, 130, 131, 132, 133, 134, 135, 136, 15, 137, 40, 44, 138, 139, 140, 39, 141, 48, 49, 50, 142, 143, 144, 145, 146, 147, 148, 149, 150, 151, 152, 153, 154, 155, 156, 43, 157, 55, 56, 57, 58, 59, 60, 61, 62, 63, 158, 159, 160, 161, 302, 191, 192, 303, 304, 305, 306, 227, 228, 229, 230, 235, 307, 174, 175, 176, 177, 178, 179, 180, 181, 182, 183, 184, 185, 186, 187, 188, 189, 190, 193, 194, 195, 196, 197, 198, 199, 200, 201, 202, 203, 204, 205, 170, 171, 172, 206, 207, 208, 209, 210, 211, 212, 213, 214, 215, 216, 217, 218, 219, 220, 221, 222, 223, 224, 225, 226, 231, 232, 233, 234, 989, 990, 991, 992, 993, 994, 1009, 1010, 1027, 1028, 1029, 1030, 1031, 1032, 1033, 1034, 1035, 1011, 1012, 1024, 1025, 1026] (by decide +kernel) (by decide +kernel)) (goodIn_sub (fun _ h => List.mem_append_left _ (List.mem_append_right _ h)) (by decide +kernel))
set_option maxRecDepth 20000 in
theorem gL_law_L_takeBack : GoodIn wsL_law (va_wsS RL 79 yL_takeBack wsL_takeBack) := goodIn_app (goodIn_of _ (by decide +kernel)) ggL_law_L_takeBack
set_option maxRecDepth 20000 in
theorem ggL_law_X12_takeBack : GoodIn wsL_law wsX12_takeBack := goodIn_r _ [311, 95, 240, 247, 248, 249, 5, 250, 251, 96, 282, 283, 284, 285, 261, 262, 263, 264, 265, 266, 267, 256, 257, 258, 259, 260, 98, 268, 269, 270, 271, 272, 273, 274, 275, 276, 277, 278, 279, 280, 281, 286, 287, 288, 289, 995, 996, 997, 998, 999, 1000, 1001, 1002, 1003, 1004, 1005, 1006, 1007, 1008] (by decide +kernel) (by decide +kernel)
set_option maxRecDepth 20000 in
theorem gL_law_X12_takeBack : GoodIn wsL_law (wsV RL 82 RX12 yX12_takeBack wsX12_takeBack) := goodIn_app (goodIn_of _ (by decide +kernel)) ggL_law_X12_takeBack
set_option maxRecDepth 20000 in
theorem ggL_law_X11_fixAll : GoodIn wsL_law wsX11_fixAll := goodIn_r _ [315, 21, 16, 116, 122, 123, 124, 20, 125, 70, 69, 126, 127, 128, 129, 130, 131, 132, 133, 134, 135, 136, 15, 137, 40, 44, 138, 139, 140, 39, 141, 48, 49, 50, 142, 143, 144, 145, 146, 147, 148, 149, 150, 151, 152, 153, 154, 155, 156, 43, 157, 55, 56, 57, 58, 59, 60, 61, 62, 63, 158, 159, 160, 161, 316, 317, 318, 319, 320, 224, 225, 226, 227, 228, 229, 230, 170, 171, 172, 231, 232, 233, 234, 235, 191, 192, 989, 990, 991, 992, 993, 994, 1009, 1010, 1011, 1012, 1024, 1025, 1026, 1027, 1028, 1029, 1030, 1031, 1032, 1033, 1034, 1035] (by decide +kernel) (by decide +kernel)
set_option maxRecDepth 20000 in
theorem gL_law_X11_fixAll : GoodIn wsL_law (wsV RL 83 RX11 yX11_fixAll wsX11_fixAll) := goodIn_app (goodIn_of _ (by decide +kernel)) ggL_law_X11_fixAll
set_option maxRecDepth 20000 in
theorem ggL_law_X12_fixAll : GoodIn wsL_law wsX12_fixAll := goodIn_r _ [324, 240, 95, 247, 248, 249, 5, 250, 251, 96, 286, 287, 288, 289, 265, 266, 267, 995, 996, 997, 998, 999, 1000, 1001, 1002, 1003, 1004, 1005, 1006, 1007, 1008] (by decide +kernel) (by decide +kernel)
set_option maxRecDepth 20000 in
theorem gL_law_X12_fixAll : GoodIn wsL_law (wsV RL 86 RX12 yX12_fixAll wsX12_fixAll) := goodIn_app (goodIn_of _ (by decide +kernel)) ggL_law_X12_fixAll
set_option maxRecDepth 20000 in
theorem ggL_law_L_setWindow : GoodIn wsL_law wsL_setWindow := goodIn_ca (goodIn_r _ [327, 106, 328, 329, 330, 2, 331, 112, 113, 21, 16, 116, 332, 122, 123, 124, 20, 125, 70, 69, 126, 127, 128, 129, 130, 131, 132, 133, 134, 135, 136, 15, 137, 40, 44, 138, 139, 140, 39, 141, 48, 49, 50, 142, 143, 144, 145, 146, 147, 148, 149, 150, 151, 152, 153, 154, 155, 156, 43, 157, 55, 56, 57, 58, 59, 60, 61, 62, 63, 158, 159, 160, 161, 320, 224, 225, 226, 227, 228, 229, 230, 170, 171, 172, 231, 232, 233, 234, 235, 191, 192, 989, 990, 991, 992, 993, 994, 1009, 1010, 1027, 1028, 1029, 1030, 1031, 1032, 1033, 1034, 1035, 1011, 1012, 1024, 1025, 1026] (by decide +kernel) (by decide +kernel)) (goodIn_sub (fun _ h => List.mem_append_left _ (List.mem_append_left _ (List.mem_append_right _ h))) (by decide +kernel))
set_option maxRecDepth 20000 in
theorem gL_law_L_setWindow : GoodIn wsL_law (va_wsS RL 87 yL_setWindow wsL_setWindow) := goodIn_app (goodIn_of _ (by decide +kernel)) ggL_law_L_setWindow
set_option maxRecDepth 20000 in
theorem ggL_law_X12_setWindow : GoodIn wsL_law wsX12_setWindow := goodIn_r _ [336, 240, 95, 244, 245, 5, 246, 247, 248, 249, 250, 251, 96, 256, 257, 258, 259, 260, 98, 261, 262, 263, 264, 265, 266, 267, 268, 269, 270, 271, 272, 273, 274, 275, 276, 277, 278, 279, 280, 281, 282, 283, 284, 285, 286, 287, 288, 289, 995, 996, 997, 998, 999, 1000, 1001, 1002, 1003, 1004, 1005, 1006, 1007, 1008] (by decide +kernel) (by decide +kernel)
set_option maxRecDepth 20000 in
theorem gL_law_X12_setWindow : GoodIn wsL_law (wsV RL 89 RX12 yX12_setWindow wsX12_setWindow) := goodIn_app (goodIn_of _ (by decide +kernel)) ggL_law_X12_setWindow
set_option maxRecDepth 20000 in
theorem ggL_law_L_removeEntry : GoodIn wsL_law wsL_removeEntry := goodIn_ca (goodIn_r _ [339, 340, 341, 342, 343, 2, 344, 345, 346, 21, 16, 347, 116, 118, 348, 349, 350, 351, 352, 122, 123, 124, 20, 125, 70, 69, 126, 127, 128, 129, 130, 131, 132, 133, 134, 135, 136, 15, 137, 40, 44, 138, 139, 140, 39, 141, 48, 49, 50, 142, 143, 144, 145, 146, 147, 148, 149, 150, 151, 152, 153, 154, 155, 156, 43, 157, 55, 56, 57, 58, 59, 60, 61, 62, 63, 158, 159, 160, 161, 353, 354, 355, 356, 357, 214, 215, 216, 203, 204, 205, 358, 211, 212, 359, 207, 208, 209, 307, 174, 175, 176, 177, 178, 179, 180, 181, 182, 183, 184, 185, 186, 187, 188, 189, 190, 191, 192, 193, 194, 195, 196, 197, 198, 199, 200, 201, 202, 170, 171, 172, 206, 210, 213, 217, 218, 219, 220, 221, 222, 223, 224, 225, 226, 227, 228, 229, 230, 231, 232, 233, 234, 235, 989, 990, 991, 992, 993, 994, 1009, 1010, 1027, 1028, 1029, 1030, 1031, 1032, 1033, 1034, 1035, 1024, 1025, 1026, 1011, 1012] (by decide +kernel) (by decide +kernel)) (goodIn_sub (fun _ h => List.mem_append_right _ h) (by decide +kernel))
set_option maxRecDepth 20000 in
theorem gL_law_L_removeEntry : GoodIn wsL_law (va_wsS RL 90 yL_removeEntry wsL_removeEntry) := goodIn_app (goodIn_of _ (by decide +kernel)) ggL_law_L_removeEntry
set_option maxRecDepth 20000 in
theorem ggL_law_X12_removeEntry : GoodIn wsL_law wsX12_removeEntry := goodIn_r _ [363, 240, 95, 364, 365, 366, 5, 367, 244, 245, 246, 247, 248, 249, 250, 251, 96, 368, 369, 370, 371, 272, 273, 274, 256, 257, 258, 259, 260, 98, 261, 262, 263, 264, 265, 266, 267, 268, 269, 270, 271, 275, 276, 277, 278, 279, 280, 281, 282, 283, 284, 285, 286, 287, 288, 289, 995, 996, 997, 998, 999, 1000, 1001, 1002, 1003, 1004, 1005, 1006, 1007, 1008] (by decide +kernel) (by decide +kernel)
set_option maxRecDepth 20000 in
theorem gL_law_X12_removeEntry : GoodIn wsL_law (wsV RL 92 RX12 yX12_removeEntry wsX12_removeEntry) := goodIn_app (goodIn_of _ (by decide +kernel)) ggL_law_X12_removeEntry
set_option maxRecDepth 20000 in
theorem ggL_law_L_renameEntry : GoodIn wsL_law wsL_renameEntry := goodIn_ca (goodIn_r _ [374, 340, 375, 376, 377, 2, 378, 345, 346, 21, 16, 347, 379, 116, 348, 349, 350, 351, 352, 122, 123, 124, 20, 125, 70, 69, 126, 127, 128, 129, 130, 131, 132, 133, 134, 135, 136, 15, 137, 40, 44, 138, 139, 140, 39, 141, 48, 49, 50, 142, 143, 144, 145, 146, 147, 148, 149, 150, 151, 152, 153, 154, 155, 156, 43, 157, 55, 56, 57, 58, 59, 60, 61, 62, 63, 158, 159, 160, 161, 380, 207, 208, 209, 203, 204, 205, 381, 211, 212, 307, 174, 175, 176, 177, 178, 179, 180, 181, 182, 183, 184, 185, 186, 187, 188, 189, 190, 191, 192, 193, 194, 195, 196, 197, 198, 199, 200, 201, 202, 170, 171, 172, 206, 210, 213, 214, 215, 216, 217, 218, 219, 220, 221, 222, 223, 224, 225, 226, 227, 228, 229, 230, 231, 232, 233, 234, 235, 382, 383, 384, 385, 989, 990, 991, 992, 993, 994, 1009, 1010, 1024, 1025, 1026, 1011, 1012, 1027, 1028, 1029, 1030, 1031, 1032, 1033, 1034, 1035] (by decide +kernel) (by decide +kernel)) (goodIn_sub (fun _ h => List.mem_append_right _ h) (by decide +kernel))
set_option maxRecDepth 20000 in
theorem gL_law_L_renameEntry : GoodIn wsL_law (va_wsS RL 93 yL_renameEntry wsL_renameEntry) := goodIn_app (goodIn_of _ (by decide +kernel)) ggL_law_L_renameEntry
set_option maxRecDepth 20000 in
theorem ggL_law_X12_renameEntry : GoodIn wsL_law wsX12_renameEntry := goodIn_r _ [389, 240, 95, 364, 365, 366, 5, 367, 244, 245, 246, 247, 248, 249, 250, 251, 96, 390, 391, 392, 393, 272, 273, 274, 394, 395, 396, 397, 265, 266, 267, 256, 257, 258, 259, 260, 98, 261, 262, 263, 264, 268, 269, 270, 271, 275, 276, 277, 278, 279, 280, 281, 282, 283, 284, 285, 286, 287, 288, 289, 995, 996, 997, 998, 999, 1000, 1001, 1002, 1003, 1004, 1005, 1006, 1007, 1008] (by decide +kernel) (by decide +kernel)
set_option maxRecDepth 20000 in
theorem gL_law_X12_renameEntry : GoodIn wsL_law (wsV RL 96 RX12 yX12_renameEntry wsX12_renameEntry) := goodIn_app (goodIn_of _ (by decide +kernel)) ggL_law_X12_renameEntry
set_option maxRecDepth 20000 in
theorem ggL_law_L_learn : GoodIn wsL_law wsL_learn := goodIn_ca (goodIn_ca (goodIn_ca (goodIn_r _ [400, 340, 106, 107, 401, 402, 403, 2, 404, 345, 346, 112, 113, 114, 115, 16, 116, 301, 347, 21, 352, 405, 406, 407, 408, 118, 409, 232, 233, 43, 234, 60, 56, 59, 235, 191, 144, 192, 410, 187, 188, 189, 190, 193, 194, 195, 411, 412, 413, 39, 414, 50, 199, 200, 201, 202, 48, 203, 204, 205, 122, 123, 124, 20, 125, 70, 69, 126, 127, 128, 129, 130, 131, 132, 133, 134, 135, 136, 15, 137, 40, 44, 138, 139, 140, 141, 49, 142, 143, 145, 146, 147, 148, 149, 150, 151, 152, 153, 154, 155, 156, 157, 55, 57, 58, 61, 62, 63, 158, 159, 160, 161, 415, 416, 417, 418, 419, 420, 421, 422, 423, 231, 424, 425, 426, 427, 428, 429, 430, 431, 432, 433, 434, 435, 436, 437, 438, 439, 440, 441, 442, 443, 444, 445, 446, 447, 448, 449, 450, 451, 452, 453, 454, 455, 456, 457, 458, 459, 358, 211, 212, 307, 174, 175, 176, 177, 178, 179, 180, 181, 182, 183, 184, 185, 186, 196, 197, 198, 170, 171, 172, 206, 207, 208, 209, 210, 213, 214, 215, 216, 217, 218, 219, 220, 221, 222, 223, 224, 225, 226, 227, 228, 229, 230, 989, 990, 991, 992, 993, 994, 1009, 1010, 1027, 1028, 1029, 1030, 1031, 1032, 1033, 1034, 1035, 1024, 1025, 1026, 1011, 1012] (by decide +kernel) (by decide +kernel)) (goodIn_sub (fun _ h => List.mem_append_right _ h) (by decide +kernel))) (goodIn_sub (fun _ h => List.mem_append_left _ (List.mem_append_left _ (List.mem_append_right _ h))) (by decide +kernel))) (goodIn_sub (fun _ h => List.mem_append_left _ (List.mem_append_right _ h)) (by decide +kernel))
set_option maxRecDepth 20000 in
theorem gL_law_L_learn : GoodIn wsL_law (va_wsS RL 97 yL_learn wsL_learn) := goodIn_app (goodIn_of _ (by decide +kernel)) ggL_law_L_learn
set_option maxRecDepth 20000 in
theorem ggL_law_X12_learn : GoodIn wsL_law wsX12_learn := goodIn_r _ [463, 240, 95, 464, 465, 466, 5, 467, 244, 245, 246, 468, 469, 470, 471, 265, 266, 267, 472, 473, 474, 475, 476, 477, 478, 479, 272, 273, 274, 480, 481, 482, 483, 484, 485, 486, 487, 247, 248, 249, 250, 251, 96, 256, 257, 258, 259, 260, 98, 261, 262, 263, 264, 268, 269, 270, 271, 275, 276, 277, 278, 279, 280, 281, 282, 283, 284, 285, 286, 287, 288, 289, 995, 996, 997, 998, 999, 1000, 1001, 1002, 1003, 1004, 1005, 1006, 1007, 1008] (by decide +kernel) (by decide +kernel)
set_option maxRecDepth 20000 in
theorem gL_law_X12_learn : GoodIn wsL_law (wsV RL 99 RX12 yX12_learn wsX12_learn) := goodIn_app (goodIn_of _ (by decide +kernel)) ggL_law_X12_learn
set_option maxRecDepth 20000 in
theorem ggL_law_L_append : GoodIn wsL_law wsL_append := goodIn_ca (goodIn_ca (goodIn_r _ [490, 106, 107, 491, 492, 493, 2, 494, 112, 113, 114, 115, 25, 495, 496, 497, 498, 24, 499, 74, 75, 500, 171, 144, 172, 989, 990, 991, 992, 993, 994, 1013, 1014] (by decide +kernel) (by decide +kernel)) (goodIn_sub (fun _ h => List.mem_append_left _ (List.mem_append_left _ (List.mem_append_right _ h))) (by decide +kernel))) (goodIn_sub (fun _ h => List.mem_append_left _ (List.mem_append_right _ h)) (by decide +kernel))
set_option maxRecDepth 20000 in
theorem gL_law_L_append : GoodIn wsL_law (va_wsS RL 100 yL_append wsL_append) := goodIn_app (goodIn_of _ (by decide +kernel)) ggL_law_L_append
set_option maxRecDepth 20000 in
theorem ggL_law_X12_append : GoodIn wsL_law wsX12_append := goodIn_r _ [504, 505, 240, 97, 244, 245, 5, 246, 995, 996, 997, 998, 999, 1000, 1001, 1002, 1003, 1004, 1005, 1006, 1007, 1008] (by decide +kernel) (by decide +kernel)
set_option maxRecDepth 20000 in
theorem gL_law_X12_append : GoodIn wsL_law (wsV RL 102 RX12 yX12_append wsX12_append) := goodIn_app (goodIn_of _ (by decide +kernel)) ggL_law_X12_append
set_option maxRecDepth 20000 in
theorem ggL_law_X11_clearBuffer : GoodIn wsL_law wsX11_clearBuffer := goodIn_r _ [509, 25, 495, 989, 990, 991, 992, 993, 994, 1013, 1014] (by decide +kernel) (by decide +kernel)
set_option maxRecDepth 20000 in
theorem gL_law_X11_clearBuffer : GoodIn wsL_law (wsV RL 103 RX11 yX11_clearBuffer wsX11_clearBuffer) := goodIn_app (goodIn_of _ (by decide +kernel)) ggL_law_X11_clearBuffer
set_option maxRecDepth 20000 in
theorem ggL_law_X12_clearBuffer : GoodIn wsL_law wsX12_clearBuffer := goodIn_r _ [513, 240, 505, 995, 996, 997, 998, 999, 1000, 1001, 1002, 1003, 1004, 1005, 1006, 1007, 1008] (by decide +kernel) (by decide +kernel)
set_option maxRecDepth 20000 in
theorem gL_law_X12_clearBuffer : GoodIn wsL_law (wsV RL 106 RX12 yX12_clearBuffer wsX12_clearBuffer) := goodIn_app (goodIn_of _ (by decide +kernel)) ggL_law_X12_clearBuffer
set_option maxRecDepth 20000 in
theorem ggL_law_X11_firstError : GoodIn wsL_law wsX11_firstError := goodIn_r _ [517, 29, 25, 518, 519, 520, 28, 521, 522, 523, 524, 525, 526, 527, 79, 80, 81, 82, 83, 84, 528, 191, 144, 192, 529, 530, 531, 532, 533, 534, 535, 536, 537, 454, 433, 455, 538, 539, 540, 541, 542, 543, 444, 544, 446, 447, 448, 545, 546, 547, 548, 549, 550, 551, 552, 553, 194, 188, 195, 989, 990, 991, 992, 993, 994, 1013, 1014, 1015, 1016, 1017, 1018, 1019, 1020] (by decide +kernel) (by decide +kernel)
set_option maxRecDepth 20000 in
theorem gL_law_X11_firstError : GoodIn wsL_law (wsV RL 107 RX11 yX11_firstError wsX11_firstError) := goodIn_app (goodIn_of _ (by decide +kernel)) ggL_law_X11_firstError
set_option maxRecDepth 20000 in
theorem ggL_law_X12_firstError : GoodIn wsL_law wsX12_firstError := goodIn_r _ [557, 240, 558, 559, 560, 5, 561, 562, 505, 563, 97, 564, 565, 566, 567, 100, 568, 569, 570, 571, 244, 245, 246, 572, 573, 574, 575, 576, 577, 578, 279, 280, 281, 995, 996, 997, 998, 999, 1000, 1001, 1002, 1003, 1004, 1005, 1006, 1007, 1008] (by decide +kernel) (by decide +kernel)
set_option maxRecDepth 20000 in
theorem gL_law_X12_firstError : GoodIn wsL_law (wsV RL 110 RX12 yX12_firstError wsX12_firstError) := goodIn_app (goodIn_of _ (by decide +kernel)) ggL_law_X12_firstError
set_option maxRecDepth 20000 in
theorem ggL_law_L_load : GoodIn wsL_law wsL_load := goodIn_ca (goodIn_ca (goodIn_r _ [581, 106, 107, 582, 583, 584, 2, 585, 112, 113, 114, 115, 29, 25, 17, 16, 347, 21, 495, 352, 586, 587, 588, 28, 589, 522, 84, 590, 519, 520, 521, 523, 524, 525, 526, 527, 79, 80, 81, 82, 83, 528, 191, 144, 192, 529, 530, 531, 532, 533, 534, 535, 536, 537, 454, 433, 455, 538, 539, 540, 541, 542, 543, 444, 544, 446, 447, 448, 545, 546, 547, 548, 549, 550, 551, 552, 553, 194, 188, 195, 591, 135, 136, 15, 137, 40, 44, 138, 139, 140, 39, 141, 48, 49, 50, 142, 143, 145, 146, 147, 148, 149, 150, 151, 152, 153, 154, 155, 156, 43, 157, 55, 56, 57, 58, 59, 60, 61, 62, 63, 158, 159, 160, 161, 592, 593, 594, 595, 596, 412, 413, 414, 199, 200, 201, 202, 203, 204, 205, 597, 457, 458, 459, 358, 211, 212, 122, 123, 124, 20, 125, 70, 69, 126, 127, 128, 129, 130, 131, 132, 133, 134, 598, 307, 174, 175, 176, 177, 178, 179, 180, 181, 182, 183, 184, 185, 186, 187, 189, 190, 193, 196, 197, 198, 170, 171, 172, 206, 207, 208, 209, 210, 213, 214, 215, 216, 217, 218, 219, 220, 221, 222, 223, 224, 225, 226, 227, 228, 229, 230, 231, 232, 233, 234, 235, 989, 990, 991, 992, 993, 994, 1009, 1010, 1013, 1014, 1024, 1025, 1026, 1015, 1016, 1017, 1018, 1019, 1020, 1027, 1028, 1029, 1030, 1031, 1032, 1033, 1034, 1035, 1011, 1012] (by decide +kernel) (by decide +kernel)) (goodIn_sub (fun _ h => List.mem_append_left _ (List.mem_append_left _ (List.mem_append_right _ h))) (by decide +kernel))) (goodIn_sub (fun _ h => List.mem_append_left _ (List.mem_append_right _ h)) (by decide +kernel))
set_option maxRecDepth 20000 in
theorem gL_law_L_load : GoodIn wsL_law (va_wsS RL 111 yL_load wsL_load) := goodIn_app (goodIn_of _ (by decide +kernel)) ggL_law_L_load
set_option maxRecDepth 20000 in
theorem ggL_law_X12_load : GoodIn wsL_law wsX12_load := goodIn_r _ [602, 505, 563, 100, 562, 240, 95, 558, 559, 560, 5, 561, 97, 564, 565, 566, 567, 568, 569, 570, 571, 244, 245, 246, 572, 573, 574, 575, 576, 577, 578, 279, 280, 281, 603, 604, 605, 606, 607, 608, 609, 610, 99, 611, 612, 613, 614, 272, 273, 274, 480, 481, 482, 483, 484, 485, 486, 487, 615, 616, 617, 618, 247, 248, 249, 250, 251, 96, 256, 257, 258, 259, 260, 98, 261, 262, 263, 264, 265, 266, 267, 268, 269, 270, 271, 275, 276, 277, 278, 282, 283, 284, 285, 286, 287, 288, 289, 995, 996, 997, 998, 999, 1000, 1001, 1002, 1003, 1004, 1005, 1006, 1007, 1008] (by decide +kernel) (by decide +kernel)
set_option maxRecDepth 20000 in
theorem gL_law_X12_load : GoodIn wsL_law (wsV RL 113 RX12 yX12_load wsX12_load) := goodIn_app (goodIn_of _ (by decide +kernel)) ggL_law_X12_load
set_option maxRecDepth 20000 in
theorem ggL_law_L_undo : GoodIn wsL_law wsL_undo := goodIn_ca (goodIn_r _ [621, 107, 622, 623, 624, 2, 625, 114, 115, 21, 626, 16, 627, 628, 629, 20, 630, 70, 130, 131, 132, 133, 69, 134, 135, 136, 15, 137, 40, 44, 138, 139, 140, 39, 141, 48, 49, 50, 142, 143, 144, 145, 146, 147, 148, 149, 150, 151, 152, 153, 154, 155, 156, 43, 157, 55, 56, 57, 58, 59, 60, 61, 62, 63, 158, 159, 160, 161, 989, 990, 991, 992, 993, 994, 1011, 1012, 1009, 1010, 1024, 1025, 1026, 1027, 1028, 1029, 1030, 1031, 1032, 1033, 1034, 1035] (by decide +kernel) (by decide +kernel)) (goodIn_sub (fun _ h => List.mem_append_left _ (List.mem_append_right _ h)) (by decide +kernel))
set_option maxRecDepth 20000 in
theorem gL_law_L_undo : GoodIn wsL_law (va_wsS RL 114 yL_undo wsL_undo) := goodIn_app (goodIn_of _ (by decide +kernel)) ggL_law_L_undo
set_option maxRecDepth 20000 in
theorem ggL_law_X12_undo : GoodIn wsL_law wsX12_undo := goodIn_r _ [634, 251, 240, 95, 96, 995, 996, 997, 998, 999, 1000, 1001, 1002, 1003, 1004, 1005, 1006, 1007, 1008] (by decide +kernel) (by decide +kernel)
set_option maxRecDepth 20000 in
theorem gL_law_X12_undo : GoodIn wsL_law (wsV RL 116 RX12 yX12_undo wsX12_undo) := goodIn_app (goodIn_of _ (by decide +kernel)) ggL_law_X12_undo
set_option maxRecDepth 20000 in
theorem ggL_law_L_strokeAt : GoodIn wsL_law wsL_strokeAt := goodIn_ca (goodIn_ca (goodIn_r _ [637, 340, 106, 638, 639, 640, 2, 641, 345, 346, 112, 113, 16, 116, 117, 301, 302, 191, 144, 192, 642, 425, 426, 427, 428, 429, 430, 643, 644, 645, 43, 646, 60, 231, 232, 233, 234, 56, 59, 235, 989, 990, 991, 992, 993, 994, 1009, 1010, 1027, 1028, 1029, 1030, 1031, 1032, 1033, 1034, 1035] (by decide +kernel) (by decide +kernel)) (goodIn_sub (fun _ h => List.mem_append_right _ h) (by decide +kernel))) (goodIn_sub (fun _ h => List.mem_append_left _ (List.mem_append_left _ (List.mem_append_right _ h))) (by decide +kernel))
set_option maxRecDepth 20000 in
theorem gL_law_L_strokeAt : GoodIn wsL_law (va_wsS RL 117 yL_strokeAt wsL_strokeAt) := goodIn_app (goodIn_of _ (by decide +kernel)) ggL_law_L_strokeAt
set_option maxRecDepth 20000 in
theorem ggL_law_X12_strokeAt : GoodIn wsL_law wsX12_strokeAt := goodIn_r _ [650, 95, 240, 244, 245, 5, 246, 651, 652, 653, 654, 655, 656, 657, 658, 659, 660, 661, 468, 469, 470, 471, 265, 266, 267, 995, 996, 997, 998, 999, 1000, 1001, 1002, 1003, 1004, 1005, 1006, 1007, 1008] (by decide +kernel) (by decide +kernel)
set_option maxRecDepth 20000 in
theorem gL_law_X12_strokeAt : GoodIn wsL_law (wsV RL 119 RX12 yX12_strokeAt wsX12_strokeAt) := goodIn_app (goodIn_of _ (by decide +kernel)) ggL_law_X12_strokeAt
set_option maxRecDepth 20000 in
theorem ggL_law_L_item : GoodIn wsL_law wsL_item := goodIn_ca (goodIn_ca (goodIn_r _ [664, 340, 106, 665, 666, 667, 2, 668, 345, 346, 112, 113, 16, 116, 669, 670, 405, 406, 407, 408, 118, 671, 420, 421, 43, 422, 58, 55, 423, 204, 144, 205, 231, 232, 233, 234, 60, 56, 59, 235, 191, 192, 424, 425, 426, 427, 428, 429, 430, 431, 432, 433, 434, 435, 436, 437, 409, 672, 673, 674, 675, 302, 676, 439, 440, 441, 442, 443, 444, 445, 446, 447, 448, 449, 989, 990, 991, 992, 993, 994, 1009, 1010, 1027, 1028, 1029, 1030, 1031, 1032, 1033, 1034, 1035] (by decide +kernel) (by decide +kernel)) (goodIn_sub (fun _ h => List.mem_append_right _ h) (by decide +kernel))) (goodIn_sub (fun _ h => List.mem_append_left _ (List.mem_append_left _ (List.mem_append_right _ h))) (by decide +kernel))
set_option maxRecDepth 20000 in
theorem gL_law_L_item : GoodIn wsL_law (va_wsS RL 120 yL_item wsL_item) := goodIn_app (goodIn_of _ (by decide +kernel)) ggL_law_L_item
set_option maxRecDepth 20000 in
theorem ggL_law_X12_item : GoodIn wsL_law wsX12_item := goodIn_r _ [680, 240, 95, 464, 465, 466, 5, 467, 244, 245, 246, 265, 266, 267, 681, 682, 683, 684, 468, 469, 470, 471, 995, 996, 997, 998, 999, 1000, 1001, 1002, 1003, 1004, 1005, 1006, 1007, 1008] (by decide +kernel) (by decide +kernel)
set_option maxRecDepth 20000 in
theorem gL_law_X12_item : GoodIn wsL_law (wsV RL 122 RX12 yX12_item wsX12_item) := goodIn_app (goodIn_of _ (by decide +kernel)) ggL_law_X12_item
set_option maxRecDepth 20000 in
theorem ggL_law_L_entry : GoodIn wsL_law wsL_entry := goodIn_ca (goodIn_ca (goodIn_r _ [687, 340, 106, 688, 689, 690, 2, 691, 345, 346, 112, 113, 16, 347, 116, 348, 349, 350, 351, 352, 692, 214, 215, 39, 216, 48, 203, 204, 144, 205, 380, 207, 208, 209, 49, 693, 218, 188, 219, 220, 221, 222, 694, 695, 696, 697, 698, 432, 433, 434, 435, 436, 437, 699, 700, 701, 702, 357, 703, 704, 705, 706, 50, 707, 196, 197, 198, 708, 709, 710, 711, 199, 200, 201, 202, 712, 713, 714, 715, 716, 717, 718, 719, 720, 721, 722, 359, 382, 383, 384, 43, 385, 61, 60, 57, 235, 191, 192, 723, 989, 990, 991, 992, 993, 994, 1009, 1010, 1024, 1025, 1026, 1027, 1028, 1029, 1030, 1031, 1032, 1033, 1034, 1035] (by decide +kernel) (by decide +kernel)) (goodIn_sub (fun _ h => List.mem_append_right _ h) (by decide +kernel))) (goodIn_sub (fun _ h => List.mem_append_left _ (List.mem_append_left _ (List.mem_append_right _ h))) (by decide +kernel))
set_option maxRecDepth 20000 in
theorem gL_law_L_entry : GoodIn wsL_law (va_wsS RL 123 yL_entry wsL_entry) := goodIn_app (goodIn_of _ (by decide +kernel)) ggL_law_L_entry
set_option maxRecDepth 20000 in
theorem ggL_law_X12_entry : GoodIn wsL_law wsX12_entry := goodIn_r _ [727, 240, 364, 365, 366, 5, 367, 95, 244, 245, 246, 728, 729, 730, 731, 272, 273, 274, 732, 733, 734, 735, 484, 485, 486, 487, 390, 391, 392, 393, 736, 737, 738, 739, 394, 395, 396, 397, 265, 266, 267, 995, 996, 997, 998, 999, 1000, 1001, 1002, 1003, 1004, 1005, 1006, 1007, 1008] (by decide +kernel) (by decide +kernel)
set_option maxRecDepth 20000 in
theorem gL_law_X12_entry : GoodIn wsL_law (wsV RL 125 RX12 yX12_entry wsX12_entry) := goodIn_app (goodIn_of _ (by decide +kernel)) ggL_law_X12_entry
set_option maxRecDepth 20000 in
theorem ggL_law_L_count : GoodIn wsL_law wsL_count := goodIn_ca (goodIn_r _ [742, 106, 743, 744, 745, 2, 746, 112, 113, 16, 116, 117, 118, 670, 347, 352, 332, 21, 626, 747, 228, 229, 43, 230, 59, 62, 748, 749, 750, 751, 60, 419, 420, 421, 422, 58, 55, 423, 204, 144, 205, 231, 232, 233, 234, 56, 235, 191, 192, 424, 425, 426, 427, 428, 429, 430, 431, 432, 433, 434, 435, 436, 437, 382, 383, 384, 385, 61, 57, 752, 753, 754, 39, 755, 50, 756, 700, 701, 702, 357, 214, 215, 216, 48, 203, 703, 704, 705, 706, 707, 218, 188, 219, 220, 221, 222, 196, 197, 198, 708, 709, 710, 711, 199, 200, 201, 202, 712, 713, 714, 715, 716, 717, 718, 719, 720, 721, 722, 359, 207, 208, 209, 49, 989, 990, 991, 992, 993, 994, 1009, 1010, 1027, 1028, 1029, 1030, 1031, 1032, 1033, 1034, 1035, 1024, 1025, 1026, 1011, 1012] (by decide +kernel) (by decide +kernel)) (goodIn_sub (fun _ h => List.mem_append_left _ (List.mem_append_left _ (List.mem_append_right _ h))) (by decide +kernel))
set_option maxRecDepth 20000 in
theorem gL_law_L_count : GoodIn wsL_law (va_wsS RL 126 yL_count wsL_count) := goodIn_app (goodIn_of _ (by decide +kernel)) ggL_law_L_count
set_option maxRecDepth 20000 in
theorem ggL_law_X12_count : GoodIn wsL_law wsX12_count := goodIn_r _ [760, 240, 244, 245, 5, 246, 761, 762, 763, 764, 95, 251, 282, 283, 284, 285, 261, 262, 263, 264, 265, 266, 267, 765, 766, 767, 768, 394, 395, 396, 397, 769, 770, 771, 772, 732, 733, 734, 735, 484, 485, 486, 487, 272, 273, 274, 390, 391, 392, 393, 736, 737, 738, 739, 995, 996, 997, 998, 999, 1000, 1001, 1002, 1003, 1004, 1005, 1006, 1007, 1008] (by decide +kernel) (by decide +kernel)
set_option maxRecDepth 20000 in
theorem gL_law_X12_count : GoodIn wsL_law (wsV RL 128 RX12 yX12_count wsX12_count) := goodIn_app (goodIn_of _ (by decide +kernel)) ggL_law_X12_count
set_option maxRecDepth 20000 in
theorem ggL_law_L_ifStroke : GoodIn wsL_law wsL_ifStroke := goodIn_ca (goodIn_r _ [775, 106, 776, 777, 778, 2, 779, 112, 113, 17, 16, 116, 118, 670, 119, 120, 121, 591, 135, 136, 15, 137, 40, 44, 138, 139, 140, 39, 141, 48, 49, 50, 142, 143, 144, 145, 146, 147, 148, 149, 150, 151, 152, 153, 154, 155, 156, 43, 157, 55, 56, 57, 58, 59, 60, 61, 62, 63, 158, 159, 160, 161, 162, 163, 164, 165, 166, 167, 168, 169, 170, 171, 172, 173, 174, 175, 176, 177, 178, 179, 180, 181, 182, 183, 184, 185, 186, 187, 188, 189, 190, 191, 192, 193, 194, 195, 196, 197, 198, 199, 200, 201, 202, 203, 204, 205, 206, 207, 208, 209, 210, 211, 212, 213, 214, 215, 216, 217, 218, 219, 220, 221, 222, 223, 224, 225, 226, 227, 228, 229, 230, 231, 232, 233, 234, 235, 748, 749, 750, 751, 419, 420, 421, 422, 423, 424, 425, 426, 427, 428, 429, 430, 431, 432, 433, 434, 435, 436, 437, 672, 673, 674, 675, 989, 990, 991, 992, 993, 994, 1009, 1010, 1027, 1028, 1029, 1030, 1031, 1032, 1033, 1034, 1035, 1024, 1025, 1026] (by decide +kernel) (by decide +kernel)) (goodIn_sub (fun _ h => List.mem_append_left _ (List.mem_append_left _ (List.mem_append_right _ h))) (by decide +kernel))
set_option maxRecDepth 20000 in
theorem gL_law_L_ifStroke : GoodIn wsL_law (va_wsS RL 129 yL_ifStroke wsL_ifStroke) := goodIn_app (goodIn_of _ (by decide +kernel)) ggL_law_L_ifStroke
set_option maxRecDepth 20000 in
theorem ggL_law_X12_ifStroke : GoodIn wsL_law wsX12_ifStroke := goodIn_r _ [783, 240, 241, 242, 5, 243, 244, 245, 246, 607, 608, 609, 610, 99, 95, 252, 253, 254, 255, 256, 257, 258, 259, 260, 98, 261, 262, 263, 264, 265, 266, 267, 268, 269, 270, 271, 272, 273, 274, 275, 276, 277, 278, 279, 280, 281, 282, 283, 284, 285, 286, 287, 288, 289, 784, 785, 786, 787, 765, 766, 767, 768, 615, 616, 617, 618, 995, 996, 997, 998, 999, 1000, 1001, 1002, 1003, 1004, 1005, 1006, 1007, 1008] (by decide +kernel) (by decide +kernel)
set_option maxRecDepth 20000 in
theorem gL_law_X12_ifStroke : GoodIn wsL_law (wsV RL 131 RX12 yX12_ifStroke wsX12_ifStroke) := goodIn_app (goodIn_of _ (by decide +kernel)) ggL_law_X12_ifStroke
set_option maxRecDepth 20000 in
theorem ggL_law_L_ifRemoved : GoodIn wsL_law wsL_ifRemoved := goodIn_ca (goodIn_r _ [790, 340, 791, 792, 793, 2, 794, 345, 346, 17, 16, 347, 116, 348, 349, 350, 351, 352, 591, 135, 136, 15, 137, 40, 44, 138, 139, 140, 39, 141, 48, 49, 50, 142, 143, 144, 145, 146, 147, 148, 149, 150, 151, 152, 153, 154, 155, 156, 43, 157, 55, 56, 57, 58, 59, 60, 61, 62, 63, 158, 159, 160, 161, 353, 354, 355, 356, 357, 214, 215, 216, 203, 204, 205, 358, 211, 212, 359, 207, 208, 209, 307, 174, 175, 176, 177, 178, 179, 180, 181, 182, 183, 184, 185, 186, 187, 188, 189, 190, 191, 192, 193, 194, 195, 196, 197, 198, 199, 200, 201, 202, 170, 171, 172, 206, 210, 213, 217, 218, 219, 220, 221, 222, 223, 224, 225, 226, 227, 228, 229, 230, 231, 232, 233, 234, 235, 316, 317, 318, 319, 989, 990, 991, 992, 993, 994, 1009, 1010, 1024, 1025, 1026, 1027, 1028, 1029, 1030, 1031, 1032, 1033, 1034, 1035] (by decide +kernel) (by decide +kernel)) (goodIn_sub (fun _ h => List.mem_append_right _ h) (by decide +kernel))
set_option maxRecDepth 20000 in
theorem gL_law_L_ifRemoved : GoodIn wsL_law (va_wsS RL 132 yL_ifRemoved wsL_ifRemoved) := goodIn_app (goodIn_of _ (by decide +kernel)) ggL_law_L_ifRemoved
set_option maxRecDepth 20000 in
theorem ggL_law_X12_ifRemoved : GoodIn wsL_law wsX12_ifRemoved := goodIn_r _ [798, 240, 95, 364, 365, 366, 5, 367, 244, 245, 246, 607, 608, 609, 610, 99, 368, 369, 370, 371, 272, 273, 274, 256, 257, 258, 259, 260, 98, 261, 262, 263, 264, 265, 266, 267, 268, 269, 270, 271, 275, 276, 277, 278, 279, 280, 281, 282, 283, 284, 285, 286, 287, 288, 289, 615, 616, 617, 618, 995, 996, 997, 998, 999, 1000, 1001, 1002, 1003, 1004, 1005, 1006, 1007, 1008] (by decide +kernel) (by decide +kernel)
set_option maxRecDepth 20000 in
theorem gL_law_X12_ifRemoved : GoodIn wsL_law (wsV RL 134 RX12 yX12_ifRemoved wsX12_ifRemoved) := goodIn_app (goodIn_of _ (by decide +kernel)) ggL_law_X12_ifRemoved
set_option maxRecDepth 20000 in
theorem ggL_law_X11_fewestStrokes : GoodIn wsL_law wsX11_fewestStrokes := goodIn_r _ [802, 33, 25, 16, 347, 803, 804, 805, 32, 806, 88, 807, 808, 809, 171, 144, 172, 810, 811, 812, 813, 814, 207, 208, 39, 209, 49, 203, 204, 205, 815, 816, 817, 24, 818, 75, 74, 819, 432, 433, 434, 435, 436, 437, 820, 191, 192, 821, 822, 823, 824, 214, 215, 216, 48, 825, 218, 188, 219, 220, 221, 222, 989, 990, 991, 992, 993, 994, 1009, 1010, 1021, 1022, 1023, 1013, 1014, 1024, 1025, 1026] (by decide +kernel) (by decide +kernel)
set_option maxRecDepth 20000 in
theorem gL_law_X11_fewestStrokes : GoodIn wsL_law (wsV RL 135 RX11 yX11_fewestStrokes wsX11_fewestStrokes) := goodIn_app (goodIn_of _ (by decide +kernel)) ggL_law_X11_fewestStrokes
set_option maxRecDepth 20000 in
theorem ggL_law_X12_fewestStrokes : GoodIn wsL_law wsX12_fewestStrokes := goodIn_r _ [829, 240, 830, 831, 832, 5, 833, 101, 505, 95, 834, 835, 836, 837, 838, 839, 840, 841, 97, 272, 273, 274, 995, 996, 997, 998, 999, 1000, 1001, 1002, 1003, 1004, 1005, 1006, 1007, 1008] (by decide +kernel) (by decide +kernel)
set_option maxRecDepth 20000 in
theorem gL_law_X12_fewestStrokes : GoodIn wsL_law (wsV RL 138 RX12 yX12_fewestStrokes wsX12_fewestStrokes) := goodIn_app (goodIn_of _ (by decide +kernel)) ggL_law_X12_fewestStrokes
set_option maxRecDepth 20000 in
theorem ggL_law_X11_readsBack : GoodIn wsL_law wsX11_readsBack := goodIn_r _ [845, 33, 25, 16, 347, 803, 804, 805, 32, 806, 88, 807, 808, 809, 171, 144, 172, 810, 811, 812, 813, 814, 207, 208, 39, 209, 49, 203, 204, 205, 815, 816, 817, 24, 818, 75, 74, 819, 432, 433, 434, 435, 436, 437, 820, 191, 192, 821, 822, 823, 824, 214, 215, 216, 48, 825, 218, 188, 219, 220, 221, 222, 846, 847, 848, 849, 90, 850, 851, 852, 853, 854, 855, 856, 857, 89, 858, 859, 860, 861, 862, 863, 182, 183, 184, 185, 147, 148, 149, 186, 187, 189, 190, 193, 194, 195, 196, 197, 198, 199, 200, 201, 202, 50, 989, 990, 991, 992, 993, 994, 1009, 1010, 1021, 1022, 1023, 1013, 1014, 1024, 1025, 1026] (by decide +kernel) (by decide +kernel)
set_option maxRecDepth 20000 in
theorem gL_law_X11_readsBack : GoodIn wsL_law (wsV RL 139 RX11 yX11_readsBack wsX11_readsBack) := goodIn_app (goodIn_of _ (by decide +kernel)) ggL_law_X11_readsBack
set_option maxRecDepth 20000 in
theorem ggL_law_X12_readsBack : GoodIn wsL_law wsX12_readsBack := goodIn_r _ [867, 240, 868, 869, 870, 5, 871, 260, 98, 95, 505, 830, 831, 832, 833, 101, 834, 835, 836, 837, 838, 839, 840, 841, 97, 272, 273, 274, 872, 873, 874, 875, 268, 269, 270, 271, 876, 877, 878, 879, 279, 280, 281, 995, 996, 997, 998, 999, 1000, 1001, 1002, 1003, 1004, 1005, 1006, 1007, 1008] (by decide +kernel) (by decide +kernel)
set_option maxRecDepth 20000 in
theorem gL_law_X12_readsBack : GoodIn wsL_law (wsV RL 142 RX12 yX12_readsBack wsX12_readsBack) := goodIn_app (goodIn_of _ (by decide +kernel)) ggL_law_X12_readsBack
set_option maxRecDepth 20000 in
theorem ggL_law_L_shortest : GoodIn wsL_law wsL_shortest := goodIn_ca (goodIn_r _ [882, 340, 883, 884, 885, 2, 886, 345, 346, 16, 347, 348, 349, 350, 351, 352, 887, 888, 889, 39, 890, 50, 359, 207, 208, 209, 49, 203, 204, 144, 205, 891, 892, 893, 894, 357, 214, 215, 216, 48, 707, 218, 188, 219, 220, 221, 222, 895, 896, 897, 898, 899, 900, 901, 989, 990, 991, 992, 993, 994, 1009, 1010, 1024, 1025, 1026] (by decide +kernel) (by decide +kernel)) (goodIn_sub (fun _ h => List.mem_append_right _ h) (by decide +kernel))
set_option maxRecDepth 20000 in
theorem gL_law_L_shortest : GoodIn wsL_law (va_wsS RL 143 yL_shortest wsL_shortest) := goodIn_app (goodIn_of _ (by decide +kernel)) ggL_law_L_shortest
set_option maxRecDepth 20000 in
theorem ggL_law_X12_shortest : GoodIn wsL_law wsX12_shortest := goodIn_r _ [905, 240, 364, 365, 366, 5, 367, 95, 244, 245, 246, 906, 907, 908, 909, 390, 391, 392, 393, 272, 273, 274, 910, 911, 912, 913, 655, 656, 657, 995, 996, 997, 998, 999, 1000, 1001, 1002, 1003, 1004, 1005, 1006, 1007, 1008] (by decide +kernel) (by decide +kernel)
set_option maxRecDepth 20000 in
theorem gL_law_X12_shortest : GoodIn wsL_law (wsV RL 145 RX12 yX12_shortest wsX12_shortest) := goodIn_app (goodIn_of _ (by decide +kernel)) ggL_law_X12_shortest
set_option maxRecDepth 20000 in
theorem ggL_law_X11_lettersPerStroke : GoodIn wsL_law wsX11_lettersPerStroke := goodIn_r _ [917, 16, 116, 117, 748, 749, 750, 43, 751, 60, 419, 420, 421, 422, 58, 55, 423, 204, 144, 205, 231, 232, 233, 234, 56, 59, 235, 191, 192, 424, 425, 426, 427, 428, 429, 430, 431, 432, 433, 434, 435, 436, 437, 989, 990, 991, 992, 993, 994, 1009, 1010, 1027, 1028, 1029, 1030, 1031, 1032, 1033, 1034, 1035] (by decide +kernel) (by decide +kernel)
set_option maxRecDepth 20000 in
theorem gL_law_X11_lettersPerStroke : GoodIn wsL_law (wsV RL 146 RX11 yX11_lettersPerStroke wsX11_lettersPerStroke) := goodIn_app (goodIn_of _ (by decide +kernel)) ggL_law_X11_lettersPerStroke
set_option maxRecDepth 20000 in
theorem ggL_law_X12_lettersPerStroke : GoodIn wsL_law wsX12_lettersPerStroke := goodIn_r _ [921, 240, 922, 923, 924, 5, 925, 95, 765, 766, 767, 768, 265, 266, 267, 995, 996, 997, 998, 999, 1000, 1001, 1002, 1003, 1004, 1005, 1006, 1007, 1008] (by decide +kernel) (by decide +kernel)
set_option maxRecDepth 20000 in
theorem gL_law_X12_lettersPerStroke : GoodIn wsL_law (wsV RL 150 RX12 yX12_lettersPerStroke wsX12_lettersPerStroke) := goodIn_app (goodIn_of _ (by decide +kernel)) ggL_law_X12_lettersPerStroke
set_option maxRecDepth 20000 in
theorem ggL_law_X11_digest : GoodIn wsL_law wsX11_digest := goodIn_ca (goodIn_ca (goodIn_r _ [929, 930, 25, 495, 931, 932, 744, 745, 2, 746, 112, 113, 16, 116, 117, 118, 670, 347, 352, 332, 21, 626, 747, 228, 229, 43, 230, 59, 62, 748, 749, 750, 751, 60, 419, 420, 421, 422, 58, 55, 423, 204, 144, 205, 231, 232, 233, 234, 56, 235, 191, 192, 424, 425, 426, 427, 428, 429, 430, 431, 432, 433, 434, 435, 436, 437, 382, 383, 384, 385, 61, 57, 752, 753, 754, 39, 755, 50, 756, 700, 701, 702, 357, 214, 215, 216, 48, 203, 703, 704, 705, 706, 707, 218, 188, 219, 220, 221, 222, 196, 197, 198, 708, 709, 710, 711, 199, 200, 201, 202, 712, 713, 714, 715, 716, 717, 718, 719, 720, 721, 722, 359, 207, 208, 209, 49, 933, 934, 935, 936, 937, 938, 939, 940, 941, 639, 640, 641, 345, 346, 301, 302, 642, 643, 644, 645, 646, 671, 942, 666, 667, 668, 669, 405, 406, 407, 408, 409, 672, 673, 674, 675, 676, 439, 440, 441, 442, 443, 444, 445, 446, 447, 448, 449, 943, 944, 945, 946, 947, 689, 690, 691, 348, 349, 350, 351, 692, 380, 693, 694, 695, 696, 697, 698, 699, 723, 948, 884, 885, 886, 887, 888, 889, 890, 891, 892, 893, 894, 895, 896, 897, 898, 899, 900, 901, 949, 800, 801, 802, 33, 803, 804, 805, 32, 806, 88, 807, 808, 809, 171, 172, 810, 811, 812, 813, 814, 815, 816, 817, 24, 818, 75, 74, 819, 820, 821, 822, 823, 824, 825, 950, 843, 844, 845, 846, 847, 848, 849, 90, 850, 851, 852, 853, 854, 855, 856, 857, 89, 858, 859, 860, 861, 862, 863, 182, 183, 184, 185, 147, 148, 149, 186, 187, 189, 190, 193, 194, 195, 951, 915, 916, 917, 952, 953, 954, 955, 956, 957, 989, 990, 991, 992, 993, 994, 1013, 1014, 1009, 1010, 1027, 1028, 1029, 1030, 1031, 1032, 1033, 1034, 1035, 1024, 1025, 1026, 1011, 1012, 1021, 1022, 1023] (by decide +kernel) (by decide +kernel)) (goodIn_sub (fun _ h => List.mem_append_left _ (List.mem_append_left _ (List.mem_append_right _ h))) (by decide +kernel))) (goodIn_sub (fun _ h => List.mem_append_right _ h) (by decide +kernel))
set_option maxRecDepth 20000 in
theorem gL_law_X11_digest : GoodIn wsL_law (wsV RL 151 RX11 yX11_digest wsX11_digest) := goodIn_app (goodIn_of _ (by decide +kernel)) ggL_law_X11_digest
set_option maxRecDepth 20000 in
theorem ggL_law_X12_digest : GoodIn wsL_law wsX12_digest := goodIn_r _ [961, 240, 962, 963, 95, 505, 97, 761, 762, 763, 5, 764, 251, 282, 283, 284, 285, 261, 262, 263, 264, 265, 266, 267, 765, 766, 767, 768, 394, 395, 396, 397, 769, 770, 771, 772, 732, 733, 734, 735, 484, 485, 486, 487, 272, 273, 274, 390, 391, 392, 393, 736, 737, 738, 739, 964, 965, 966, 967, 968, 651, 652, 653, 654, 655, 656, 657, 658, 659, 660, 661, 468, 469, 470, 471, 969, 970, 971, 972, 681, 682, 683, 684, 973, 974, 975, 976, 728, 729, 730, 731, 906, 907, 908, 909, 910, 911, 912, 913, 830, 831, 832, 833, 101, 834, 835, 836, 837, 838, 839, 840, 841, 868, 869, 870, 871, 260, 98, 872, 873, 874, 875, 268, 269, 270, 271, 876, 877, 878, 879, 279, 280, 281, 922, 923, 924, 925, 977, 978, 979, 980, 981, 982, 983, 984, 985, 986, 987, 988, 995, 996, 997, 998, 999, 1000, 1001, 1002, 1003, 1004, 1005, 1006, 1007, 1008] (by decide +kernel) (by decide +kernel)
set_option maxRecDepth 20000 in
theorem gL_law_X12_digest : GoodIn wsL_law (wsV RL 155 RX12 yX12_digest wsX12_digest) := goodIn_app (goodIn_of _ (by decide +kernel)) ggL_law_X12_digest

