set_option maxRecDepth 100000 in
theorem ggL_law_X12_append : GoodIn lw_tbl wsX12_append := goodIn_r _ [1091, 926, 922, 927, 980, 981, 78, 982, 936, 938, 940, 942, 944, 946, 948, 950, 952, 954, 956, 958, 960, 962] (by decide +kernel) (by decide +kernel)
set_option maxRecDepth 100000 in
theorem gL_law_X12_append : GoodIn lw_tbl (wsV RL 102 RX12 yX12_append wsX12_append) := goodIn_app (goodIn_r _ [1088, 1089, 1090, 78] (by decide +kernel) (by decide +kernel)) ggL_law_X12_append
set_option maxRecDepth 100000 in
theorem ggL_law_X11_clearBuffer : GoodIn lw_tbl wsX11_clearBuffer := goodIn_r _ [339, 257, 207, 260, 262, 264, 266, 268, 270, 208, 210] (by decide +kernel) (by decide +kernel)
set_option maxRecDepth 100000 in
theorem gL_law_X11_clearBuffer : GoodIn lw_tbl (wsV RL 103 RX11 yX11_clearBuffer wsX11_clearBuffer) := goodIn_app (goodIn_r _ [336, 337, 338, 70] (by decide +kernel) (by decide +kernel)) ggL_law_X11_clearBuffer
set_option maxRecDepth 100000 in
theorem ggL_law_X12_clearBuffer : GoodIn lw_tbl wsX12_clearBuffer := goodIn_r _ [1095, 922, 926, 936, 938, 940, 942, 944, 946, 948, 950, 952, 954, 956, 958, 960, 962] (by decide +kernel) (by decide +kernel)
set_option maxRecDepth 100000 in
theorem gL_law_X12_clearBuffer : GoodIn lw_tbl (wsV RL 106 RX12 yX12_clearBuffer wsX12_clearBuffer) := goodIn_app (goodIn_r _ [1092, 1093, 1094, 78] (by decide +kernel) (by decide +kernel)) ggL_law_X12_clearBuffer
set_option maxRecDepth 100000 in
theorem ggL_law_X11_firstError : GoodIn lw_tbl wsX11_firstError := goodIn_r _ [343, 258, 257, 344, 345, 346, 76, 347, 206, 202, 348, 350, 2, 351, 219, 220, 221, 222, 223, 224, 352, 334, 84, 335, 353, 355, 3, 356, 357, 359, 4, 360, 361, 362, 90, 363, 364, 366, 5, 367, 368, 369, 91, 370, 371, 372, 373, 376, 378, 6, 379, 380, 382, 7, 383, 384, 385, 87, 386, 260, 262, 264, 266, 268, 270, 208, 210, 225, 227, 229, 231, 233, 235] (by decide +kernel) (by decide +kernel)
set_option maxRecDepth 100000 in
theorem gL_law_X11_firstError : GoodIn lw_tbl (wsV RL 107 RX11 yX11_firstError wsX11_firstError) := goodIn_app (goodIn_r _ [340, 341, 342, 70] (by decide +kernel) (by decide +kernel)) ggL_law_X11_firstError
set_option maxRecDepth 100000 in
theorem ggL_law_X12_firstError : GoodIn lw_tbl wsX12_firstError := goodIn_r _ [1099, 922, 1100, 1102, 39, 78, 1103, 932, 926, 931, 927, 1104, 1106, 40, 1107, 933, 1108, 1110, 41, 1111, 980, 981, 982, 1112, 1114, 42, 1115, 1116, 1117, 1118, 1013, 1014, 1015, 936, 938, 940, 942, 944, 946, 948, 950, 952, 954, 956, 958, 960, 962] (by decide +kernel) (by decide +kernel)
set_option maxRecDepth 100000 in
theorem gL_law_X12_firstError : GoodIn lw_tbl (wsV RL 110 RX12 yX12_firstError wsX12_firstError) := goodIn_app (goodIn_r _ [1096, 1097, 1098, 78] (by decide +kernel) (by decide +kernel)) ggL_law_X12_firstError
set_option maxRecDepth 100000 in
theorem ggL_law_L_load : GoodIn lw_tbl wsL_load := goodIn_ca (goodIn_ca (goodIn_r _ [849, 714, 715, 850, 851, 852, 70, 853, 498, 82, 724, 83, 258, 257, 255, 254, 170, 256, 207, 119, 854, 855, 856, 76, 857, 206, 224, 858, 345, 346, 347, 202, 348, 350, 2, 351, 219, 220, 221, 222, 223, 352, 334, 84, 335, 353, 355, 3, 356, 357, 359, 4, 360, 361, 362, 90, 363, 364, 366, 5, 367, 368, 369, 91, 370, 371, 372, 373, 376, 378, 6, 379, 380, 382, 7, 383, 384, 385, 87, 386, 860, 290, 291, 71, 292, 169, 171, 293, 294, 295, 72, 296, 114, 115, 117, 297, 298, 299, 300, 301, 85, 302, 303, 305, 304, 86, 306, 307, 308, 73, 309, 134, 136, 137, 139, 140, 142, 144, 146, 147, 310, 311, 312, 313, 861, 862, 863, 864, 865, 816, 817, 818, 465, 466, 467, 468, 404, 405, 406, 866, 830, 831, 832, 797, 759, 760, 277, 278, 279, 74, 280, 188, 187, 281, 283, 0, 284, 285, 287, 1, 288, 289, 868, 776, 749, 750, 751, 752, 753, 754, 755, 756, 453, 454, 455, 456, 457, 458, 459, 460, 461, 462, 463, 464, 326, 327, 328, 757, 401, 402, 403, 758, 761, 422, 423, 424, 762, 426, 427, 428, 429, 430, 763, 319, 320, 321, 322, 323, 324, 325, 329, 330, 331, 332, 333, 260, 262, 264, 266, 268, 270, 173, 175, 208, 210, 120, 122, 124, 225, 227, 229, 231, 233, 235, 149, 151, 153, 155, 157, 159, 161, 163, 165, 190, 192] (by decide +kernel) (by decide +kernel)) (goodIn_sub in_x0 (by decide +kernel))) (goodIn_sub in_x1 (by decide +kernel))
set_option maxRecDepth 100000 in
theorem gL_law_L_load : GoodIn lw_tbl (va_wsS RL 111 yL_load wsL_load) := goodIn_app (goodIn_r _ [847, 848, 69] (by decide +kernel) (by decide +kernel)) ggL_law_L_load
set_option maxRecDepth 100000 in
theorem ggL_law_X12_load : GoodIn lw_tbl wsX12_load := goodIn_r _ [1122, 926, 931, 933, 932, 922, 923, 1100, 1102, 39, 78, 1103, 927, 1104, 1106, 40, 1107, 1108, 1110, 41, 1111, 980, 981, 982, 1112, 1114, 42, 1115, 1116, 1117, 1118, 1013, 1014, 1015, 1123, 1125, 43, 1126, 1127, 1129, 44, 1130, 930, 1131, 1133, 45, 1134, 1006, 1007, 1008, 1080, 1082, 37, 1083, 1084, 1086, 38, 1087, 1135, 1137, 46, 1138, 983, 985, 21, 986, 924, 925, 991, 993, 23, 994, 928, 929, 995, 997, 24, 998, 999, 1000, 1001, 1002, 1004, 25, 1005, 1009, 1011, 26, 1012, 1016, 1018, 27, 1019, 1020, 1022, 28, 1023, 936, 938, 940, 942, 944, 946, 948, 950, 952, 954, 956, 958, 960, 962] (by decide +kernel) (by decide +kernel)
set_option maxRecDepth 100000 in
theorem gL_law_X12_load : GoodIn lw_tbl (wsV RL 113 RX12 yX12_load wsX12_load) := goodIn_app (goodIn_r _ [1119, 1120, 1121, 78] (by decide +kernel) (by decide +kernel)) ggL_law_X12_load
set_option maxRecDepth 100000 in
theorem ggL_law_L_undo : GoodIn lw_tbl wsL_undo := goodIn_ca (goodIn_r _ [871, 715, 872, 873, 874, 70, 875, 724, 83, 256, 189, 254, 877, 878, 879, 74, 880, 188, 285, 287, 1, 288, 187, 289, 290, 291, 71, 292, 169, 171, 293, 294, 295, 72, 296, 114, 115, 117, 297, 298, 84, 299, 300, 301, 85, 302, 303, 305, 304, 86, 306, 307, 308, 73, 309, 134, 136, 137, 139, 140, 142, 144, 146, 147, 310, 311, 312, 313, 260, 262, 264, 266, 268, 270, 190, 192, 173, 175, 120, 122, 124, 149, 151, 153, 155, 157, 159, 161, 163, 165] (by decide +kernel) (by decide +kernel)) (goodIn_sub in_x1 (by decide +kernel))
set_option maxRecDepth 100000 in
theorem gL_law_L_undo : GoodIn lw_tbl (va_wsS RL 114 yL_undo wsL_undo) := goodIn_app (goodIn_r _ [869, 870, 69] (by decide +kernel) (by decide +kernel)) ggL_law_L_undo
