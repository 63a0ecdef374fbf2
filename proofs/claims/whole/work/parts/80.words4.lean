set_option maxRecDepth 100000 in
theorem ggL_law_X12_undo : GoodIn lw_tbl wsX12_undo := goodIn_r _ [972, 924, 922, 923, 925, 936, 938, 940, 942, 944, 946, 948, 950, 952, 954, 956, 958, 960, 962] (by decide +kernel) (by decide +kernel)
set_option maxRecDepth 100000 in
theorem gL_law_X12_undo : GoodIn lw_tbl (wsV RL 116 RX12 yX12_undo wsX12_undo) := goodIn_app (goodIn_r _ [969, 970, 971, 78] (by decide +kernel) (by decide +kernel)) ggL_law_X12_undo
set_option maxRecDepth 100000 in
theorem ggL_law_L_strokeAt : GoodIn lw_tbl wsL_strokeAt := goodIn_ca (goodIn_ca (goodIn_r _ [883, 788, 714, 884, 610, 611, 70, 612, 613, 88, 498, 82, 254, 172, 141, 135, 630, 334, 84, 335, 631, 483, 89, 484, 485, 486, 487, 632, 633, 634, 73, 635, 142, 329, 330, 331, 332, 136, 140, 333, 260, 262, 264, 266, 268, 270, 173, 175, 149, 151, 153, 155, 157, 159, 161, 163, 165] (by decide +kernel) (by decide +kernel)) (goodIn_sub in_x2 (by decide +kernel))) (goodIn_sub in_x0 (by decide +kernel))
set_option maxRecDepth 100000 in
theorem gL_law_L_strokeAt : GoodIn lw_tbl (va_wsS RL 117 yL_strokeAt wsL_strokeAt) := goodIn_app (goodIn_r _ [881, 882, 69] (by decide +kernel) (by decide +kernel)) ggL_law_L_strokeAt
set_option maxRecDepth 100000 in
theorem ggL_law_X12_strokeAt : GoodIn lw_tbl wsX12_strokeAt := goodIn_r _ [1142, 923, 922, 980, 981, 78, 982, 1143, 1145, 47, 1146, 1147, 1148, 1149, 1150, 1152, 48, 1153, 1068, 1070, 34, 1071, 999, 1000, 1001, 936, 938, 940, 942, 944, 946, 948, 950, 952, 954, 956, 958, 960, 962] (by decide +kernel) (by decide +kernel)
set_option maxRecDepth 100000 in
theorem gL_law_X12_strokeAt : GoodIn lw_tbl (wsV RL 119 RX12 yX12_strokeAt wsX12_strokeAt) := goodIn_app (goodIn_r _ [1139, 1140, 1141, 78] (by decide +kernel) (by decide +kernel)) ggL_law_X12_strokeAt
set_option maxRecDepth 100000 in
theorem ggL_law_L_item : GoodIn lw_tbl wsL_item := goodIn_ca (goodIn_ca (goodIn_r _ [887, 788, 714, 888, 638, 639, 70, 640, 613, 88, 498, 82, 254, 172, 138, 145, 641, 643, 17, 644, 143, 636, 478, 479, 73, 480, 139, 134, 481, 405, 84, 406, 329, 330, 331, 332, 142, 136, 140, 333, 334, 335, 482, 483, 89, 484, 485, 486, 487, 488, 412, 90, 413, 414, 415, 416, 647, 648, 649, 650, 651, 630, 652, 653, 654, 655, 656, 657, 91, 658, 371, 372, 373, 659, 260, 262, 264, 266, 268, 270, 173, 175, 149, 151, 153, 155, 157, 159, 161, 163, 165] (by decide +kernel) (by decide +kernel)) (goodIn_sub in_x2 (by decide +kernel))) (goodIn_sub in_x0 (by decide +kernel))
set_option maxRecDepth 100000 in
theorem gL_law_L_item : GoodIn lw_tbl (va_wsS RL 120 yL_item wsL_item) := goodIn_app (goodIn_r _ [885, 886, 69] (by decide +kernel) (by decide +kernel)) ggL_law_L_item
set_option maxRecDepth 100000 in
theorem ggL_law_X12_item : GoodIn lw_tbl wsX12_item := goodIn_r _ [1157, 922, 923, 1064, 1066, 33, 78, 1067, 980, 981, 982, 999, 1000, 1001, 1158, 1160, 49, 1161, 1068, 1070, 34, 1071, 936, 938, 940, 942, 944, 946, 948, 950, 952, 954, 956, 958, 960, 962] (by decide +kernel) (by decide +kernel)
set_option maxRecDepth 100000 in
theorem gL_law_X12_item : GoodIn lw_tbl (wsV RL 122 RX12 yX12_item wsX12_item) := goodIn_app (goodIn_r _ [1154, 1155, 1156, 78] (by decide +kernel) (by decide +kernel)) ggL_law_X12_item
set_option maxRecDepth 100000 in
theorem ggL_law_L_entry : GoodIn lw_tbl wsL_entry := goodIn_ca (goodIn_ca (goodIn_r _ [891, 788, 714, 892, 665, 666, 70, 667, 613, 88, 498, 82, 254, 170, 172, 668, 670, 19, 671, 119, 674, 422, 423, 72, 424, 114, 404, 405, 84, 406, 675, 401, 402, 403, 115, 676, 426, 87, 427, 428, 429, 430, 677, 678, 679, 680, 681, 412, 90, 413, 414, 415, 416, 682, 576, 577, 578, 579, 580, 582, 12, 583, 117, 584, 462, 463, 464, 585, 587, 13, 588, 465, 466, 467, 468, 589, 590, 591, 592, 594, 14, 595, 596, 598, 15, 599, 600, 567, 568, 569, 73, 570, 144, 142, 137, 333, 334, 335, 683, 260, 262, 264, 266, 268, 270, 173, 175, 120, 122, 124, 149, 151, 153, 155, 157, 159, 161, 163, 165] (by decide +kernel) (by decide +kernel)) (goodIn_sub in_x2 (by decide +kernel))) (goodIn_sub in_x0 (by decide +kernel))
set_option maxRecDepth 100000 in
theorem gL_law_L_entry : GoodIn lw_tbl (va_wsS RL 123 yL_entry wsL_entry) := goodIn_app (goodIn_r _ [889, 890, 69] (by decide +kernel) (by decide +kernel)) ggL_law_L_entry
set_option maxRecDepth 100000 in
theorem ggL_law_X12_entry : GoodIn lw_tbl wsX12_entry := goodIn_r _ [1165, 922, 1040, 1042, 29, 78, 1043, 923, 980, 981, 982, 1166, 1168, 50, 1169, 1006, 1007, 1008, 1170, 1172, 51, 1173, 1084, 1086, 38, 1087, 1052, 1054, 31, 1055, 1174, 1176, 52, 1177, 1056, 1058, 32, 1059, 999, 1000, 1001, 936, 938, 940, 942, 944, 946, 948, 950, 952, 954, 956, 958, 960, 962] (by decide +kernel) (by decide +kernel)
set_option maxRecDepth 100000 in
theorem gL_law_X12_entry : GoodIn lw_tbl (wsV RL 125 RX12 yX12_entry wsX12_entry) := goodIn_app (goodIn_r _ [1162, 1163, 1164, 78] (by decide +kernel) (by decide +kernel)) ggL_law_X12_entry
set_option maxRecDepth 100000 in
theorem ggL_law_L_count : GoodIn lw_tbl wsL_count := goodIn_ca (goodIn_r _ [895, 714, 896, 495, 496, 70, 497, 498, 82, 254, 172, 141, 143, 145, 170, 119, 148, 256, 189, 566, 323, 324, 73, 325, 140, 146, 473, 474, 475, 476, 142, 477, 478, 479, 480, 139, 134, 481, 405, 84, 406, 329, 330, 331, 332, 136, 333, 334, 335, 482, 483, 89, 484, 485, 486, 487, 488, 412, 90, 413, 414, 415, 416, 567, 568, 569, 570, 144, 137, 571, 572, 573, 72, 574, 117, 575, 576, 577, 578, 579, 422, 423, 424, 114, 404, 580, 582, 12, 583, 584, 426, 87, 427, 428, 429, 430, 462, 463, 464, 585, 587, 13, 588, 465, 466, 467, 468, 589, 590, 591, 592, 594, 14, 595, 596, 598, 15, 599, 600, 401, 402, 403, 115, 260, 262, 264, 266, 268, 270, 173, 175, 149, 151, 153, 155, 157, 159, 161, 163, 165, 120, 122, 124, 190, 192] (by decide +kernel) (by decide +kernel)) (goodIn_sub in_x0 (by decide +kernel))
set_option maxRecDepth 100000 in
theorem gL_law_L_count : GoodIn lw_tbl (va_wsS RL 126 yL_count wsL_count) := goodIn_app (goodIn_r _ [893, 894, 69] (by decide +kernel) (by decide +kernel)) ggL_law_L_count
