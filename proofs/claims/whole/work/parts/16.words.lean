theorem inP {ws : List Cond} (ps : List Nat) (h : ws = ps.filterMap (fun i => lw_tbl[i]?)) : ∀ w ∈ ws, w ∈ lw_tbl := by
  intro w hw
  rw [h] at hw
  obtain ⟨i, -, hi⟩ := List.mem_filterMap.mp hw
  exact List.mem_of_getElem? hi
set_option maxRecDepth 100000 in
theorem in_wsX00 : ∀ w ∈ wsX00, w ∈ lw_tbl := inP [208, 210] (by decide +kernel)
set_option maxRecDepth 100000 in
theorem in_wsX10 : ∀ w ∈ wsX10, w ∈ lw_tbl := inP [120, 122, 124] (by decide +kernel)
set_option maxRecDepth 100000 in
theorem in_wsX20 : ∀ w ∈ wsX20, w ∈ lw_tbl := inP [190, 192] (by decide +kernel)
set_option maxRecDepth 100000 in
theorem in_wsX30 : ∀ w ∈ wsX30, w ∈ lw_tbl := inP [] (by decide +kernel)
set_option maxRecDepth 100000 in
theorem in_wsX40 : ∀ w ∈ wsX40, w ∈ lw_tbl := inP [225, 227, 229, 231, 233, 235] (by decide +kernel)
set_option maxRecDepth 100000 in
theorem in_wsX50 : ∀ w ∈ wsX50, w ∈ lw_tbl := inP [] (by decide +kernel)
set_option maxRecDepth 100000 in
theorem in_wsX60 : ∀ w ∈ wsX60, w ∈ lw_tbl := inP [] (by decide +kernel)
set_option maxRecDepth 100000 in
theorem in_wsX70 : ∀ w ∈ wsX70, w ∈ lw_tbl := inP [149, 151, 153, 155, 157, 159, 161, 163, 165] (by decide +kernel)
set_option maxRecDepth 100000 in
theorem in_wsX80 : ∀ w ∈ wsX80, w ∈ lw_tbl := inP [173, 175] (by decide +kernel)
set_option maxRecDepth 100000 in
theorem in_wsX90 : ∀ w ∈ wsX90, w ∈ lw_tbl := inP [] (by decide +kernel)
set_option maxRecDepth 100000 in
theorem in_wsX100 : ∀ w ∈ wsX100, w ∈ lw_tbl := inP [247, 249, 251] (by decide +kernel)
set_option maxRecDepth 100000 in
theorem in_wsX110 : ∀ w ∈ wsX110, w ∈ lw_tbl := inP [260, 262, 264, 266, 268, 270] (by decide +kernel)
set_option maxRecDepth 100000 in
theorem in_wsX120 : ∀ w ∈ wsX120, w ∈ lw_tbl := inP [936, 938, 940, 942, 944, 946, 948, 950, 952, 954, 956, 958, 960, 962] (by decide +kernel)
set_option maxRecDepth 100000 in
theorem in_wsJxe99ae0 : ∀ w ∈ wsJxe99ae0, w ∈ lw_tbl := inP [] (by decide +kernel)
set_option maxRecDepth 100000 in
theorem in_wsJ60 : ∀ w ∈ wsJ60, w ∈ lw_tbl := inP [] (by decide +kernel)
set_option maxRecDepth 100000 in
theorem in_wsJ130 : ∀ w ∈ wsJ130, w ∈ lw_tbl := inP [] (by decide +kernel)
set_option maxRecDepth 100000 in
theorem in_wsJ90 : ∀ w ∈ wsJ90, w ∈ lw_tbl := inP [] (by decide +kernel)
set_option maxRecDepth 100000 in
theorem in_wsJ00 : ∀ w ∈ wsJ00, w ∈ lw_tbl := inP [] (by decide +kernel)
set_option maxRecDepth 100000 in
theorem in_wsJ100 : ∀ w ∈ wsJ100, w ∈ lw_tbl := inP [] (by decide +kernel)
set_option maxRecDepth 100000 in
theorem in_x0 : ∀ w ∈ (vx_atS RX11 55 "java/lang/IllegalArgumentException" ["java/lang/RuntimeException", "java/lang/Exception"]).filter goodWord, w ∈ lw_tbl := inP [79, 520, 529, 533, 536, 538, 521, 522, 100, 101, 523, 528, 534, 554, 510, 555, 512, 556, 514, 524, 526, 516, 550, 551, 553, 516, 541, 542, 543, 544, 544, 545, 546, 547, 547, 548, 549, 550, 540, 499, 507, 508, 509, 511, 513, 515, 519, 518, 517] (by decide +kernel)
set_option maxRecDepth 100000 in
theorem in_x1 : ∀ w ∈ (vx_atS RX11 72 "java/lang/IllegalStateException" ["java/lang/RuntimeException", "java/lang/Exception"]).filter goodWord, w ∈ lw_tbl := inP [79, 520, 529, 533, 536, 538, 521, 522, 100, 101, 523, 528, 534, 554, 510, 555, 512, 556, 514, 524, 526, 516, 550, 551, 553, 516, 735, 736, 737, 544, 544, 545, 546, 547, 547, 548, 549, 550, 734, 725, 727, 531, 728, 729, 730, 731, 519, 518, 732] (by decide +kernel)
set_option maxRecDepth 100000 in
theorem in_x2 : ∀ w ∈ (vx_atS RX11 121 "java/lang/IndexOutOfBoundsException" ["java/lang/RuntimeException", "java/lang/Exception"]).filter goodWord, w ∈ lw_tbl := inP [79, 520, 529, 533, 536, 538, 521, 522, 100, 101, 523, 528, 534, 554, 510, 555, 512, 556, 514, 524, 526, 516, 550, 551, 553, 516, 624, 625, 626, 544, 544, 545, 546, 547, 547, 548, 549, 550, 623, 614, 616, 532, 617, 618, 619, 620, 519, 518, 621] (by decide +kernel)
set_option maxRecDepth 100000 in
theorem ggL_law_X11_init : GoodIn lw_tbl wsX11_init := goodIn_r _ [98, 99, 100, 101, 102, 103, 71, 254, 255, 178, 179, 74, 256, 195, 196, 75, 257, 213, 214, 76, 258, 238, 239, 77, 259, 105, 106, 107, 108, 109, 72, 169, 128, 129, 73, 171, 111, 112, 113, 127, 114, 115, 117, 131, 132, 133, 168, 134, 136, 137, 139, 140, 142, 144, 146, 147, 180, 181, 182, 183, 184, 187, 188, 198, 199, 200, 201, 204, 216, 217, 218, 219, 220, 221, 222, 223, 224, 241, 242, 243, 244, 245, 246, 173, 175, 260, 262, 264, 266, 268, 270, 190, 192, 208, 210, 225, 227, 229, 231, 233, 235, 247, 249, 251, 120, 122, 124, 149, 151, 153, 155, 157, 159, 161, 163, 165] (by decide +kernel) (by decide +kernel)
set_option maxRecDepth 100000 in
theorem gL_law_X11_init : GoodIn lw_tbl (wsX11_init) := ggL_law_X11_init
set_option maxRecDepth 100000 in
theorem ggL_law_X12_init : GoodIn lw_tbl wsX12_init := goodIn_r _ [920, 921, 100, 101, 168, 923, 925, 927, 929, 930, 933, 934, 936, 938, 940, 942, 944, 946, 948, 950, 952, 954, 956, 958, 960, 962] (by decide +kernel) (by decide +kernel)
set_option maxRecDepth 100000 in
theorem gL_law_X12_init : GoodIn lw_tbl (wsX12_init) := ggL_law_X12_init
set_option maxRecDepth 100000 in
theorem ggL_law_L_stroke : GoodIn lw_tbl wsL_stroke := goodIn_ca (goodIn_ca (goodIn_r _ [713, 714, 715, 716, 717, 718, 70, 719, 498, 82, 724, 83, 254, 172, 141, 256, 143, 720, 721, 722, 277, 278, 279, 74, 280, 188, 187, 281, 283, 0, 284, 285, 287, 1, 288, 289, 290, 291, 71, 292, 169, 171, 293, 294, 295, 72, 296, 114, 115, 117, 297, 298, 84, 299, 300, 301, 85, 302, 303, 305, 304, 86, 306, 307, 308, 73, 309, 134, 136, 137, 139, 140, 142, 144, 146, 147, 310, 311, 312, 313, 740, 741, 742, 743, 744, 745, 746, 747, 326, 327, 328, 748, 749, 750, 751, 752, 753, 754, 755, 756, 453, 454, 455, 456, 457, 458, 87, 459, 460, 334, 335, 461, 385, 386, 462, 463, 464, 465, 466, 467, 468, 404, 405, 406, 757, 401, 402, 403, 758, 759, 760, 761, 422, 423, 424, 762, 426, 427, 428, 429, 430, 763, 319, 320, 321, 322, 323, 324, 325, 329, 330, 331, 332, 333, 260, 262, 264, 266, 268, 270, 173, 175, 149, 151, 153, 155, 157, 159, 161, 163, 165, 190, 192, 120, 122, 124] (by decide +kernel) (by decide +kernel)) (goodIn_sub in_x0 (by decide +kernel))) (goodIn_sub in_x1 (by decide +kernel))
set_option maxRecDepth 100000 in
theorem gL_law_L_stroke : GoodIn lw_tbl (va_wsS RL 70 yL_stroke wsL_stroke) := goodIn_app (goodIn_r _ [711, 712, 69] (by decide +kernel) (by decide +kernel)) ggL_law_L_stroke
set_option maxRecDepth 100000 in
theorem ggL_law_X12_stroke : GoodIn lw_tbl wsX12_stroke := goodIn_r _ [976, 923, 922, 977, 978, 78, 979, 980, 981, 982, 983, 985, 21, 986, 924, 925, 987, 989, 22, 990, 991, 993, 23, 994, 928, 929, 995, 997, 24, 998, 999, 1000, 1001, 1002, 1004, 25, 1005, 1006, 1007, 1008, 1009, 1011, 26, 1012, 1013, 1014, 1015, 1016, 1018, 27, 1019, 1020, 1022, 28, 1023, 936, 938, 940, 942, 944, 946, 948, 950, 952, 954, 956, 958, 960, 962] (by decide +kernel) (by decide +kernel)
set_option maxRecDepth 100000 in
theorem gL_law_X12_stroke : GoodIn lw_tbl (wsV RL 75 RX12 yX12_stroke wsX12_stroke) := goodIn_app (goodIn_r _ [973, 974, 975, 78] (by decide +kernel) (by decide +kernel)) ggL_law_X12_stroke
set_option maxRecDepth 100000 in
theorem ggL_law_X12_thrown : GoodIn lw_tbl wsX12_thrown := goodIn_r _ [968, 922, 936, 938, 940, 942, 944, 946, 948, 950, 952, 954, 956, 958, 960, 962] (by decide +kernel) (by decide +kernel)
set_option maxRecDepth 100000 in
theorem gL_law_X12_thrown : GoodIn lw_tbl (wsV RL 76 RX12 yX12_thrown wsX12_thrown) := goodIn_app (goodIn_r _ [965, 966, 967, 78] (by decide +kernel) (by decide +kernel)) ggL_law_X12_thrown
set_option maxRecDepth 100000 in
theorem ggL_law_L_takeBack : GoodIn lw_tbl wsL_takeBack := goodIn_ca (goodIn_r _ [766, 715, 767, 768, 769, 70, 770, 724, 83, 254, 172, 141, 256, 135, 277, 278, 279, 74, 280, 188, 187, 281, 283, 0, 284, 285, 287, 1, 288, 289, 290, 291, 71, 292, 169, 171, 293, 294, 295, 72, 296, 114, 115, 117, 297, 298, 84, 299, 300, 301, 85, 302, 303, 305, 304, 86, 306, 307, 308, 73, 309, 134, 136, 137, 139, 140, 142, 144, 146, 147, 310, 311, 312, 313, 630, 334, 335, 772, 773, 774, 775, 322, 323, 324, 325, 333, 776, 749, 750, 751, 752, 753, 754, 755, 756, 453, 454, 455, 456, 457, 458, 87, 459, 460, 461, 385, 386, 462, 463, 464, 465, 466, 467, 468, 404, 405, 406, 326, 327, 328, 757, 401, 402, 403, 758, 759, 760, 761, 422, 423, 424, 762, 426, 427, 428, 429, 430, 763, 319, 320, 321, 329, 330, 331, 332, 260, 262, 264, 266, 268, 270, 173, 175, 149, 151, 153, 155, 157, 159, 161, 163, 165, 190, 192, 120, 122, 124] (by decide +kernel) (by decide +kernel)) (goodIn_sub in_x1 (by decide +kernel))
set_option maxRecDepth 100000 in
theorem gL_law_L_takeBack : GoodIn lw_tbl (va_wsS RL 79 yL_takeBack wsL_takeBack) := goodIn_app (goodIn_r _ [764, 765, 69] (by decide +kernel) (by decide +kernel)) ggL_law_L_takeBack
set_option maxRecDepth 100000 in
theorem ggL_law_X12_takeBack : GoodIn lw_tbl wsX12_takeBack := goodIn_r _ [1027, 923, 922, 983, 985, 21, 78, 986, 924, 925, 1016, 1018, 27, 1019, 995, 997, 24, 998, 999, 1000, 1001, 991, 993, 23, 994, 928, 929, 1002, 1004, 25, 1005, 1006, 1007, 1008, 1009, 1011, 26, 1012, 1013, 1014, 1015, 1020, 1022, 28, 1023, 936, 938, 940, 942, 944, 946, 948, 950, 952, 954, 956, 958, 960, 962] (by decide +kernel) (by decide +kernel)
set_option maxRecDepth 100000 in
theorem gL_law_X12_takeBack : GoodIn lw_tbl (wsV RL 82 RX12 yX12_takeBack wsX12_takeBack) := goodIn_app (goodIn_r _ [1024, 1025, 1026, 78] (by decide +kernel) (by decide +kernel)) ggL_law_X12_takeBack
set_option maxRecDepth 100000 in
theorem ggL_law_X11_fixAll : GoodIn lw_tbl wsX11_fixAll := goodIn_r _ [276, 256, 254, 172, 277, 278, 279, 74, 280, 188, 187, 281, 283, 0, 284, 285, 287, 1, 288, 289, 290, 291, 71, 292, 169, 171, 293, 294, 295, 72, 296, 114, 115, 117, 297, 298, 84, 299, 300, 301, 85, 302, 303, 305, 304, 86, 306, 307, 308, 73, 309, 134, 136, 137, 139, 140, 142, 144, 146, 147, 310, 311, 312, 313, 314, 315, 316, 317, 318, 319, 320, 321, 322, 323, 324, 325, 326, 327, 328, 329, 330, 331, 332, 333, 334, 335, 260, 262, 264, 266, 268, 270, 173, 175, 190, 192, 120, 122, 124, 149, 151, 153, 155, 157, 159, 161, 163, 165] (by decide +kernel) (by decide +kernel)
set_option maxRecDepth 100000 in
theorem gL_law_X11_fixAll : GoodIn lw_tbl (wsV RL 83 RX11 yX11_fixAll wsX11_fixAll) := goodIn_app (goodIn_r _ [273, 274, 275, 70] (by decide +kernel) (by decide +kernel)) ggL_law_X11_fixAll
set_option maxRecDepth 100000 in
theorem ggL_law_X12_fixAll : GoodIn lw_tbl wsX12_fixAll := goodIn_r _ [1031, 922, 923, 983, 985, 21, 78, 986, 924, 925, 1020, 1022, 28, 1023, 999, 1000, 1001, 936, 938, 940, 942, 944, 946, 948, 950, 952, 954, 956, 958, 960, 962] (by decide +kernel) (by decide +kernel)
set_option maxRecDepth 100000 in
theorem gL_law_X12_fixAll : GoodIn lw_tbl (wsV RL 86 RX12 yX12_fixAll wsX12_fixAll) := goodIn_app (goodIn_r _ [1028, 1029, 1030, 78] (by decide +kernel) (by decide +kernel)) ggL_law_X12_fixAll
set_option maxRecDepth 100000 in
theorem ggL_law_L_setWindow : GoodIn lw_tbl wsL_setWindow := goodIn_ca (goodIn_r _ [779, 714, 780, 781, 782, 70, 783, 498, 82, 256, 254, 172, 148, 277, 278, 279, 74, 280, 188, 187, 281, 283, 0, 284, 285, 287, 1, 288, 289, 290, 291, 71, 292, 169, 171, 293, 294, 295, 72, 296, 114, 115, 117, 297, 298, 84, 299, 300, 301, 85, 302, 303, 305, 304, 86, 306, 307, 308, 73, 309, 134, 136, 137, 139, 140, 142, 144, 146, 147, 310, 311, 312, 313, 318, 319, 320, 321, 322, 323, 324, 325, 326, 327, 328, 329, 330, 331, 332, 333, 334, 335, 260, 262, 264, 266, 268, 270, 173, 175, 149, 151, 153, 155, 157, 159, 161, 163, 165, 190, 192, 120, 122, 124] (by decide +kernel) (by decide +kernel)) (goodIn_sub in_x0 (by decide +kernel))
set_option maxRecDepth 100000 in
theorem gL_law_L_setWindow : GoodIn lw_tbl (va_wsS RL 87 yL_setWindow wsL_setWindow) := goodIn_app (goodIn_r _ [777, 778, 69] (by decide +kernel) (by decide +kernel)) ggL_law_L_setWindow
set_option maxRecDepth 100000 in
theorem ggL_law_X12_setWindow : GoodIn lw_tbl wsX12_setWindow := goodIn_r _ [1035, 922, 923, 980, 981, 78, 982, 983, 985, 21, 986, 924, 925, 991, 993, 23, 994, 928, 929, 995, 997, 24, 998, 999, 1000, 1001, 1002, 1004, 25, 1005, 1006, 1007, 1008, 1009, 1011, 26, 1012, 1013, 1014, 1015, 1016, 1018, 27, 1019, 1020, 1022, 28, 1023, 936, 938, 940, 942, 944, 946, 948, 950, 952, 954, 956, 958, 960, 962] (by decide +kernel) (by decide +kernel)
set_option maxRecDepth 100000 in
theorem gL_law_X12_setWindow : GoodIn lw_tbl (wsV RL 89 RX12 yX12_setWindow wsX12_setWindow) := goodIn_app (goodIn_r _ [1032, 1033, 1034, 78] (by decide +kernel) (by decide +kernel)) ggL_law_X12_setWindow
set_option maxRecDepth 100000 in
theorem ggL_law_L_removeEntry : GoodIn lw_tbl wsL_removeEntry := goodIn_ca (goodIn_r _ [787, 788, 789, 790, 791, 70, 792, 613, 88, 256, 254, 170, 172, 143, 668, 670, 19, 671, 119, 277, 278, 279, 74, 280, 188, 187, 281, 283, 0, 284, 285, 287, 1, 288, 289, 290, 291, 71, 292, 169, 171, 293, 294, 295, 72, 296, 114, 115, 117, 297, 298, 84, 299, 300, 301, 85, 302, 303, 305, 304, 86, 306, 307, 308, 73, 309, 134, 136, 137, 139, 140, 142, 144, 146, 147, 310, 311, 312, 313, 793, 794, 795, 796, 579, 422, 423, 424, 404, 405, 406, 797, 759, 760, 600, 401, 402, 403, 776, 749, 750, 751, 752, 753, 754, 755, 756, 453, 454, 455, 456, 457, 458, 87, 459, 460, 334, 335, 461, 385, 386, 462, 463, 464, 465, 466, 467, 468, 326, 327, 328, 757, 758, 761, 762, 426, 427, 428, 429, 430, 763, 319, 320, 321, 322, 323, 324, 325, 329, 330, 331, 332, 333, 260, 262, 264, 266, 268, 270, 173, 175, 149, 151, 153, 155, 157, 159, 161, 163, 165, 120, 122, 124, 190, 192] (by decide +kernel) (by decide +kernel)) (goodIn_sub in_x2 (by decide +kernel))
set_option maxRecDepth 100000 in
theorem gL_law_L_removeEntry : GoodIn lw_tbl (va_wsS RL 90 yL_removeEntry wsL_removeEntry) := goodIn_app (goodIn_r _ [785, 786, 69] (by decide +kernel) (by decide +kernel)) ggL_law_L_removeEntry
set_option maxRecDepth 100000 in
theorem ggL_law_X12_removeEntry : GoodIn lw_tbl wsX12_removeEntry := goodIn_r _ [1039, 922, 923, 1040, 1042, 29, 78, 1043, 980, 981, 982, 983, 985, 21, 986, 924, 925, 1044, 1046, 30, 1047, 1006, 1007, 1008, 991, 993, 23, 994, 928, 929, 995, 997, 24, 998, 999, 1000, 1001, 1002, 1004, 25, 1005, 1009, 1011, 26, 1012, 1013, 1014, 1015, 1016, 1018, 27, 1019, 1020, 1022, 28, 1023, 936, 938, 940, 942, 944, 946, 948, 950, 952, 954, 956, 958, 960, 962] (by decide +kernel) (by decide +kernel)
set_option maxRecDepth 100000 in
theorem gL_law_X12_removeEntry : GoodIn lw_tbl (wsV RL 92 RX12 yX12_removeEntry wsX12_removeEntry) := goodIn_app (goodIn_r _ [1036, 1037, 1038, 78] (by decide +kernel) (by decide +kernel)) ggL_law_X12_removeEntry
set_option maxRecDepth 100000 in
theorem ggL_law_L_renameEntry : GoodIn lw_tbl wsL_renameEntry := goodIn_ca (goodIn_r _ [800, 788, 801, 802, 803, 70, 804, 613, 88, 256, 254, 170, 116, 172, 668, 670, 19, 671, 119, 277, 278, 279, 74, 280, 188, 187, 281, 283, 0, 284, 285, 287, 1, 288, 289, 290, 291, 71, 292, 169, 171, 293, 294, 295, 72, 296, 114, 115, 117, 297, 298, 84, 299, 300, 301, 85, 302, 303, 305, 304, 86, 306, 307, 308, 73, 309, 134, 136, 137, 139, 140, 142, 144, 146, 147, 310, 311, 312, 313, 675, 401, 402, 403, 404, 405, 406, 805, 759, 760, 776, 749, 750, 751, 752, 753, 754, 755, 756, 453, 454, 455, 456, 457, 458, 87, 459, 460, 334, 335, 461, 385, 386, 462, 463, 464, 465, 466, 467, 468, 326, 327, 328, 757, 758, 761, 422, 423, 424, 762, 426, 427, 428, 429, 430, 763, 319, 320, 321, 322, 323, 324, 325, 329, 330, 331, 332, 333, 567, 568, 569, 570, 260, 262, 264, 266, 268, 270, 173, 175, 120, 122, 124, 190, 192, 149, 151, 153, 155, 157, 159, 161, 163, 165] (by decide +kernel) (by decide +kernel)) (goodIn_sub in_x2 (by decide +kernel))
set_option maxRecDepth 100000 in
theorem gL_law_L_renameEntry : GoodIn lw_tbl (va_wsS RL 93 yL_renameEntry wsL_renameEntry) := goodIn_app (goodIn_r _ [798, 799, 69] (by decide +kernel) (by decide +kernel)) ggL_law_L_renameEntry
set_option maxRecDepth 100000 in
theorem ggL_law_X12_renameEntry : GoodIn lw_tbl wsX12_renameEntry := goodIn_r _ [1051, 922, 923, 1040, 1042, 29, 78, 1043, 980, 981, 982, 983, 985, 21, 986, 924, 925, 1052, 1054, 31, 1055, 1006, 1007, 1008, 1056, 1058, 32, 1059, 999, 1000, 1001, 991, 993, 23, 994, 928, 929, 995, 997, 24, 998, 1002, 1004, 25, 1005, 1009, 1011, 26, 1012, 1013, 1014, 1015, 1016, 1018, 27, 1019, 1020, 1022, 28, 1023, 936, 938, 940, 942, 944, 946, 948, 950, 952, 954, 956, 958, 960, 962] (by decide +kernel) (by decide +kernel)
set_option maxRecDepth 100000 in
theorem gL_law_X12_renameEntry : GoodIn lw_tbl (wsV RL 96 RX12 yX12_renameEntry wsX12_renameEntry) := goodIn_app (goodIn_r _ [1048, 1049, 1050, 78] (by decide +kernel) (by decide +kernel)) ggL_law_X12_renameEntry
set_option maxRecDepth 100000 in
theorem ggL_law_L_learn : GoodIn lw_tbl wsL_learn := goodIn_ca (goodIn_ca (goodIn_ca (goodIn_r _ [808, 788, 714, 715, 809, 810, 811, 70, 812, 613, 88, 498, 82, 724, 83, 254, 172, 135, 170, 256, 119, 641, 643, 17, 644, 143, 647, 330, 331, 73, 332, 142, 136, 140, 333, 334, 84, 335, 814, 458, 87, 459, 460, 461, 385, 386, 815, 816, 817, 72, 818, 117, 465, 466, 467, 468, 114, 404, 405, 406, 277, 278, 279, 74, 280, 188, 187, 281, 283, 0, 284, 285, 287, 1, 288, 289, 290, 291, 71, 292, 169, 171, 293, 294, 295, 296, 115, 297, 298, 299, 300, 301, 85, 302, 303, 305, 304, 86, 306, 307, 308, 309, 134, 137, 139, 144, 146, 147, 310, 311, 312, 313, 820, 821, 822, 823, 477, 478, 479, 480, 481, 329, 482, 483, 89, 484, 485, 486, 487, 488, 412, 90, 413, 414, 415, 416, 824, 653, 654, 655, 656, 657, 91, 658, 371, 372, 373, 659, 825, 826, 827, 828, 362, 363, 829, 830, 831, 832, 797, 759, 760, 776, 749, 750, 751, 752, 753, 754, 755, 756, 453, 454, 455, 456, 457, 462, 463, 464, 326, 327, 328, 757, 401, 402, 403, 758, 761, 422, 423, 424, 762, 426, 427, 428, 429, 430, 763, 319, 320, 321, 322, 323, 324, 325, 260, 262, 264, 266, 268, 270, 173, 175, 149, 151, 153, 155, 157, 159, 161, 163, 165, 120, 122, 124, 190, 192] (by decide +kernel) (by decide +kernel)) (goodIn_sub in_x2 (by decide +kernel))) (goodIn_sub in_x0 (by decide +kernel))) (goodIn_sub in_x1 (by decide +kernel))
set_option maxRecDepth 100000 in
theorem gL_law_L_learn : GoodIn lw_tbl (va_wsS RL 97 yL_learn wsL_learn) := goodIn_app (goodIn_r _ [806, 807, 69] (by decide +kernel) (by decide +kernel)) ggL_law_L_learn
set_option maxRecDepth 100000 in
theorem ggL_law_X12_learn : GoodIn lw_tbl wsX12_learn := goodIn_r _ [1063, 922, 923, 1064, 1066, 33, 78, 1067, 980, 981, 982, 1068, 1070, 34, 1071, 999, 1000, 1001, 1072, 1074, 35, 1075, 1076, 1078, 36, 1079, 1006, 1007, 1008, 1080, 1082, 37, 1083, 1084, 1086, 38, 1087, 983, 985, 21, 986, 924, 925, 991, 993, 23, 994, 928, 929, 995, 997, 24, 998, 1002, 1004, 25, 1005, 1009, 1011, 26, 1012, 1013, 1014, 1015, 1016, 1018, 27, 1019, 1020, 1022, 28, 1023, 936, 938, 940, 942, 944, 946, 948, 950, 952, 954, 956, 958, 960, 962] (by decide +kernel) (by decide +kernel)
set_option maxRecDepth 100000 in
theorem gL_law_X12_learn : GoodIn lw_tbl (wsV RL 99 RX12 yX12_learn wsX12_learn) := goodIn_app (goodIn_r _ [1060, 1061, 1062, 78] (by decide +kernel) (by decide +kernel)) ggL_law_X12_learn
set_option maxRecDepth 100000 in
theorem ggL_law_L_append : GoodIn lw_tbl wsL_append := goodIn_ca (goodIn_ca (goodIn_r _ [835, 714, 715, 836, 837, 838, 70, 839, 498, 82, 724, 83, 257, 207, 842, 843, 844, 75, 845, 201, 204, 846, 327, 84, 328, 260, 262, 264, 266, 268, 270, 208, 210] (by decide +kernel) (by decide +kernel)) (goodIn_sub in_x0 (by decide +kernel))) (goodIn_sub in_x1 (by decide +kernel))
set_option maxRecDepth 100000 in
theorem gL_law_L_append : GoodIn lw_tbl (va_wsS RL 100 yL_append wsL_append) := goodIn_app (goodIn_r _ [833, 834, 69] (by decide +kernel) (by decide +kernel)) ggL_law_L_append
set_option maxRecDepth 100000 in
theorem ggL_law_X12_append : GoodIn lw_tbl wsX12_append := goodIn_r _ [1091, 926, 922, 927, 980, 981, 78, 982, 936, 938, 940, 942, 944, 946, 948, 950, 952, 954, 956, 958, 960, 962] (by decide +kernel) (by decide +kernel)
set_option maxRecDepth 100000 in
theorem gL_law_X12_append : GoodIn lw_tbl (wsV RL 102 RX12 yX12_append wsX12_append) := goodIn_app (goodIn_r _ [1088, 1089, 1090, 78] (by decide +kernel) (by decide +kernel)) ggL_law_X12_append
set_option maxRecDepth 100000 in
theorem ggL_law_X11_clearBuffer : GoodIn lw_tbl wsX11_clearBuffer := goodIn_r _ [339, 257, 207, 260, 262, 264, 266, 268, 270, 208, 210] (by decide +kernel) (by decide +kernel)
set_option maxRecDepth 100000 in
theorem gL_law_X11_clearBuffer : GoodIn lw_tbl (wsV RL 103 RX11 yX11_clearBuffer wsX11_clearBuffer) := goodIn_app (goodIn_r _ [336, 337, 338, 70] (by decide +kernel) (by decide +kernel)) ggL_law_X11_clearBuffer
set_option maxRecDepth 100000 in
theorem ggL_law_X12_clearBuffer : GoodIn lw_tbl wsX12_clearBuffer := goodIn_r _ [1095, 922, 926, 936, 938, 940, 942, 944, 946, 948, 950, 952, 954, 956, 958, 960, 962] (by decide +kernel) (by decide +kernel)
set_option maxRecDepth 100000 in
theorem gL_law_X12_clearBuffer : GoodIn lw_tbl (wsV RL 106 RX12 yX12_clearBuffer wsX12_clearBuffer) := goodIn_app (goodIn_r _ [1092, 1093, 1094, 78] (by decide +kernel) (by decide +kernel)) ggL_law_X12_clearBuffer
set_option maxRecDepth 100000 in
theorem ggL_law_X11_firstError : GoodIn lw_tbl wsX11_firstError := goodIn_r _ [343, 258, 257, 344, 345, 346, 76, 347, 206, 202, 348, 350, 2, 351, 219, 220, 221, 222, 223, 224, 352, 334, 84, 335, 353, 355, 3, 356, 357, 359, 4, 360, 361, 362, 90, 363, 364, 366, 5, 367, 368, 369, 91, 370, 371, 372, 373, 376, 378, 6, 379, 380, 382, 7, 383, 384, 385, 87, 386, 260, 262, 264, 266, 268, 270, 208, 210, 225, 227, 229, 231, 233, 235] (by decide +kernel) (by decide +kernel)
set_option maxRecDepth 100000 in
theorem gL_law_X11_firstError : GoodIn lw_tbl (wsV RL 107 RX11 yX11_firstError wsX11_firstError) := goodIn_app (goodIn_r _ [340, 341, 342, 70] (by decide +kernel) (by decide +kernel)) ggL_law_X11_firstError
set_option maxRecDepth 100000 in
theorem ggL_law_X12_firstError : GoodIn lw_tbl wsX12_firstError := goodIn_r _ [1099, 922, 1100, 1102, 39, 78, 1103, 932, 926, 931, 927, 1104, 1106, 40, 1107, 933, 1108, 1110, 41, 1111, 980, 981, 982, 1112, 1114, 42, 1115, 1116, 1117, 1118, 1013, 1014, 1015, 936, 938, 940, 942, 944, 946, 948, 950, 952, 954, 956, 958, 960, 962] (by decide +kernel) (by decide +kernel)
set_option maxRecDepth 100000 in
theorem gL_law_X12_firstError : GoodIn lw_tbl (wsV RL 110 RX12 yX12_firstError wsX12_firstError) := goodIn_app (goodIn_r _ [1096, 1097, 1098, 78] (by decide +kernel) (by decide +kernel)) ggL_law_X12_firstError
set_option maxRecDepth 100000 in
theorem ggL_law_L_load : GoodIn lw_tbl wsL_load := goodIn_ca (goodIn_ca (goodIn_r _ [849, 714, 715, 850, 851, 852, 70, 853, 498, 82, 724, 83, 258, 257, 255, 254, 170, 256, 207, 119, 854, 855, 856, 76, 857, 206, 224, 858, 345, 346, 347, 202, 348, 350, 2, 351, 219, 220, 221, 222, 223, 352, 334, 84, 335, 353, 355, 3, 356, 357, 359, 4, 360, 361, 362, 90, 363, 364, 366, 5, 367, 368, 369, 91, 370, 371, 372, 373, 376, 378, 6, 379, 380, 382, 7, 383, 384, 385, 87, 386, 860, 290, 291, 71, 292, 169, 171, 293, 294, 295, 72, 296, 114, 115, 117, 297, 298, 299, 300, 301, 85, 302, 303, 305, 304, 86, 306, 307, 308, 73, 309, 134, 136, 137, 139, 140, 142, 144, 146, 147, 310, 311, 312, 313, 861, 862, 863, 864, 865, 816, 817, 818, 465, 466, 467, 468, 404, 405, 406, 866, 830, 831, 832, 797, 759, 760, 277, 278, 279, 74, 280, 188, 187, 281, 283, 0, 284, 285, 287, 1, 288, 289, 868, 776, 749, 750, 751, 752, 753, 754, 755, 756, 453, 454, 455, 456, 457, 458, 459, 460, 461, 462, 463, 464, 326, 327, 328, 757, 401, 402, 403, 758, 761, 422, 423, 424, 762, 426, 427, 428, 429, 430, 763, 319, 320, 321, 322, 323, 324, 325, 329, 330, 331, 332, 333, 260, 262, 264, 266, 268, 270, 173, 175, 208, 210, 120, 122, 124, 225, 227, 229, 231, 233, 235, 149, 151, 153, 155, 157, 159, 161, 163, 165, 190, 192] (by decide +kernel) (by decide +kernel)) (goodIn_sub in_x0 (by decide +kernel))) (goodIn_sub in_x1 (by decide +kernel))
set_option maxRecDepth 100000 in
theorem gL_law_L_load : GoodIn lw_tbl (va_wsS RL 111 yL_load wsL_load) := goodIn_app (goodIn_r _ [847, 848, 69] (by decide +kernel) (by decide +kernel)) ggL_law_L_load
set_option maxRecDepth 100000 in
theorem ggL_law_X12_load : GoodIn lw_tbl wsX12_load := goodIn_r _ [1122, 926, 931, 933, 932, 922, 923, 1100, 1102, 39, 78, 1103, 927, 1104, 1106, 40, 1107, 1108, 1110, 41, 1111, 980, 981, 982, 1112, 1114, 42, 1115, 1116, 1117, 1118, 1013, 1014, 1015, 1123, 1125, 43, 1126, 1127, 1129, 44, 1130, 930, 1131, 1133, 45, 1134, 1006, 1007, 1008, 1080, 1082, 37, 1083, 1084, 1086, 38, 1087, 1135, 1137, 46, 1138, 983, 985, 21, 986, 924, 925, 991, 993, 23, 994, 928, 929, 995, 997, 24, 998, 999, 1000, 1001, 1002, 1004, 25, 1005, 1009, 1011, 26, 1012, 1016, 1018, 27, 1019, 1020, 1022, 28, 1023, 936, 938, 940, 942, 944, 946, 948, 950, 952, 954, 956, 958, 960, 962] (by decide +kernel) (by decide +kernel)
set_option maxRecDepth 100000 in
theorem gL_law_X12_load : GoodIn lw_tbl (wsV RL 113 RX12 yX12_load wsX12_load) := goodIn_app (goodIn_r _ [1119, 1120, 1121, 78] (by decide +kernel) (by decide +kernel)) ggL_law_X12_load
set_option maxRecDepth 100000 in
theorem ggL_law_L_undo : GoodIn lw_tbl wsL_undo := goodIn_ca (goodIn_r _ [871, 715, 872, 873, 874, 70, 875, 724, 83, 256, 189, 254, 877, 878, 879, 74, 880, 188, 285, 287, 1, 288, 187, 289, 290, 291, 71, 292, 169, 171, 293, 294, 295, 72, 296, 114, 115, 117, 297, 298, 84, 299, 300, 301, 85, 302, 303, 305, 304, 86, 306, 307, 308, 73, 309, 134, 136, 137, 139, 140, 142, 144, 146, 147, 310, 311, 312, 313, 260, 262, 264, 266, 268, 270, 190, 192, 173, 175, 120, 122, 124, 149, 151, 153, 155, 157, 159, 161, 163, 165] (by decide +kernel) (by decide +kernel)) (goodIn_sub in_x1 (by decide +kernel))
set_option maxRecDepth 100000 in
theorem gL_law_L_undo : GoodIn lw_tbl (va_wsS RL 114 yL_undo wsL_undo) := goodIn_app (goodIn_r _ [869, 870, 69] (by decide +kernel) (by decide +kernel)) ggL_law_L_undo
set_option maxRecDepth 100000 in
theorem ggL_law_X12_undo : GoodIn lw_tbl wsX12_undo := goodIn_r _ [972, 924, 922, 923, 925, 936, 938, 940, 942, 944, 946, 948, 950, 952, 954, 956, 958, 960, 962] (by decide +kernel) (by decide +kernel)
set_option maxRecDepth 100000 in
theorem gL_law_X12_undo : GoodIn lw_tbl (wsV RL 116 RX12 yX12_undo wsX12_undo) := goodIn_app (goodIn_r _ [969, 970, 971, 78] (by decide +kernel) (by decide +kernel)) ggL_law_X12_undo
set_option maxRecDepth 100000 in
theorem ggL_law_L_strokeAt : GoodIn lw_tbl wsL_strokeAt := goodIn_ca (goodIn_ca (goodIn_r _ [883, 788, 714, 884, 610, 611, 70, 612, 613, 88, 498, 82, 254, 172, 141, 135, 630, 334, 84, 335, 631, 483, 89, 484, 485, 486, 487, 632, 633, 634, 73, 635, 142, 329, 330, 331, 332, 136, 140, 333, 260, 262, 264, 266, 268, 270, 173, 175, 149, 151, 153, 155, 157, 159, 161, 163, 165] (by decide +kernel) (by decide +kernel)) (goodIn_sub in_x2 (by decide +kernel))) (goodIn_sub in_x0 (by decide +kernel))
set_option maxRecDepth 100000 in
theorem gL_law_L_strokeAt : GoodIn lw_tbl (va_wsS RL 117 yL_strokeAt wsL_strokeAt) := goodIn_app (goodIn_r _ [881, 882, 69] (by decide +kernel) (by decide +kernel)) ggL_law_L_strokeAt
set_option maxRecDepth 100000 in
theorem ggL_law_X12_strokeAt : GoodIn lw_tbl wsX12_strokeAt := goodIn_r _ [1142, 923, 922, 980, 981, 78, 982, 1143, 1145, 47, 1146, 1147, 1148, 1149, 1150, 1152, 48, 1153, 1068, 1070, 34, 1071, 999, 1000, 1001, 936, 938, 940, 942, 944, 946, 948, 950, 952, 954, 956, 958, 960, 962] (by decide +kernel) (by decide +kernel)
set_option maxRecDepth 100000 in
theorem gL_law_X12_strokeAt : GoodIn lw_tbl (wsV RL 119 RX12 yX12_strokeAt wsX12_strokeAt) := goodIn_app (goodIn_r _ [1139, 1140, 1141, 78] (by decide +kernel) (by decide +kernel)) ggL_law_X12_strokeAt
set_option maxRecDepth 100000 in
theorem ggL_law_L_item : GoodIn lw_tbl wsL_item := goodIn_ca (goodIn_ca (goodIn_r _ [887, 788, 714, 888, 638, 639, 70, 640, 613, 88, 498, 82, 254, 172, 138, 145, 641, 643, 17, 644, 143, 636, 478, 479, 73, 480, 139, 134, 481, 405, 84, 406, 329, 330, 331, 332, 142, 136, 140, 333, 334, 335, 482, 483, 89, 484, 485, 486, 487, 488, 412, 90, 413, 414, 415, 416, 647, 648, 649, 650, 651, 630, 652, 653, 654, 655, 656, 657, 91, 658, 371, 372, 373, 659, 260, 262, 264, 266, 268, 270, 173, 175, 149, 151, 153, 155, 157, 159, 161, 163, 165] (by decide +kernel) (by decide +kernel)) (goodIn_sub in_x2 (by decide +kernel))) (goodIn_sub in_x0 (by decide +kernel))
set_option maxRecDepth 100000 in
theorem gL_law_L_item : GoodIn lw_tbl (va_wsS RL 120 yL_item wsL_item) := goodIn_app (goodIn_r _ [885, 886, 69] (by decide +kernel) (by decide +kernel)) ggL_law_L_item
set_option maxRecDepth 100000 in
theorem ggL_law_X12_item : GoodIn lw_tbl wsX12_item := goodIn_r _ [1157, 922, 923, 1064, 1066, 33, 78, 1067, 980, 981, 982, 999, 1000, 1001, 1158, 1160, 49, 1161, 1068, 1070, 34, 1071, 936, 938, 940, 942, 944, 946, 948, 950, 952, 954, 956, 958, 960, 962] (by decide +kernel) (by decide +kernel)
set_option maxRecDepth 100000 in
theorem gL_law_X12_item : GoodIn lw_tbl (wsV RL 122 RX12 yX12_item wsX12_item) := goodIn_app (goodIn_r _ [1154, 1155, 1156, 78] (by decide +kernel) (by decide +kernel)) ggL_law_X12_item
set_option maxRecDepth 100000 in
theorem ggL_law_L_entry : GoodIn lw_tbl wsL_entry := goodIn_ca (goodIn_ca (goodIn_r _ [891, 788, 714, 892, 665, 666, 70, 667, 613, 88, 498, 82, 254, 170, 172, 668, 670, 19, 671, 119, 674, 422, 423, 72, 424, 114, 404, 405, 84, 406, 675, 401, 402, 403, 115, 676, 426, 87, 427, 428, 429, 430, 677, 678, 679, 680, 681, 412, 90, 413, 414, 415, 416, 682, 576, 577, 578, 579, 580, 582, 12, 583, 117, 584, 462, 463, 464, 585, 587, 13, 588, 465, 466, 467, 468, 589, 590, 591, 592, 594, 14, 595, 596, 598, 15, 599, 600, 567, 568, 569, 73, 570, 144, 142, 137, 333, 334, 335, 683, 260, 262, 264, 266, 268, 270, 173, 175, 120, 122, 124, 149, 151, 153, 155, 157, 159, 161, 163, 165] (by decide +kernel) (by decide +kernel)) (goodIn_sub in_x2 (by decide +kernel))) (goodIn_sub in_x0 (by decide +kernel))
set_option maxRecDepth 100000 in
theorem gL_law_L_entry : GoodIn lw_tbl (va_wsS RL 123 yL_entry wsL_entry) := goodIn_app (goodIn_r _ [889, 890, 69] (by decide +kernel) (by decide +kernel)) ggL_law_L_entry
set_option maxRecDepth 100000 in
theorem ggL_law_X12_entry : GoodIn lw_tbl wsX12_entry := goodIn_r _ [1165, 922, 1040, 1042, 29, 78, 1043, 923, 980, 981, 982, 1166, 1168, 50, 1169, 1006, 1007, 1008, 1170, 1172, 51, 1173, 1084, 1086, 38, 1087, 1052, 1054, 31, 1055, 1174, 1176, 52, 1177, 1056, 1058, 32, 1059, 999, 1000, 1001, 936, 938, 940, 942, 944, 946, 948, 950, 952, 954, 956, 958, 960, 962] (by decide +kernel) (by decide +kernel)
set_option maxRecDepth 100000 in
theorem gL_law_X12_entry : GoodIn lw_tbl (wsV RL 125 RX12 yX12_entry wsX12_entry) := goodIn_app (goodIn_r _ [1162, 1163, 1164, 78] (by decide +kernel) (by decide +kernel)) ggL_law_X12_entry
set_option maxRecDepth 100000 in
theorem ggL_law_L_count : GoodIn lw_tbl wsL_count := goodIn_ca (goodIn_r _ [895, 714, 896, 495, 496, 70, 497, 498, 82, 254, 172, 141, 143, 145, 170, 119, 148, 256, 189, 566, 323, 324, 73, 325, 140, 146, 473, 474, 475, 476, 142, 477, 478, 479, 480, 139, 134, 481, 405, 84, 406, 329, 330, 331, 332, 136, 333, 334, 335, 482, 483, 89, 484, 485, 486, 487, 488, 412, 90, 413, 414, 415, 416, 567, 568, 569, 570, 144, 137, 571, 572, 573, 72, 574, 117, 575, 576, 577, 578, 579, 422, 423, 424, 114, 404, 580, 582, 12, 583, 584, 426, 87, 427, 428, 429, 430, 462, 463, 464, 585, 587, 13, 588, 465, 466, 467, 468, 589, 590, 591, 592, 594, 14, 595, 596, 598, 15, 599, 600, 401, 402, 403, 115, 260, 262, 264, 266, 268, 270, 173, 175, 149, 151, 153, 155, 157, 159, 161, 163, 165, 120, 122, 124, 190, 192] (by decide +kernel) (by decide +kernel)) (goodIn_sub in_x0 (by decide +kernel))
set_option maxRecDepth 100000 in
theorem gL_law_L_count : GoodIn lw_tbl (va_wsS RL 126 yL_count wsL_count) := goodIn_app (goodIn_r _ [893, 894, 69] (by decide +kernel) (by decide +kernel)) ggL_law_L_count
set_option maxRecDepth 100000 in
theorem ggL_law_X12_count : GoodIn lw_tbl wsX12_count := goodIn_r _ [1181, 922, 980, 981, 78, 982, 1182, 1184, 53, 1185, 923, 924, 1016, 1018, 27, 1019, 995, 997, 24, 998, 999, 1000, 1001, 1186, 1188, 54, 1189, 1056, 1058, 32, 1059, 1190, 1192, 55, 1193, 1170, 1172, 51, 1173, 1084, 1086, 38, 1087, 1006, 1007, 1008, 1052, 1054, 31, 1055, 1174, 1176, 52, 1177, 936, 938, 940, 942, 944, 946, 948, 950, 952, 954, 956, 958, 960, 962] (by decide +kernel) (by decide +kernel)
set_option maxRecDepth 100000 in
theorem gL_law_X12_count : GoodIn lw_tbl (wsV RL 128 RX12 yX12_count wsX12_count) := goodIn_app (goodIn_r _ [1178, 1179, 1180, 78] (by decide +kernel) (by decide +kernel)) ggL_law_X12_count
set_option maxRecDepth 100000 in
theorem ggL_law_L_ifStroke : GoodIn lw_tbl wsL_ifStroke := goodIn_ca (goodIn_r _ [899, 714, 900, 901, 902, 70, 903, 498, 82, 255, 254, 172, 143, 145, 720, 721, 722, 860, 290, 291, 71, 292, 169, 171, 293, 294, 295, 72, 296, 114, 115, 117, 297, 298, 84, 299, 300, 301, 85, 302, 303, 305, 304, 86, 306, 307, 308, 73, 309, 134, 136, 137, 139, 140, 142, 144, 146, 147, 310, 311, 312, 313, 740, 741, 742, 743, 744, 745, 746, 747, 326, 327, 328, 748, 749, 750, 751, 752, 753, 754, 755, 756, 453, 454, 455, 456, 457, 458, 87, 459, 460, 334, 335, 461, 385, 386, 462, 463, 464, 465, 466, 467, 468, 404, 405, 406, 757, 401, 402, 403, 758, 759, 760, 761, 422, 423, 424, 762, 426, 427, 428, 429, 430, 763, 319, 320, 321, 322, 323, 324, 325, 329, 330, 331, 332, 333, 473, 474, 475, 476, 477, 478, 479, 480, 481, 482, 483, 89, 484, 485, 486, 487, 488, 412, 90, 413, 414, 415, 416, 648, 649, 650, 651, 260, 262, 264, 266, 268, 270, 173, 175, 149, 151, 153, 155, 157, 159, 161, 163, 165, 120, 122, 124] (by decide +kernel) (by decide +kernel)) (goodIn_sub in_x0 (by decide +kernel))
set_option maxRecDepth 100000 in
theorem gL_law_L_ifStroke : GoodIn lw_tbl (va_wsS RL 129 yL_ifStroke wsL_ifStroke) := goodIn_app (goodIn_r _ [897, 898, 69] (by decide +kernel) (by decide +kernel)) ggL_law_L_ifStroke
set_option maxRecDepth 100000 in
theorem ggL_law_X12_ifStroke : GoodIn lw_tbl wsX12_ifStroke := goodIn_r _ [1197, 922, 977, 978, 78, 979, 980, 981, 982, 1127, 1129, 44, 1130, 930, 923, 987, 989, 22, 990, 991, 993, 23, 994, 928, 929, 995, 997, 24, 998, 999, 1000, 1001, 1002, 1004, 25, 1005, 1006, 1007, 1008, 1009, 1011, 26, 1012, 1013, 1014, 1015, 1016, 1018, 27, 1019, 1020, 1022, 28, 1023, 1198, 1200, 56, 1201, 1186, 1188, 54, 1189, 1135, 1137, 46, 1138, 936, 938, 940, 942, 944, 946, 948, 950, 952, 954, 956, 958, 960, 962] (by decide +kernel) (by decide +kernel)
set_option maxRecDepth 100000 in
theorem gL_law_X12_ifStroke : GoodIn lw_tbl (wsV RL 131 RX12 yX12_ifStroke wsX12_ifStroke) := goodIn_app (goodIn_r _ [1194, 1195, 1196, 78] (by decide +kernel) (by decide +kernel)) ggL_law_X12_ifStroke
set_option maxRecDepth 100000 in
theorem ggL_law_L_ifRemoved : GoodIn lw_tbl wsL_ifRemoved := goodIn_ca (goodIn_r _ [907, 788, 908, 909, 910, 70, 911, 613, 88, 255, 254, 170, 172, 668, 670, 19, 671, 119, 860, 290, 291, 71, 292, 169, 171, 293, 294, 295, 72, 296, 114, 115, 117, 297, 298, 84, 299, 300, 301, 85, 302, 303, 305, 304, 86, 306, 307, 308, 73, 309, 134, 136, 137, 139, 140, 142, 144, 146, 147, 310, 311, 312, 313, 793, 794, 795, 796, 579, 422, 423, 424, 404, 405, 406, 797, 759, 760, 600, 401, 402, 403, 776, 749, 750, 751, 752, 753, 754, 755, 756, 453, 454, 455, 456, 457, 458, 87, 459, 460, 334, 335, 461, 385, 386, 462, 463, 464, 465, 466, 467, 468, 326, 327, 328, 757, 758, 761, 762, 426, 427, 428, 429, 430, 763, 319, 320, 321, 322, 323, 324, 325, 329, 330, 331, 332, 333, 314, 315, 316, 317, 260, 262, 264, 266, 268, 270, 173, 175, 120, 122, 124, 149, 151, 153, 155, 157, 159, 161, 163, 165] (by decide +kernel) (by decide +kernel)) (goodIn_sub in_x2 (by decide +kernel))
set_option maxRecDepth 100000 in
theorem gL_law_L_ifRemoved : GoodIn lw_tbl (va_wsS RL 132 yL_ifRemoved wsL_ifRemoved) := goodIn_app (goodIn_r _ [905, 906, 69] (by decide +kernel) (by decide +kernel)) ggL_law_L_ifRemoved
set_option maxRecDepth 100000 in
theorem ggL_law_X12_ifRemoved : GoodIn lw_tbl wsX12_ifRemoved := goodIn_r _ [1205, 922, 923, 1040, 1042, 29, 78, 1043, 980, 981, 982, 1127, 1129, 44, 1130, 930, 1044, 1046, 30, 1047, 1006, 1007, 1008, 991, 993, 23, 994, 928, 929, 995, 997, 24, 998, 999, 1000, 1001, 1002, 1004, 25, 1005, 1009, 1011, 26, 1012, 1013, 1014, 1015, 1016, 1018, 27, 1019, 1020, 1022, 28, 1023, 1135, 1137, 46, 1138, 936, 938, 940, 942, 944, 946, 948, 950, 952, 954, 956, 958, 960, 962] (by decide +kernel) (by decide +kernel)
set_option maxRecDepth 100000 in
theorem gL_law_X12_ifRemoved : GoodIn lw_tbl (wsV RL 134 RX12 yX12_ifRemoved wsX12_ifRemoved) := goodIn_app (goodIn_r _ [1202, 1203, 1204, 78] (by decide +kernel) (by decide +kernel)) ggL_law_X12_ifRemoved
set_option maxRecDepth 100000 in
theorem ggL_law_X11_fewestStrokes : GoodIn lw_tbl wsX11_fewestStrokes := goodIn_r _ [390, 259, 257, 254, 170, 391, 392, 393, 77, 394, 244, 205, 118, 395, 327, 84, 328, 396, 398, 8, 399, 400, 401, 402, 72, 403, 115, 404, 405, 406, 407, 408, 409, 75, 410, 204, 201, 411, 412, 90, 413, 414, 415, 416, 417, 334, 335, 418, 419, 420, 421, 422, 423, 424, 114, 425, 426, 87, 427, 428, 429, 430, 260, 262, 264, 266, 268, 270, 173, 175, 247, 249, 251, 208, 210, 120, 122, 124] (by decide +kernel) (by decide +kernel)
set_option maxRecDepth 100000 in
theorem gL_law_X11_fewestStrokes : GoodIn lw_tbl (wsV RL 135 RX11 yX11_fewestStrokes wsX11_fewestStrokes) := goodIn_app (goodIn_r _ [387, 388, 389, 70] (by decide +kernel) (by decide +kernel)) ggL_law_X11_fewestStrokes
set_option maxRecDepth 100000 in
theorem ggL_law_X12_fewestStrokes : GoodIn lw_tbl wsX12_fewestStrokes := goodIn_r _ [1209, 922, 1210, 1212, 57, 78, 1213, 934, 926, 923, 1214, 1216, 58, 1217, 1218, 1220, 59, 1221, 927, 1006, 1007, 1008, 936, 938, 940, 942, 944, 946, 948, 950, 952, 954, 956, 958, 960, 962] (by decide +kernel) (by decide +kernel)
set_option maxRecDepth 100000 in
theorem gL_law_X12_fewestStrokes : GoodIn lw_tbl (wsV RL 138 RX12 yX12_fewestStrokes wsX12_fewestStrokes) := goodIn_app (goodIn_r _ [1206, 1207, 1208, 78] (by decide +kernel) (by decide +kernel)) ggL_law_X12_fewestStrokes
set_option maxRecDepth 100000 in
theorem ggL_law_X11_readsBack : GoodIn lw_tbl wsX11_readsBack := goodIn_r _ [434, 259, 257, 254, 170, 391, 392, 393, 77, 394, 244, 205, 118, 395, 327, 84, 328, 396, 398, 8, 399, 400, 401, 402, 72, 403, 115, 404, 405, 406, 407, 408, 409, 75, 410, 204, 201, 411, 412, 90, 413, 414, 415, 416, 417, 334, 335, 418, 419, 420, 421, 422, 423, 424, 114, 425, 426, 87, 427, 428, 429, 430, 435, 436, 437, 438, 246, 439, 441, 9, 442, 443, 445, 10, 446, 245, 447, 448, 449, 450, 451, 452, 453, 454, 455, 456, 301, 85, 302, 457, 458, 459, 460, 461, 385, 386, 462, 463, 464, 465, 466, 467, 468, 117, 260, 262, 264, 266, 268, 270, 173, 175, 247, 249, 251, 208, 210, 120, 122, 124] (by decide +kernel) (by decide +kernel)
set_option maxRecDepth 100000 in
theorem gL_law_X11_readsBack : GoodIn lw_tbl (wsV RL 139 RX11 yX11_readsBack wsX11_readsBack) := goodIn_app (goodIn_r _ [431, 432, 433, 70] (by decide +kernel) (by decide +kernel)) ggL_law_X11_readsBack
set_option maxRecDepth 100000 in
theorem ggL_law_X12_readsBack : GoodIn lw_tbl wsX12_readsBack := goodIn_r _ [1225, 922, 1226, 1228, 60, 78, 1229, 928, 929, 923, 926, 1210, 1212, 57, 1213, 934, 1214, 1216, 58, 1217, 1218, 1220, 59, 1221, 927, 1006, 1007, 1008, 1230, 1232, 61, 1233, 1002, 1004, 25, 1005, 1234, 1236, 62, 1237, 1013, 1014, 1015, 936, 938, 940, 942, 944, 946, 948, 950, 952, 954, 956, 958, 960, 962] (by decide +kernel) (by decide +kernel)
set_option maxRecDepth 100000 in
theorem gL_law_X12_readsBack : GoodIn lw_tbl (wsV RL 142 RX12 yX12_readsBack wsX12_readsBack) := goodIn_app (goodIn_r _ [1222, 1223, 1224, 78] (by decide +kernel) (by decide +kernel)) ggL_law_X12_readsBack
set_option maxRecDepth 100000 in
theorem ggL_law_L_shortest : GoodIn lw_tbl wsL_shortest := goodIn_ca (goodIn_r _ [914, 788, 915, 685, 686, 70, 687, 613, 88, 254, 170, 668, 670, 19, 671, 119, 688, 689, 690, 72, 691, 117, 600, 401, 402, 403, 115, 404, 405, 84, 406, 692, 694, 20, 695, 579, 422, 423, 424, 114, 584, 426, 87, 427, 428, 429, 430, 696, 697, 92, 698, 699, 700, 701, 260, 262, 264, 266, 268, 270, 173, 175, 120, 122, 124] (by decide +kernel) (by decide +kernel)) (goodIn_sub in_x2 (by decide +kernel))
set_option maxRecDepth 100000 in
theorem gL_law_L_shortest : GoodIn lw_tbl (va_wsS RL 143 yL_shortest wsL_shortest) := goodIn_app (goodIn_r _ [912, 913, 69] (by decide +kernel) (by decide +kernel)) ggL_law_L_shortest
set_option maxRecDepth 100000 in
theorem ggL_law_X12_shortest : GoodIn lw_tbl wsX12_shortest := goodIn_r _ [1241, 922, 1040, 1042, 29, 78, 1043, 923, 980, 981, 982, 1242, 1244, 63, 1245, 1052, 1054, 31, 1055, 1006, 1007, 1008, 1246, 1248, 64, 1249, 1147, 1148, 1149, 936, 938, 940, 942, 944, 946, 948, 950, 952, 954, 956, 958, 960, 962] (by decide +kernel) (by decide +kernel)
set_option maxRecDepth 100000 in
theorem gL_law_X12_shortest : GoodIn lw_tbl (wsV RL 145 RX12 yX12_shortest wsX12_shortest) := goodIn_app (goodIn_r _ [1238, 1239, 1240, 78] (by decide +kernel) (by decide +kernel)) ggL_law_X12_shortest
set_option maxRecDepth 100000 in
theorem ggL_law_X11_lettersPerStroke : GoodIn lw_tbl wsX11_lettersPerStroke := goodIn_r _ [472, 254, 172, 141, 473, 474, 475, 73, 476, 142, 477, 478, 479, 480, 139, 134, 481, 405, 84, 406, 329, 330, 331, 332, 136, 140, 333, 334, 335, 482, 483, 89, 484, 485, 486, 487, 488, 412, 90, 413, 414, 415, 416, 260, 262, 264, 266, 268, 270, 173, 175, 149, 151, 153, 155, 157, 159, 161, 163, 165] (by decide +kernel) (by decide +kernel)
set_option maxRecDepth 100000 in
theorem gL_law_X11_lettersPerStroke : GoodIn lw_tbl (wsV RL 146 RX11 yX11_lettersPerStroke wsX11_lettersPerStroke) := goodIn_app (goodIn_r _ [469, 470, 471, 70] (by decide +kernel) (by decide +kernel)) ggL_law_X11_lettersPerStroke
set_option maxRecDepth 100000 in
theorem ggL_law_X12_lettersPerStroke : GoodIn lw_tbl wsX12_lettersPerStroke := goodIn_r _ [1253, 922, 1254, 1256, 65, 78, 1257, 923, 1186, 1188, 54, 1189, 999, 1000, 1001, 936, 938, 940, 942, 944, 946, 948, 950, 952, 954, 956, 958, 960, 962] (by decide +kernel) (by decide +kernel)
set_option maxRecDepth 100000 in
theorem gL_law_X12_lettersPerStroke : GoodIn lw_tbl (wsV RL 150 RX12 yX12_lettersPerStroke wsX12_lettersPerStroke) := goodIn_app (goodIn_r _ [1250, 1251, 1252, 78] (by decide +kernel) (by decide +kernel)) ggL_law_X12_lettersPerStroke
set_option maxRecDepth 100000 in
theorem ggL_law_X11_digest : GoodIn lw_tbl wsX11_digest := goodIn_ca (goodIn_ca (goodIn_r _ [492, 493, 257, 207, 203, 494, 495, 496, 70, 497, 498, 82, 254, 172, 141, 143, 145, 170, 119, 148, 256, 189, 566, 323, 324, 73, 325, 140, 146, 473, 474, 475, 476, 142, 477, 478, 479, 480, 139, 134, 481, 405, 84, 406, 329, 330, 331, 332, 136, 333, 334, 335, 482, 483, 89, 484, 485, 486, 487, 488, 412, 90, 413, 414, 415, 416, 567, 568, 569, 570, 144, 137, 571, 572, 573, 72, 574, 117, 575, 576, 577, 578, 579, 422, 423, 424, 114, 404, 580, 582, 12, 583, 584, 426, 87, 427, 428, 429, 430, 462, 463, 464, 585, 587, 13, 588, 465, 466, 467, 468, 589, 590, 591, 592, 594, 14, 595, 596, 598, 15, 599, 600, 401, 402, 403, 115, 601, 602, 603, 604, 605, 607, 16, 608, 609, 610, 611, 612, 613, 88, 135, 630, 631, 632, 633, 634, 635, 636, 637, 638, 639, 640, 138, 641, 643, 17, 644, 647, 648, 649, 650, 651, 652, 653, 654, 655, 656, 657, 91, 658, 371, 372, 373, 659, 660, 662, 18, 663, 664, 665, 666, 667, 668, 670, 19, 671, 674, 675, 676, 677, 678, 679, 680, 681, 682, 683, 684, 685, 686, 687, 688, 689, 690, 691, 692, 694, 20, 695, 696, 697, 92, 698, 699, 700, 701, 702, 388, 389, 390, 259, 391, 392, 393, 77, 394, 244, 205, 118, 395, 327, 328, 396, 398, 8, 399, 400, 407, 408, 409, 75, 410, 204, 201, 411, 417, 418, 419, 420, 421, 425, 703, 432, 433, 434, 435, 436, 437, 438, 246, 439, 441, 9, 442, 443, 445, 10, 446, 245, 447, 448, 449, 450, 451, 452, 453, 454, 455, 456, 301, 85, 302, 457, 458, 459, 460, 461, 385, 386, 704, 470, 471, 472, 705, 706, 707, 708, 709, 710, 260, 262, 264, 266, 268, 270, 208, 210, 173, 175, 149, 151, 153, 155, 157, 159, 161, 163, 165, 120, 122, 124, 190, 192, 247, 249, 251] (by decide +kernel) (by decide +kernel)) (goodIn_sub in_x0 (by decide +kernel))) (goodIn_sub in_x2 (by decide +kernel))
set_option maxRecDepth 100000 in
theorem gL_law_X11_digest : GoodIn lw_tbl (wsV RL 151 RX11 yX11_digest wsX11_digest) := goodIn_app (goodIn_r _ [489, 490, 491, 70] (by decide +kernel) (by decide +kernel)) ggL_law_X11_digest
set_option maxRecDepth 100000 in
theorem ggL_law_X12_digest : GoodIn lw_tbl wsX12_digest := goodIn_r _ [1261, 922, 1262, 935, 923, 926, 927, 1182, 1184, 53, 78, 1185, 924, 1016, 1018, 27, 1019, 995, 997, 24, 998, 999, 1000, 1001, 1186, 1188, 54, 1189, 1056, 1058, 32, 1059, 1190, 1192, 55, 1193, 1170, 1172, 51, 1173, 1084, 1086, 38, 1087, 1006, 1007, 1008, 1052, 1054, 31, 1055, 1174, 1176, 52, 1177, 1263, 1265, 66, 1266, 1267, 1143, 1145, 47, 1146, 1147, 1148, 1149, 1150, 1152, 48, 1153, 1068, 1070, 34, 1071, 1268, 1270, 67, 1271, 1158, 1160, 49, 1161, 1272, 1274, 68, 1275, 1166, 1168, 50, 1169, 1242, 1244, 63, 1245, 1246, 1248, 64, 1249, 1210, 1212, 57, 1213, 934, 1214, 1216, 58, 1217, 1218, 1220, 59, 1221, 1226, 1228, 60, 1229, 928, 929, 1230, 1232, 61, 1233, 1002, 1004, 25, 1005, 1234, 1236, 62, 1237, 1013, 1014, 1015, 1254, 1256, 65, 1257, 1276, 1277, 93, 1278, 1282, 1284, 1283, 93, 1285, 1279, 1280, 1281, 936, 938, 940, 942, 944, 946, 948, 950, 952, 954, 956, 958, 960, 962] (by decide +kernel) (by decide +kernel)
set_option maxRecDepth 100000 in
theorem gL_law_X12_digest : GoodIn lw_tbl (wsV RL 155 RX12 yX12_digest wsX12_digest) := goodIn_app (goodIn_r _ [1258, 1259, 1260, 78] (by decide +kernel) (by decide +kernel)) ggL_law_X12_digest
