theorem dX11_learn_0 : decode cX11_learn 0 = .ok (.aload_n 0, 1) := by decide +kernel
theorem dX11_learn_1 : decode cX11_learn 1 = .ok (.iload_n 1, 1) := by decide +kernel
theorem dX11_learn_2 : decode cX11_learn 2 = .ok (.invokevirtual 147, 3) := by decide +kernel
theorem dX11_learn_5 : decode cX11_learn 5 = .ok (.ifCond .eq 11, 3) := by decide +kernel
theorem dX11_learn_8 : decode cX11_learn 8 = .ok (.aload_n 0, 1) := by decide +kernel
theorem dX11_learn_9 : decode cX11_learn 9 = .ok (.iload_n 2, 1) := by decide +kernel
theorem dX11_learn_10 : decode cX11_learn 10 = .ok (.invokevirtual 147, 3) := by decide +kernel
theorem dX11_learn_13 : decode cX11_learn 13 = .ok (.ifCond .ne 13, 3) := by decide +kernel
theorem dX11_learn_16 : decode cX11_learn 16 = .ok (.new 117, 3) := by decide +kernel
theorem dX11_learn_19 : decode cX11_learn 19 = .ok (.dup, 1) := by decide +kernel
theorem dX11_learn_20 : decode cX11_learn 20 = .ok (.ldc 150, 2) := by decide +kernel
theorem dX11_learn_22 : decode cX11_learn 22 = .ok (.invokespecial 121, 3) := by decide +kernel
theorem dX11_learn_25 : decode cX11_learn 25 = .ok (.athrow, 1) := by decide +kernel
theorem dX11_learn_26 : decode cX11_learn 26 = .ok (.aload_n 0, 1) := by decide +kernel
theorem dX11_learn_27 : decode cX11_learn 27 = .ok (.getfield 10, 3) := by decide +kernel
theorem dX11_learn_30 : decode cX11_learn 30 = .ok (.getfield 58, 3) := by decide +kernel
theorem dX11_learn_33 : decode cX11_learn 33 = .ok (.iload_n 1, 1) := by decide +kernel
theorem dX11_learn_34 : decode cX11_learn 34 = .ok (.invokevirtual 152, 3) := by decide +kernel
theorem dX11_learn_37 : decode cX11_learn 37 = .ok (.istore_n 3, 1) := by decide +kernel
theorem dX11_learn_38 : decode cX11_learn 38 = .ok (.aload_n 0, 1) := by decide +kernel
theorem dX11_learn_39 : decode cX11_learn 39 = .ok (.getfield 10, 3) := by decide +kernel
theorem dX11_learn_42 : decode cX11_learn 42 = .ok (.getfield 58, 3) := by decide +kernel
theorem dX11_learn_45 : decode cX11_learn 45 = .ok (.iload_n 2, 1) := by decide +kernel
theorem dX11_learn_46 : decode cX11_learn 46 = .ok (.iconst 1, 1) := by decide +kernel
theorem dX11_learn_47 : decode cX11_learn 47 = .ok (.iadd, 1) := by decide +kernel
theorem dX11_learn_48 : decode cX11_learn 48 = .ok (.invokevirtual 152, 3) := by decide +kernel
theorem dX11_learn_51 : decode cX11_learn 51 = .ok (.iload_n 3, 1) := by decide +kernel
theorem dX11_learn_52 : decode cX11_learn 52 = .ok (.isub, 1) := by decide +kernel
theorem dX11_learn_53 : decode cX11_learn 53 = .ok (.istore 4, 2) := by decide +kernel
theorem dX11_learn_55 : decode cX11_learn 55 = .ok (.iload_n 1, 1) := by decide +kernel
theorem dX11_learn_56 : decode cX11_learn 56 = .ok (.iload_n 2, 1) := by decide +kernel
theorem dX11_learn_57 : decode cX11_learn 57 = .ok (.if_icmp .gt 9, 3) := by decide +kernel
theorem dX11_learn_60 : decode cX11_learn 60 = .ok (.iload 4, 2) := by decide +kernel
theorem dX11_learn_62 : decode cX11_learn 62 = .ok (.iconst 4, 1) := by decide +kernel
theorem dX11_learn_63 : decode cX11_learn 63 = .ok (.if_icmp .le 13, 3) := by decide +kernel
theorem dX11_learn_66 : decode cX11_learn 66 = .ok (.new 51, 3) := by decide +kernel
theorem dX11_learn_69 : decode cX11_learn 69 = .ok (.dup, 1) := by decide +kernel
theorem dX11_learn_70 : decode cX11_learn 70 = .ok (.ldc 155, 2) := by decide +kernel
theorem dX11_learn_72 : decode cX11_learn 72 = .ok (.invokespecial 55, 3) := by decide +kernel
theorem dX11_learn_75 : decode cX11_learn 75 = .ok (.athrow, 1) := by decide +kernel
theorem dX11_learn_76 : decode cX11_learn 76 = .ok (.aload_n 0, 1) := by decide +kernel
theorem dX11_learn_77 : decode cX11_learn 77 = .ok (.getfield 10, 3) := by decide +kernel
theorem dX11_learn_80 : decode cX11_learn 80 = .ok (.getfield 58, 3) := by decide +kernel
theorem dX11_learn_83 : decode cX11_learn 83 = .ok (.getfield 86, 3) := by decide +kernel
theorem dX11_learn_86 : decode cX11_learn 86 = .ok (.iload_n 3, 1) := by decide +kernel
theorem dX11_learn_87 : decode cX11_learn 87 = .ok (.iload 4, 2) := by decide +kernel
theorem dX11_learn_89 : decode cX11_learn 89 = .ok (.invokestatic 157, 3) := by decide +kernel
theorem dX11_learn_92 : decode cX11_learn 92 = .ok (.lstore 5, 2) := by decide +kernel
theorem dX11_learn_94 : decode cX11_learn 94 = .ok (.aload_n 0, 1) := by decide +kernel
theorem dX11_learn_95 : decode cX11_learn 95 = .ok (.getfield 10, 3) := by decide +kernel
theorem dX11_learn_98 : decode cX11_learn 98 = .ok (.getfield 122, 3) := by decide +kernel
theorem dX11_learn_101 : decode cX11_learn 101 = .ok (.lload 5, 2) := by decide +kernel
theorem dX11_learn_103 : decode cX11_learn 103 = .ok (.invokevirtual 163, 3) := by decide +kernel
theorem dX11_learn_106 : decode cX11_learn 106 = .ok (.ifCond .ne 13, 3) := by decide +kernel
theorem dX11_learn_109 : decode cX11_learn 109 = .ok (.new 68, 3) := by decide +kernel
theorem dX11_learn_112 : decode cX11_learn 112 = .ok (.dup, 1) := by decide +kernel
theorem dX11_learn_113 : decode cX11_learn 113 = .ok (.ldc 167, 2) := by decide +kernel
theorem dX11_learn_115 : decode cX11_learn 115 = .ok (.invokespecial 72, 3) := by decide +kernel
theorem dX11_learn_118 : decode cX11_learn 118 = .ok (.athrow, 1) := by decide +kernel
theorem dX11_learn_119 : decode cX11_learn 119 = .ok (.aload_n 0, 1) := by decide +kernel
theorem dX11_learn_120 : decode cX11_learn 120 = .ok (.getfield 22, 3) := by decide +kernel
theorem dX11_learn_123 : decode cX11_learn 123 = .ok (.aload_n 0, 1) := by decide +kernel
theorem dX11_learn_124 : decode cX11_learn 124 = .ok (.getfield 10, 3) := by decide +kernel
theorem dX11_learn_127 : decode cX11_learn 127 = .ok (.invokevirtual 73, 3) := by decide +kernel
theorem dX11_learn_130 : decode cX11_learn 130 = .ok (.aload_n 0, 1) := by decide +kernel
theorem dX11_learn_131 : decode cX11_learn 131 = .ok (.getfield 10, 3) := by decide +kernel
theorem dX11_learn_134 : decode cX11_learn 134 = .ok (.getfield 122, 3) := by decide +kernel
theorem dX11_learn_137 : decode cX11_learn 137 = .ok (.lload 5, 2) := by decide +kernel
theorem dX11_learn_139 : decode cX11_learn 139 = .ok (.aload_n 0, 1) := by decide +kernel
theorem dX11_learn_140 : decode cX11_learn 140 = .ok (.getfield 10, 3) := by decide +kernel
theorem dX11_learn_143 : decode cX11_learn 143 = .ok (.getfield 58, 3) := by decide +kernel
theorem dX11_learn_146 : decode cX11_learn 146 = .ok (.iload_n 1, 1) := by decide +kernel
theorem dX11_learn_147 : decode cX11_learn 147 = .ok (.iload_n 2, 1) := by decide +kernel
theorem dX11_learn_148 : decode cX11_learn 148 = .ok (.invokevirtual 169, 3) := by decide +kernel
theorem dX11_learn_151 : decode cX11_learn 151 = .ok (.invokevirtual 172, 3) := by decide +kernel
theorem dX11_learn_154 : decode cX11_learn 154 = .ok (.aload_n 0, 1) := by decide +kernel
theorem dX11_learn_155 : decode cX11_learn 155 = .ok (.getfield 10, 3) := by decide +kernel
theorem dX11_learn_158 : decode cX11_learn 158 = .ok (.invokevirtual 99, 3) := by decide +kernel
theorem dX11_learn_161 : decode cX11_learn 161 = .ok (.aload_n 0, 1) := by decide +kernel
theorem dX11_learn_162 : decode cX11_learn 162 = .ok (.getfield 10, 3) := by decide +kernel
theorem dX11_learn_165 : decode cX11_learn 165 = .ok (.getfield 122, 3) := by decide +kernel
theorem dX11_learn_168 : decode cX11_learn 168 = .ok (.getfield 176, 3) := by decide +kernel
theorem dX11_learn_171 : decode cX11_learn 171 = .ok (.iconst 1, 1) := by decide +kernel
theorem dX11_learn_172 : decode cX11_learn 172 = .ok (.isub, 1) := by decide +kernel
theorem dX11_learn_173 : decode cX11_learn 173 = .ok (.ireturn, 1) := by decide +kernel
set_option maxRecDepth 20000 in
theorem ggX11_append_X0_add : GoodIn wsX11_append wsX0_add := goodIn_r _ [11, 12, 13, 14, 15, 16, 17, 24, 25] (by decide +kernel) (by decide +kernel)
set_option maxRecDepth 20000 in
theorem gX11_append_X0_add : GoodIn wsX11_append (wsV RX11 186 RX0 yX0_add wsX0_add) := goodIn_app (goodIn_of _ (by decide +kernel)) ggX11_append_X0_add
theorem dX11_append_0 : decode cX11_append 0 = .ok (.iload_n 1, 1) := by decide +kernel
theorem dX11_append_1 : decode cX11_append 1 = .ok (.bipush 33, 2) := by decide +kernel
theorem dX11_append_3 : decode cX11_append 3 = .ok (.if_icmp .lt 9, 3) := by decide +kernel
theorem dX11_append_6 : decode cX11_append 6 = .ok (.iload_n 1, 1) := by decide +kernel
theorem dX11_append_7 : decode cX11_append 7 = .ok (.bipush 126, 2) := by decide +kernel
theorem dX11_append_9 : decode cX11_append 9 = .ok (.if_icmp .le 13, 3) := by decide +kernel
theorem dX11_append_12 : decode cX11_append 12 = .ok (.new 51, 3) := by decide +kernel
theorem dX11_append_15 : decode cX11_append 15 = .ok (.dup, 1) := by decide +kernel
theorem dX11_append_16 : decode cX11_append 16 = .ok (.ldc 179, 2) := by decide +kernel
theorem dX11_append_18 : decode cX11_append 18 = .ok (.invokespecial 55, 3) := by decide +kernel
theorem dX11_append_21 : decode cX11_append 21 = .ok (.athrow, 1) := by decide +kernel
theorem dX11_append_22 : decode cX11_append 22 = .ok (.aload_n 0, 1) := by decide +kernel
theorem dX11_append_23 : decode cX11_append 23 = .ok (.getfield 29, 3) := by decide +kernel
theorem dX11_append_26 : decode cX11_append 26 = .ok (.getfield 181, 3) := by decide +kernel
theorem dX11_append_29 : decode cX11_append 29 = .ok (.bipush 60, 2) := by decide +kernel
theorem dX11_append_31 : decode cX11_append 31 = .ok (.if_icmp .lt 13, 3) := by decide +kernel
theorem dX11_append_34 : decode cX11_append 34 = .ok (.new 68, 3) := by decide +kernel
theorem dX11_append_37 : decode cX11_append 37 = .ok (.dup, 1) := by decide +kernel
theorem dX11_append_38 : decode cX11_append 38 = .ok (.ldc 184, 2) := by decide +kernel
theorem dX11_append_40 : decode cX11_append 40 = .ok (.invokespecial 72, 3) := by decide +kernel
theorem dX11_append_43 : decode cX11_append 43 = .ok (.athrow, 1) := by decide +kernel
theorem dX11_append_44 : decode cX11_append 44 = .ok (.aload_n 0, 1) := by decide +kernel
theorem dX11_append_45 : decode cX11_append 45 = .ok (.getfield 29, 3) := by decide +kernel
theorem dX11_append_48 : decode cX11_append 48 = .ok (.iload_n 1, 1) := by decide +kernel
theorem dX11_append_49 : decode cX11_append 49 = .ok (.invokevirtual 186, 3) := by decide +kernel
theorem dX11_append_52 : decode cX11_append 52 = .ok (.aload_n 0, 1) := by decide +kernel
theorem dX11_append_53 : decode cX11_append 53 = .ok (.getfield 29, 3) := by decide +kernel
theorem dX11_append_56 : decode cX11_append 56 = .ok (.getfield 181, 3) := by decide +kernel
theorem dX11_append_59 : decode cX11_append 59 = .ok (.ireturn, 1) := by decide +kernel
theorem dX11_clearBuffer_0 : decode cX11_clearBuffer 0 = .ok (.aload_n 0, 1) := by decide +kernel
theorem dX11_clearBuffer_1 : decode cX11_clearBuffer 1 = .ok (.getfield 29, 3) := by decide +kernel
theorem dX11_clearBuffer_4 : decode cX11_clearBuffer 4 = .ok (.getfield 181, 3) := by decide +kernel
theorem dX11_clearBuffer_7 : decode cX11_clearBuffer 7 = .ok (.istore_n 1, 1) := by decide +kernel
theorem dX11_clearBuffer_8 : decode cX11_clearBuffer 8 = .ok (.aload_n 0, 1) := by decide +kernel
theorem dX11_clearBuffer_9 : decode cX11_clearBuffer 9 = .ok (.getfield 29, 3) := by decide +kernel
theorem dX11_clearBuffer_12 : decode cX11_clearBuffer 12 = .ok (.iconst 0, 1) := by decide +kernel
theorem dX11_clearBuffer_13 : decode cX11_clearBuffer 13 = .ok (.putfield 181, 3) := by decide +kernel
theorem dX11_clearBuffer_16 : decode cX11_clearBuffer 16 = .ok (.iload_n 1, 1) := by decide +kernel
theorem dX11_clearBuffer_17 : decode cX11_clearBuffer 17 = .ok (.ireturn, 1) := by decide +kernel
set_option maxRecDepth 20000 in
theorem ggX11_load_X4_isList : GoodIn wsX11_load wsX4_isList := goodIn_r _ [17, 18, 19, 20, 21, 22, 16, 23, 24, 25, 26, 27, 28, 29, 30, 31, 32, 33, 34, 35, 36, 37, 38, 39, 40, 41, 42, 43, 44, 45, 46, 47, 48, 49, 50, 51, 52, 53, 54, 55, 56, 57, 58, 59, 60, 61, 62, 63, 64, 65, 66, 67, 68, 69, 70, 71, 72, 216, 217, 221, 222, 223, 224, 225, 226] (by decide +kernel) (by decide +kernel)
set_option maxRecDepth 20000 in
theorem gX11_load_X4_isList : GoodIn wsX11_load (wsV RX11 192 RX4 yX4_isList wsX4_isList) := goodIn_app (goodIn_of _ (by decide +kernel)) ggX11_load_X4_isList
set_option maxRecDepth 20000 in
theorem ggX11_load_X8_copyFrom : GoodIn wsX11_load wsX8_copyFrom := goodIn_r _ [77, 78, 79, 80, 81, 82, 83, 84, 85, 86, 87, 88, 89, 36, 90, 91, 92, 93, 94, 95, 96, 97, 98, 99, 100, 101, 102, 103, 104, 105, 106, 107, 108, 109, 110, 111, 112, 113, 114, 115, 116, 214, 215, 218, 219, 220, 227, 228, 229, 230, 231, 232, 233, 234, 235] (by decide +kernel) (by decide +kernel)
set_option maxRecDepth 20000 in
theorem gX11_load_X8_copyFrom : GoodIn wsX11_load (wsV RX11 198 RX8 yX8_copyFrom wsX8_copyFrom) := goodIn_app (goodIn_of _ (by decide +kernel)) ggX11_load_X8_copyFrom
set_option maxRecDepth 20000 in
theorem ggX11_load_X4_addEntries : GoodIn wsX11_load wsX4_addEntries := goodIn_r _ [120, 18, 24, 29, 33, 25, 26, 27, 16, 28, 30, 31, 32, 19, 34, 35, 36, 37, 121, 122, 123, 83, 124, 87, 125, 126, 127, 128, 85, 129, 130, 131, 132, 133, 134, 135, 86, 136, 137, 138, 38, 39, 40, 41, 42, 43, 44, 45, 46, 47, 48, 49, 50, 51, 52, 53, 54, 55, 56, 57, 58, 59, 60, 61, 62, 63, 64, 65, 66, 67, 68, 69, 70, 71, 72, 216, 217, 221, 222, 223, 224, 225, 226, 218, 219, 220] (by decide +kernel) (by decide +kernel)
set_option maxRecDepth 20000 in
theorem gX11_load_X4_addEntries : GoodIn wsX11_load (wsV RX11 201 RX4 yX4_addEntries wsX4_addEntries) := goodIn_app (goodIn_of _ (by decide +kernel)) ggX11_load_X4_addEntries
set_option maxRecDepth 20000 in
theorem ggX11_load_X2_push : GoodIn wsX11_load wsX2_push := goodIn_r _ [143, 144, 145, 146, 147, 148, 142, 149, 150, 151, 152, 153, 154, 74, 75, 76, 77, 78, 79, 80, 81, 82, 83, 84, 85, 86, 87, 88, 89, 36, 90, 91, 92, 93, 94, 95, 96, 97, 98, 99, 100, 101, 102, 103, 104, 105, 106, 107, 108, 109, 110, 111, 112, 113, 114, 115, 116, 236, 237, 214, 215, 218, 219, 220, 227, 228, 229, 230, 231, 232, 233, 234, 235] (by decide +kernel) (by decide +kernel)
set_option maxRecDepth 20000 in
theorem gX11_load_X2_push : GoodIn wsX11_load (wsV RX11 73 RX2 yX2_push wsX2_push) := goodIn_app (goodIn_of _ (by decide +kernel)) ggX11_load_X2_push
set_option maxRecDepth 20000 in
theorem ggX11_load_X1_copyFrom : GoodIn wsX11_load wsX1_copyFrom := goodIn_r _ [84, 85, 86, 87, 88, 89, 36, 90, 91, 92, 93, 94, 95, 96, 97, 98, 218, 219, 220] (by decide +kernel) (by decide +kernel)
set_option maxRecDepth 20000 in
theorem gX11_load_X1_copyFrom : GoodIn wsX11_load (wsV RX11 207 RX1 yX1_copyFrom wsX1_copyFrom) := goodIn_app (goodIn_of _ (by decide +kernel)) ggX11_load_X1_copyFrom
set_option maxRecDepth 20000 in
theorem ggX11_load_X8_translate : GoodIn wsX11_load wsX8_translate := goodIn_r _ [159, 79, 78, 160, 161, 162, 102, 163, 110, 109, 111, 108, 104, 105, 106, 107, 112, 164, 165, 166, 83, 167, 168, 92, 93, 94, 169, 170, 71, 171, 172, 35, 36, 37, 173, 70, 72, 174, 175, 176, 125, 126, 127, 128, 87, 85, 129, 130, 131, 177, 178, 179, 180, 181, 182, 183, 86, 184, 137, 138, 185, 186, 187, 188, 189, 190, 191, 192, 193, 194, 195, 196, 197, 198, 199, 200, 201, 202, 203, 204, 205, 206, 207, 214, 215, 227, 228, 229, 230, 231, 232, 233, 234, 235, 218, 219, 220] (by decide +kernel) (by decide +kernel)
set_option maxRecDepth 20000 in
theorem gX11_load_X8_translate : GoodIn wsX11_load (wsV RX11 99 RX8 yX8_translate wsX8_translate) := goodIn_app (goodIn_of _ (by decide +kernel)) ggX11_load_X8_translate
theorem dX11_load_0 : decode cX11_load 0 = .ok (.aload_n 0, 1) := by decide +kernel
theorem dX11_load_1 : decode cX11_load 1 = .ok (.getfield 36, 3) := by decide +kernel
theorem dX11_load_4 : decode cX11_load 4 = .ok (.aload_n 0, 1) := by decide +kernel
theorem dX11_load_5 : decode cX11_load 5 = .ok (.getfield 29, 3) := by decide +kernel
theorem dX11_load_8 : decode cX11_load 8 = .ok (.invokevirtual 192, 3) := by decide +kernel
theorem dX11_load_11 : decode cX11_load 11 = .ok (.ifCond .ne 13, 3) := by decide +kernel
theorem dX11_load_14 : decode cX11_load 14 = .ok (.new 51, 3) := by decide +kernel
theorem dX11_load_17 : decode cX11_load 17 = .ok (.dup, 1) := by decide +kernel
theorem dX11_load_18 : decode cX11_load 18 = .ok (.ldc 196, 2) := by decide +kernel
theorem dX11_load_20 : decode cX11_load 20 = .ok (.invokespecial 55, 3) := by decide +kernel
theorem dX11_load_23 : decode cX11_load 23 = .ok (.athrow, 1) := by decide +kernel
theorem dX11_load_24 : decode cX11_load 24 = .ok (.aload_n 0, 1) := by decide +kernel
theorem dX11_load_25 : decode cX11_load 25 = .ok (.getfield 16, 3) := by decide +kernel
theorem dX11_load_28 : decode cX11_load 28 = .ok (.aload_n 0, 1) := by decide +kernel
theorem dX11_load_29 : decode cX11_load 29 = .ok (.getfield 10, 3) := by decide +kernel
theorem dX11_load_32 : decode cX11_load 32 = .ok (.invokevirtual 198, 3) := by decide +kernel
theorem dX11_load_35 : decode cX11_load 35 = .ok (.aload_n 0, 1) := by decide +kernel
theorem dX11_load_36 : decode cX11_load 36 = .ok (.getfield 36, 3) := by decide +kernel
theorem dX11_load_39 : decode cX11_load 39 = .ok (.aload_n 0, 1) := by decide +kernel
theorem dX11_load_40 : decode cX11_load 40 = .ok (.getfield 29, 3) := by decide +kernel
theorem dX11_load_43 : decode cX11_load 43 = .ok (.aload_n 0, 1) := by decide +kernel
theorem dX11_load_44 : decode cX11_load 44 = .ok (.getfield 16, 3) := by decide +kernel
theorem dX11_load_47 : decode cX11_load 47 = .ok (.getfield 122, 3) := by decide +kernel
theorem dX11_load_50 : decode cX11_load 50 = .ok (.invokevirtual 201, 3) := by decide +kernel
theorem dX11_load_53 : decode cX11_load 53 = .ok (.ifCond .ne 13, 3) := by decide +kernel
theorem dX11_load_56 : decode cX11_load 56 = .ok (.new 68, 3) := by decide +kernel
theorem dX11_load_59 : decode cX11_load 59 = .ok (.dup, 1) := by decide +kernel
theorem dX11_load_60 : decode cX11_load 60 = .ok (.ldc 205, 2) := by decide +kernel
theorem dX11_load_62 : decode cX11_load 62 = .ok (.invokespecial 72, 3) := by decide +kernel
theorem dX11_load_65 : decode cX11_load 65 = .ok (.athrow, 1) := by decide +kernel
theorem dX11_load_66 : decode cX11_load 66 = .ok (.aload_n 0, 1) := by decide +kernel
theorem dX11_load_67 : decode cX11_load 67 = .ok (.getfield 22, 3) := by decide +kernel
theorem dX11_load_70 : decode cX11_load 70 = .ok (.aload_n 0, 1) := by decide +kernel
theorem dX11_load_71 : decode cX11_load 71 = .ok (.getfield 10, 3) := by decide +kernel
theorem dX11_load_74 : decode cX11_load 74 = .ok (.invokevirtual 73, 3) := by decide +kernel
theorem dX11_load_77 : decode cX11_load 77 = .ok (.aload_n 0, 1) := by decide +kernel
theorem dX11_load_78 : decode cX11_load 78 = .ok (.getfield 10, 3) := by decide +kernel
theorem dX11_load_81 : decode cX11_load 81 = .ok (.getfield 122, 3) := by decide +kernel
theorem dX11_load_84 : decode cX11_load 84 = .ok (.aload_n 0, 1) := by decide +kernel
theorem dX11_load_85 : decode cX11_load 85 = .ok (.getfield 16, 3) := by decide +kernel
theorem dX11_load_88 : decode cX11_load 88 = .ok (.getfield 122, 3) := by decide +kernel
theorem dX11_load_91 : decode cX11_load 91 = .ok (.invokevirtual 207, 3) := by decide +kernel
theorem dX11_load_94 : decode cX11_load 94 = .ok (.aload_n 0, 1) := by decide +kernel
theorem dX11_load_95 : decode cX11_load 95 = .ok (.getfield 10, 3) := by decide +kernel
theorem dX11_load_98 : decode cX11_load 98 = .ok (.invokevirtual 99, 3) := by decide +kernel
theorem dX11_load_101 : decode cX11_load 101 = .ok (.aload_n 0, 1) := by decide +kernel
theorem dX11_load_102 : decode cX11_load 102 = .ok (.getfield 29, 3) := by decide +kernel
theorem dX11_load_105 : decode cX11_load 105 = .ok (.iconst 0, 1) := by decide +kernel
theorem dX11_load_106 : decode cX11_load 106 = .ok (.putfield 181, 3) := by decide +kernel
theorem dX11_load_109 : decode cX11_load 109 = .ok (.aload_n 0, 1) := by decide +kernel
theorem dX11_load_110 : decode cX11_load 110 = .ok (.getfield 10, 3) := by decide +kernel
theorem dX11_load_113 : decode cX11_load 113 = .ok (.getfield 122, 3) := by decide +kernel
theorem dX11_load_116 : decode cX11_load 116 = .ok (.getfield 176, 3) := by decide +kernel
theorem dX11_load_119 : decode cX11_load 119 = .ok (.ireturn, 1) := by decide +kernel
set_option maxRecDepth 20000 in
theorem ggX11_strokeAt_X6_at : GoodIn wsX11_strokeAt wsX6_at := goodIn_r _ [12] (by decide +kernel) (by decide +kernel)
set_option maxRecDepth 20000 in
theorem gX11_strokeAt_X6_at : GoodIn wsX11_strokeAt (va_wsS RX11 90 yX6_at wsX6_at) := goodIn_app (goodIn_of _ (by decide +kernel)) ggX11_strokeAt_X6_at
set_option maxRecDepth 20000 in
theorem ggX11_strokeAt_J6_bitCount_0f7a4 : GoodIn wsX11_strokeAt wsJ6_bitCount_0f7a4 := goodIn_r _ [16, 17, 18, 19] (by decide +kernel) (by decide +kernel)
set_option maxRecDepth 20000 in
theorem gX11_strokeAt_J6_bitCount_0f7a4 : GoodIn wsX11_strokeAt (va_wsS RX11 220 yJ6_bitCount_0f7a4 wsJ6_bitCount_0f7a4) := goodIn_app (goodIn_of _ (by decide +kernel)) ggX11_strokeAt_J6_bitCount_0f7a4
set_option maxRecDepth 20000 in
theorem ggX11_strokeAt_X7_itemWith : GoodIn wsX11_strokeAt wsX7_itemWith := goodIn_r _ [24, 25, 26, 27, 28, 23, 29, 30, 31, 32, 10, 11, 12, 41, 42, 43, 44, 45, 46, 47, 48, 49] (by decide +kernel) (by decide +kernel)
set_option maxRecDepth 20000 in
theorem gX11_strokeAt_X7_itemWith : GoodIn wsX11_strokeAt (wsV RX11 225 RX7 yX7_itemWith wsX7_itemWith) := goodIn_app (goodIn_of _ (by decide +kernel)) ggX11_strokeAt_X7_itemWith
theorem dX11_strokeAt_0 : decode cX11_strokeAt 0 = .ok (.iload_n 1, 1) := by decide +kernel
theorem dX11_strokeAt_1 : decode cX11_strokeAt 1 = .ok (.ifCond .lt 17, 3) := by decide +kernel
theorem dX11_strokeAt_4 : decode cX11_strokeAt 4 = .ok (.iload_n 1, 1) := by decide +kernel
theorem dX11_strokeAt_5 : decode cX11_strokeAt 5 = .ok (.aload_n 0, 1) := by decide +kernel
theorem dX11_strokeAt_6 : decode cX11_strokeAt 6 = .ok (.getfield 10, 3) := by decide +kernel
theorem dX11_strokeAt_9 : decode cX11_strokeAt 9 = .ok (.getfield 58, 3) := by decide +kernel
theorem dX11_strokeAt_12 : decode cX11_strokeAt 12 = .ok (.getfield 62, 3) := by decide +kernel
theorem dX11_strokeAt_15 : decode cX11_strokeAt 15 = .ok (.if_icmp .lt 13, 3) := by decide +kernel
theorem dX11_strokeAt_18 : decode cX11_strokeAt 18 = .ok (.new 117, 3) := by decide +kernel
theorem dX11_strokeAt_21 : decode cX11_strokeAt 21 = .ok (.dup, 1) := by decide +kernel
theorem dX11_strokeAt_22 : decode cX11_strokeAt 22 = .ok (.ldc 216, 2) := by decide +kernel
theorem dX11_strokeAt_24 : decode cX11_strokeAt 24 = .ok (.invokespecial 121, 3) := by decide +kernel
theorem dX11_strokeAt_27 : decode cX11_strokeAt 27 = .ok (.athrow, 1) := by decide +kernel
theorem dX11_strokeAt_28 : decode cX11_strokeAt 28 = .ok (.iload_n 2, 1) := by decide +kernel
theorem dX11_strokeAt_29 : decode cX11_strokeAt 29 = .ok (.ifCond .lt 8, 3) := by decide +kernel
theorem dX11_strokeAt_32 : decode cX11_strokeAt 32 = .ok (.iload_n 2, 1) := by decide +kernel
theorem dX11_strokeAt_33 : decode cX11_strokeAt 33 = .ok (.iconst 3, 1) := by decide +kernel
theorem dX11_strokeAt_34 : decode cX11_strokeAt 34 = .ok (.if_icmp .lt 13, 3) := by decide +kernel
theorem dX11_strokeAt_37 : decode cX11_strokeAt 37 = .ok (.new 51, 3) := by decide +kernel
theorem dX11_strokeAt_40 : decode cX11_strokeAt 40 = .ok (.dup, 1) := by decide +kernel
theorem dX11_strokeAt_41 : decode cX11_strokeAt 41 = .ok (.ldc 218, 2) := by decide +kernel
theorem dX11_strokeAt_43 : decode cX11_strokeAt 43 = .ok (.invokespecial 55, 3) := by decide +kernel
theorem dX11_strokeAt_46 : decode cX11_strokeAt 46 = .ok (.athrow, 1) := by decide +kernel
theorem dX11_strokeAt_47 : decode cX11_strokeAt 47 = .ok (.aload_n 0, 1) := by decide +kernel
theorem dX11_strokeAt_48 : decode cX11_strokeAt 48 = .ok (.getfield 10, 3) := by decide +kernel
theorem dX11_strokeAt_51 : decode cX11_strokeAt 51 = .ok (.getfield 58, 3) := by decide +kernel
theorem dX11_strokeAt_54 : decode cX11_strokeAt 54 = .ok (.getfield 86, 3) := by decide +kernel
theorem dX11_strokeAt_57 : decode cX11_strokeAt 57 = .ok (.iload_n 1, 1) := by decide +kernel
theorem dX11_strokeAt_58 : decode cX11_strokeAt 58 = .ok (.invokestatic 90, 3) := by decide +kernel
theorem dX11_strokeAt_61 : decode cX11_strokeAt 61 = .ok (.istore_n 3, 1) := by decide +kernel
theorem dX11_strokeAt_62 : decode cX11_strokeAt 62 = .ok (.iload_n 2, 1) := by decide +kernel
theorem dX11_strokeAt_63 : decode cX11_strokeAt 63 = .ok (.lookupswitch 32 #[(0, 25), (1, 27)], 25) := by decide +kernel
theorem dX11_strokeAt_88 : decode cX11_strokeAt 88 = .ok (.iload_n 3, 1) := by decide +kernel
theorem dX11_strokeAt_89 : decode cX11_strokeAt 89 = .ok (.ireturn, 1) := by decide +kernel
theorem dX11_strokeAt_90 : decode cX11_strokeAt 90 = .ok (.iload_n 3, 1) := by decide +kernel
theorem dX11_strokeAt_91 : decode cX11_strokeAt 91 = .ok (.invokestatic 220, 3) := by decide +kernel
theorem dX11_strokeAt_94 : decode cX11_strokeAt 94 = .ok (.ireturn, 1) := by decide +kernel
theorem dX11_strokeAt_95 : decode cX11_strokeAt 95 = .ok (.aload_n 0, 1) := by decide +kernel
theorem dX11_strokeAt_96 : decode cX11_strokeAt 96 = .ok (.getfield 10, 3) := by decide +kernel
theorem dX11_strokeAt_99 : decode cX11_strokeAt 99 = .ok (.getfield 58, 3) := by decide +kernel
theorem dX11_strokeAt_102 : decode cX11_strokeAt 102 = .ok (.iload_n 1, 1) := by decide +kernel
theorem dX11_strokeAt_103 : decode cX11_strokeAt 103 = .ok (.invokevirtual 225, 3) := by decide +kernel
theorem dX11_strokeAt_106 : decode cX11_strokeAt 106 = .ok (.ireturn, 1) := by decide +kernel
set_option maxRecDepth 20000 in
theorem ggX11_item_X11_isItem : GoodIn wsX11_item wsX11_isItem := goodIn_r _ [13, 5, 6, 14, 68, 69, 70, 71, 72, 73, 74, 75, 76, 77, 78, 79, 80, 81, 82, 83, 84] (by decide +kernel) (by decide +kernel)
set_option maxRecDepth 20000 in
theorem gX11_item_X11_isItem : GoodIn wsX11_item (wsV RX11 147 RX11 yX11_isItem wsX11_isItem) := goodIn_app (goodIn_of _ (by decide +kernel)) ggX11_item_X11_isItem
set_option maxRecDepth 20000 in
theorem ggX11_item_X7_lettersOf : GoodIn wsX11_item wsX7_lettersOf := goodIn_r _ [19, 20, 21, 22, 23, 24, 25, 26, 27, 28, 18, 29, 30, 31, 32, 33, 34, 35, 36, 37, 38, 39, 40, 41, 42, 43, 44, 45, 46, 47, 48, 49, 76, 77, 78, 79, 80, 81, 82, 83, 84] (by decide +kernel) (by decide +kernel)
set_option maxRecDepth 20000 in
theorem gX11_item_X7_lettersOf : GoodIn wsX11_item (wsV RX11 228 RX7 yX7_lettersOf wsX7_lettersOf) := goodIn_app (goodIn_of _ (by decide +kernel)) ggX11_item_X7_lettersOf
set_option maxRecDepth 20000 in
theorem ggX11_item_X7_firstOf : GoodIn wsX11_item wsX7_firstOf := goodIn_r _ [29, 30, 31, 32, 33, 34, 24, 35, 76, 77, 78, 79, 80, 81, 82, 83, 84] (by decide +kernel) (by decide +kernel)
set_option maxRecDepth 20000 in
theorem gX11_item_X7_firstOf : GoodIn wsX11_item (wsV RX11 152 RX7 yX7_firstOf wsX7_firstOf) := goodIn_app (goodIn_of _ (by decide +kernel)) ggX11_item_X7_firstOf
set_option maxRecDepth 20000 in
theorem ggX11_item_X7_strokesOf : GoodIn wsX11_item wsX7_strokesOf := goodIn_r _ [54, 26, 27, 28, 18, 29, 30, 31, 32, 33, 34, 24, 35, 76, 77, 78, 79, 80, 81, 82, 83, 84] (by decide +kernel) (by decide +kernel)
set_option maxRecDepth 20000 in
theorem gX11_item_X7_strokesOf : GoodIn wsX11_item (wsV RX11 233 RX7 yX7_strokesOf wsX7_strokesOf) := goodIn_app (goodIn_of _ (by decide +kernel)) ggX11_item_X7_strokesOf
set_option maxRecDepth 20000 in
theorem ggX11_item_X6_at : GoodIn wsX11_item wsX6_at := goodIn_r _ [35] (by decide +kernel) (by decide +kernel)
set_option maxRecDepth 20000 in
theorem gX11_item_X6_at : GoodIn wsX11_item (va_wsS RX11 90 yX6_at wsX6_at) := goodIn_app (goodIn_of _ (by decide +kernel)) ggX11_item_X6_at
set_option maxRecDepth 20000 in
theorem ggX11_item_X7_letterOf : GoodIn wsX11_item wsX7_letterOf := goodIn_r _ [59, 20, 21, 22, 23, 24, 25, 26, 27, 28, 18, 29, 30, 31, 32, 33, 34, 35, 60, 61, 62, 63, 64, 65, 66, 67, 48, 45, 49, 76, 77, 78, 79, 80, 81, 82, 83, 84] (by decide +kernel) (by decide +kernel)
set_option maxRecDepth 20000 in
theorem gX11_item_X7_letterOf : GoodIn wsX11_item (wsV RX11 242 RX7 yX7_letterOf wsX7_letterOf) := goodIn_app (goodIn_of _ (by decide +kernel)) ggX11_item_X7_letterOf
theorem dX11_item_0 : decode cX11_item 0 = .ok (.aload_n 0, 1) := by decide +kernel
theorem dX11_item_1 : decode cX11_item 1 = .ok (.iload_n 1, 1) := by decide +kernel
theorem dX11_item_2 : decode cX11_item 2 = .ok (.invokevirtual 147, 3) := by decide +kernel
theorem dX11_item_5 : decode cX11_item 5 = .ok (.ifCond .ne 13, 3) := by decide +kernel
theorem dX11_item_8 : decode cX11_item 8 = .ok (.new 117, 3) := by decide +kernel
theorem dX11_item_11 : decode cX11_item 11 = .ok (.dup, 1) := by decide +kernel
theorem dX11_item_12 : decode cX11_item 12 = .ok (.ldc 150, 2) := by decide +kernel
theorem dX11_item_14 : decode cX11_item 14 = .ok (.invokespecial 121, 3) := by decide +kernel
theorem dX11_item_17 : decode cX11_item 17 = .ok (.athrow, 1) := by decide +kernel
theorem dX11_item_18 : decode cX11_item 18 = .ok (.aload_n 0, 1) := by decide +kernel
theorem dX11_item_19 : decode cX11_item 19 = .ok (.getfield 10, 3) := by decide +kernel
theorem dX11_item_22 : decode cX11_item 22 = .ok (.getfield 58, 3) := by decide +kernel
theorem dX11_item_25 : decode cX11_item 25 = .ok (.iload_n 1, 1) := by decide +kernel
theorem dX11_item_26 : decode cX11_item 26 = .ok (.invokevirtual 228, 3) := by decide +kernel
theorem dX11_item_29 : decode cX11_item 29 = .ok (.istore_n 3, 1) := by decide +kernel
theorem dX11_item_30 : decode cX11_item 30 = .ok (.iload_n 2, 1) := by decide +kernel
theorem dX11_item_31 : decode cX11_item 31 = .ok (.ifCond .lt 10, 3) := by decide +kernel
theorem dX11_item_34 : decode cX11_item 34 = .ok (.iload_n 2, 1) := by decide +kernel
theorem dX11_item_35 : decode cX11_item 35 = .ok (.iconst 5, 1) := by decide +kernel
theorem dX11_item_36 : decode cX11_item 36 = .ok (.iload_n 3, 1) := by decide +kernel
theorem dX11_item_37 : decode cX11_item 37 = .ok (.iadd, 1) := by decide +kernel
theorem dX11_item_38 : decode cX11_item 38 = .ok (.if_icmp .lt 13, 3) := by decide +kernel
theorem dX11_item_41 : decode cX11_item 41 = .ok (.new 51, 3) := by decide +kernel
theorem dX11_item_44 : decode cX11_item 44 = .ok (.dup, 1) := by decide +kernel
theorem dX11_item_45 : decode cX11_item 45 = .ok (.ldc 231, 2) := by decide +kernel
theorem dX11_item_47 : decode cX11_item 47 = .ok (.invokespecial 55, 3) := by decide +kernel
theorem dX11_item_50 : decode cX11_item 50 = .ok (.athrow, 1) := by decide +kernel
theorem dX11_item_51 : decode cX11_item 51 = .ok (.iload_n 2, 1) := by decide +kernel
theorem dX11_item_52 : decode cX11_item 52 = .ok (.tableswitch 97 0 4 #[36, 48, 60, 75, 95], 36) := by decide +kernel
theorem dX11_item_88 : decode cX11_item 88 = .ok (.aload_n 0, 1) := by decide +kernel
theorem dX11_item_89 : decode cX11_item 89 = .ok (.getfield 10, 3) := by decide +kernel
theorem dX11_item_92 : decode cX11_item 92 = .ok (.getfield 58, 3) := by decide +kernel
theorem dX11_item_95 : decode cX11_item 95 = .ok (.iload_n 1, 1) := by decide +kernel
theorem dX11_item_96 : decode cX11_item 96 = .ok (.invokevirtual 152, 3) := by decide +kernel
theorem dX11_item_99 : decode cX11_item 99 = .ok (.ireturn, 1) := by decide +kernel
theorem dX11_item_100 : decode cX11_item 100 = .ok (.aload_n 0, 1) := by decide +kernel
theorem dX11_item_101 : decode cX11_item 101 = .ok (.getfield 10, 3) := by decide +kernel
theorem dX11_item_104 : decode cX11_item 104 = .ok (.getfield 58, 3) := by decide +kernel
theorem dX11_item_107 : decode cX11_item 107 = .ok (.iload_n 1, 1) := by decide +kernel
theorem dX11_item_108 : decode cX11_item 108 = .ok (.invokevirtual 233, 3) := by decide +kernel
theorem dX11_item_111 : decode cX11_item 111 = .ok (.ireturn, 1) := by decide +kernel
theorem dX11_item_112 : decode cX11_item 112 = .ok (.aload_n 0, 1) := by decide +kernel
theorem dX11_item_113 : decode cX11_item 113 = .ok (.getfield 10, 3) := by decide +kernel
theorem dX11_item_116 : decode cX11_item 116 = .ok (.getfield 58, 3) := by decide +kernel
theorem dX11_item_119 : decode cX11_item 119 = .ok (.getfield 236, 3) := by decide +kernel
theorem dX11_item_122 : decode cX11_item 122 = .ok (.iload_n 1, 1) := by decide +kernel
theorem dX11_item_123 : decode cX11_item 123 = .ok (.invokestatic 90, 3) := by decide +kernel
theorem dX11_item_126 : decode cX11_item 126 = .ok (.ireturn, 1) := by decide +kernel
theorem dX11_item_127 : decode cX11_item 127 = .ok (.iload_n 1, 1) := by decide +kernel
theorem dX11_item_128 : decode cX11_item 128 = .ok (.aload_n 0, 1) := by decide +kernel
theorem dX11_item_129 : decode cX11_item 129 = .ok (.getfield 10, 3) := by decide +kernel
theorem dX11_item_132 : decode cX11_item 132 = .ok (.getfield 58, 3) := by decide +kernel
theorem dX11_item_135 : decode cX11_item 135 = .ok (.getfield 239, 3) := by decide +kernel
theorem dX11_item_138 : decode cX11_item 138 = .ok (.if_icmp .ge 7, 3) := by decide +kernel
theorem dX11_item_141 : decode cX11_item 141 = .ok (.iconst 1, 1) := by decide +kernel
theorem dX11_item_142 : decode cX11_item 142 = .ok (.goto 4, 3) := by decide +kernel
theorem dX11_item_145 : decode cX11_item 145 = .ok (.iconst 0, 1) := by decide +kernel
theorem dX11_item_146 : decode cX11_item 146 = .ok (.ireturn, 1) := by decide +kernel
theorem dX11_item_147 : decode cX11_item 147 = .ok (.iload_n 3, 1) := by decide +kernel
theorem dX11_item_148 : decode cX11_item 148 = .ok (.ireturn, 1) := by decide +kernel
theorem dX11_item_149 : decode cX11_item 149 = .ok (.aload_n 0, 1) := by decide +kernel
theorem dX11_item_150 : decode cX11_item 150 = .ok (.getfield 10, 3) := by decide +kernel
theorem dX11_item_153 : decode cX11_item 153 = .ok (.getfield 58, 3) := by decide +kernel
theorem dX11_item_156 : decode cX11_item 156 = .ok (.iload_n 1, 1) := by decide +kernel
theorem dX11_item_157 : decode cX11_item 157 = .ok (.iload_n 2, 1) := by decide +kernel
theorem dX11_item_158 : decode cX11_item 158 = .ok (.iconst 5, 1) := by decide +kernel
theorem dX11_item_159 : decode cX11_item 159 = .ok (.isub, 1) := by decide +kernel
theorem dX11_item_160 : decode cX11_item 160 = .ok (.invokevirtual 242, 3) := by decide +kernel
theorem dX11_item_163 : decode cX11_item 163 = .ok (.ireturn, 1) := by decide +kernel
set_option maxRecDepth 20000 in
theorem ggX11_entry_X11_isEntry : GoodIn wsX11_entry wsX11_isEntry := goodIn_r _ [12, 5, 6, 13, 93, 94, 95, 96, 97, 98, 99, 100, 101, 102, 103] (by decide +kernel) (by decide +kernel)
set_option maxRecDepth 20000 in
theorem gX11_entry_X11_isEntry : GoodIn wsX11_entry (wsV RX11 114 RX11 yX11_isEntry wsX11_isEntry) := goodIn_app (goodIn_of _ (by decide +kernel)) ggX11_entry_X11_isEntry
set_option maxRecDepth 20000 in
theorem ggX11_entry_X1_outlineOf : GoodIn wsX11_entry wsX1_outlineOf := goodIn_r _ [18, 19, 20, 21, 22, 23, 101, 102, 103] (by decide +kernel) (by decide +kernel)
set_option maxRecDepth 20000 in
theorem gX11_entry_X1_outlineOf : GoodIn wsX11_entry (wsV RX11 248 RX1 yX1_outlineOf wsX1_outlineOf) := goodIn_app (goodIn_of _ (by decide +kernel)) ggX11_entry_X1_outlineOf
set_option maxRecDepth 20000 in
theorem ggX11_entry_X1_wordOf : GoodIn wsX11_entry wsX1_wordOf := goodIn_r _ [27, 28, 20, 21, 22, 23, 101, 102, 103] (by decide +kernel) (by decide +kernel)
set_option maxRecDepth 20000 in
theorem gX11_entry_X1_wordOf : GoodIn wsX11_entry (wsV RX11 131 RX1 yX1_wordOf wsX1_wordOf) := goodIn_app (goodIn_of _ (by decide +kernel)) ggX11_entry_X1_wordOf
set_option maxRecDepth 20000 in
theorem ggX11_entry_X5_length : GoodIn wsX11_entry wsX5_length := goodIn_r _ [32, 33, 34, 31, 35] (by decide +kernel) (by decide +kernel)
set_option maxRecDepth 20000 in
theorem gX11_entry_X5_length : GoodIn wsX11_entry (va_wsS RX11 251 yX5_length wsX5_length) := goodIn_app (goodIn_of _ (by decide +kernel)) ggX11_entry_X5_length
set_option maxRecDepth 20000 in
theorem ggX11_entry_X5_strokeOf : GoodIn wsX11_entry wsX5_strokeOf := goodIn_r _ [35] (by decide +kernel) (by decide +kernel)
set_option maxRecDepth 20000 in
theorem gX11_entry_X5_strokeOf : GoodIn wsX11_entry (va_wsS RX11 254 yX5_strokeOf wsX5_strokeOf) := goodIn_app (goodIn_of _ (by decide +kernel)) ggX11_entry_X5_strokeOf
set_option maxRecDepth 20000 in
theorem ggX11_entry_X11_noneForZero : GoodIn wsX11_entry wsX11_noneForZero := goodIn_r _ [39] (by decide +kernel) (by decide +kernel)
set_option maxRecDepth 20000 in
theorem gX11_entry_X11_noneForZero : GoodIn wsX11_entry (va_wsS RX11 258 yX11_noneForZero wsX11_noneForZero) := goodIn_app (goodIn_of _ (by decide +kernel)) ggX11_entry_X11_noneForZero
set_option maxRecDepth 20000 in
theorem ggX11_entry_X9_length : GoodIn wsX11_entry wsX9_length := goodIn_r _ [43, 44, 45, 42, 46] (by decide +kernel) (by decide +kernel)
set_option maxRecDepth 20000 in
theorem gX11_entry_X9_length : GoodIn wsX11_entry (va_wsS RX11 261 yX9_length wsX9_length) := goodIn_app (goodIn_of _ (by decide +kernel)) ggX11_entry_X9_length
set_option maxRecDepth 20000 in
theorem ggX11_entry_X1_clashOf : GoodIn wsX11_entry wsX1_clashOf := goodIn_r _ [50, 51, 15, 16, 17, 18, 19, 20, 21, 22, 23, 52, 53, 54, 55, 56, 57, 30, 31, 32, 33, 34, 35, 58, 59, 60, 61, 62, 63, 64, 65, 66, 67, 68, 69, 70, 71, 72, 73, 74, 75, 76, 77, 78, 79, 80, 25, 26, 27, 28, 101, 102, 103] (by decide +kernel) (by decide +kernel)
set_option maxRecDepth 20000 in
theorem gX11_entry_X1_clashOf : GoodIn wsX11_entry (wsV RX11 264 RX1 yX1_clashOf wsX1_clashOf) := goodIn_app (goodIn_of _ (by decide +kernel)) ggX11_entry_X1_clashOf
set_option maxRecDepth 20000 in
theorem ggX11_entry_X7_openItemsOf : GoodIn wsX11_entry wsX7_openItemsOf := goodIn_r _ [85, 86, 87, 88, 89, 90, 22, 91, 104, 105, 106, 107, 108, 109, 110, 111, 112] (by decide +kernel) (by decide +kernel)
set_option maxRecDepth 20000 in
theorem gX11_entry_X7_openItemsOf : GoodIn wsX11_entry (wsV RX11 143 RX7 yX7_openItemsOf wsX7_openItemsOf) := goodIn_app (goodIn_of _ (by decide +kernel)) ggX11_entry_X7_openItemsOf
set_option maxRecDepth 20000 in
theorem ggX11_entry_X9_letterOf : GoodIn wsX11_entry wsX9_letterOf := goodIn_r _ [46] (by decide +kernel) (by decide +kernel)
set_option maxRecDepth 20000 in
theorem gX11_entry_X9_letterOf : GoodIn wsX11_entry (va_wsS RX11 267 yX9_letterOf wsX9_letterOf) := goodIn_app (goodIn_of _ (by decide +kernel)) ggX11_entry_X9_letterOf
theorem dX11_entry_0 : decode cX11_entry 0 = .ok (.aload_n 0, 1) := by decide +kernel
theorem dX11_entry_1 : decode cX11_entry 1 = .ok (.iload_n 1, 1) := by decide +kernel
theorem dX11_entry_2 : decode cX11_entry 2 = .ok (.invokevirtual 114, 3) := by decide +kernel
theorem dX11_entry_5 : decode cX11_entry 5 = .ok (.ifCond .ne 13, 3) := by decide +kernel
theorem dX11_entry_8 : decode cX11_entry 8 = .ok (.new 117, 3) := by decide +kernel
theorem dX11_entry_11 : decode cX11_entry 11 = .ok (.dup, 1) := by decide +kernel
theorem dX11_entry_12 : decode cX11_entry 12 = .ok (.ldc 119, 2) := by decide +kernel
theorem dX11_entry_14 : decode cX11_entry 14 = .ok (.invokespecial 121, 3) := by decide +kernel
theorem dX11_entry_17 : decode cX11_entry 17 = .ok (.athrow, 1) := by decide +kernel
theorem dX11_entry_18 : decode cX11_entry 18 = .ok (.iload_n 2, 1) := by decide +kernel
theorem dX11_entry_19 : decode cX11_entry 19 = .ok (.ifCond .lt 9, 3) := by decide +kernel
theorem dX11_entry_22 : decode cX11_entry 22 = .ok (.iload_n 2, 1) := by decide +kernel
theorem dX11_entry_23 : decode cX11_entry 23 = .ok (.bipush 16, 2) := by decide +kernel
theorem dX11_entry_25 : decode cX11_entry 25 = .ok (.if_icmp .lt 13, 3) := by decide +kernel
theorem dX11_entry_28 : decode cX11_entry 28 = .ok (.new 51, 3) := by decide +kernel
theorem dX11_entry_31 : decode cX11_entry 31 = .ok (.dup, 1) := by decide +kernel
theorem dX11_entry_32 : decode cX11_entry 32 = .ok (.ldc 246, 2) := by decide +kernel
theorem dX11_entry_34 : decode cX11_entry 34 = .ok (.invokespecial 55, 3) := by decide +kernel
theorem dX11_entry_37 : decode cX11_entry 37 = .ok (.athrow, 1) := by decide +kernel
theorem dX11_entry_38 : decode cX11_entry 38 = .ok (.aload_n 0, 1) := by decide +kernel
theorem dX11_entry_39 : decode cX11_entry 39 = .ok (.getfield 10, 3) := by decide +kernel
theorem dX11_entry_42 : decode cX11_entry 42 = .ok (.getfield 122, 3) := by decide +kernel
theorem dX11_entry_45 : decode cX11_entry 45 = .ok (.iload_n 1, 1) := by decide +kernel
theorem dX11_entry_46 : decode cX11_entry 46 = .ok (.invokevirtual 248, 3) := by decide +kernel
theorem dX11_entry_49 : decode cX11_entry 49 = .ok (.lstore_n 3, 1) := by decide +kernel
theorem dX11_entry_50 : decode cX11_entry 50 = .ok (.aload_n 0, 1) := by decide +kernel
theorem dX11_entry_51 : decode cX11_entry 51 = .ok (.getfield 10, 3) := by decide +kernel
theorem dX11_entry_54 : decode cX11_entry 54 = .ok (.getfield 122, 3) := by decide +kernel
theorem dX11_entry_57 : decode cX11_entry 57 = .ok (.iload_n 1, 1) := by decide +kernel
theorem dX11_entry_58 : decode cX11_entry 58 = .ok (.invokevirtual 131, 3) := by decide +kernel
theorem dX11_entry_61 : decode cX11_entry 61 = .ok (.lstore 5, 2) := by decide +kernel
theorem dX11_entry_63 : decode cX11_entry 63 = .ok (.iload_n 2, 1) := by decide +kernel
theorem dX11_entry_64 : decode cX11_entry 64 = .ok (.tableswitch 94 0 7 #[48, 53, 53, 53, 53, 64, 70, 82], 48) := by decide +kernel
theorem dX11_entry_112 : decode cX11_entry 112 = .ok (.lload_n 3, 1) := by decide +kernel
theorem dX11_entry_113 : decode cX11_entry 113 = .ok (.invokestatic 251, 3) := by decide +kernel
theorem dX11_entry_116 : decode cX11_entry 116 = .ok (.ireturn, 1) := by decide +kernel
theorem dX11_entry_117 : decode cX11_entry 117 = .ok (.lload_n 3, 1) := by decide +kernel
theorem dX11_entry_118 : decode cX11_entry 118 = .ok (.iload_n 2, 1) := by decide +kernel
theorem dX11_entry_119 : decode cX11_entry 119 = .ok (.iconst 1, 1) := by decide +kernel
theorem dX11_entry_120 : decode cX11_entry 120 = .ok (.isub, 1) := by decide +kernel
theorem dX11_entry_121 : decode cX11_entry 121 = .ok (.invokestatic 254, 3) := by decide +kernel
theorem dX11_entry_124 : decode cX11_entry 124 = .ok (.invokestatic 258, 3) := by decide +kernel
theorem dX11_entry_127 : decode cX11_entry 127 = .ok (.ireturn, 1) := by decide +kernel
theorem dX11_entry_128 : decode cX11_entry 128 = .ok (.lload 5, 2) := by decide +kernel
theorem dX11_entry_130 : decode cX11_entry 130 = .ok (.invokestatic 261, 3) := by decide +kernel
theorem dX11_entry_133 : decode cX11_entry 133 = .ok (.ireturn, 1) := by decide +kernel
theorem dX11_entry_134 : decode cX11_entry 134 = .ok (.aload_n 0, 1) := by decide +kernel
theorem dX11_entry_135 : decode cX11_entry 135 = .ok (.getfield 10, 3) := by decide +kernel
theorem dX11_entry_138 : decode cX11_entry 138 = .ok (.getfield 122, 3) := by decide +kernel
theorem dX11_entry_141 : decode cX11_entry 141 = .ok (.iload_n 1, 1) := by decide +kernel
theorem dX11_entry_142 : decode cX11_entry 142 = .ok (.invokevirtual 264, 3) := by decide +kernel
theorem dX11_entry_145 : decode cX11_entry 145 = .ok (.ireturn, 1) := by decide +kernel
theorem dX11_entry_146 : decode cX11_entry 146 = .ok (.aload_n 0, 1) := by decide +kernel
theorem dX11_entry_147 : decode cX11_entry 147 = .ok (.getfield 10, 3) := by decide +kernel
theorem dX11_entry_150 : decode cX11_entry 150 = .ok (.getfield 58, 3) := by decide +kernel
theorem dX11_entry_153 : decode cX11_entry 153 = .ok (.iload_n 1, 1) := by decide +kernel
theorem dX11_entry_154 : decode cX11_entry 154 = .ok (.invokevirtual 143, 3) := by decide +kernel
theorem dX11_entry_157 : decode cX11_entry 157 = .ok (.ireturn, 1) := by decide +kernel
theorem dX11_entry_158 : decode cX11_entry 158 = .ok (.lload 5, 2) := by decide +kernel
theorem dX11_entry_160 : decode cX11_entry 160 = .ok (.iload_n 2, 1) := by decide +kernel
theorem dX11_entry_161 : decode cX11_entry 161 = .ok (.bipush 8, 2) := by decide +kernel
theorem dX11_entry_163 : decode cX11_entry 163 = .ok (.isub, 1) := by decide +kernel
theorem dX11_entry_164 : decode cX11_entry 164 = .ok (.invokestatic 267, 3) := by decide +kernel
theorem dX11_entry_167 : decode cX11_entry 167 = .ok (.invokestatic 258, 3) := by decide +kernel
theorem dX11_entry_170 : decode cX11_entry 170 = .ok (.ireturn, 1) := by decide +kernel
set_option maxRecDepth 20000 in
theorem ggX11_count_X7_openStrokes : GoodIn wsX11_count wsX7_openStrokes := goodIn_r _ [17, 18, 19, 125, 126, 127, 128, 129, 130, 131, 132, 133] (by decide +kernel) (by decide +kernel)
set_option maxRecDepth 20000 in
theorem gX11_count_X7_openStrokes : GoodIn wsX11_count (wsV RX11 271 RX7 yX7_openStrokes wsX7_openStrokes) := goodIn_app (goodIn_of _ (by decide +kernel)) ggX11_count_X7_openStrokes
set_option maxRecDepth 20000 in
theorem ggX11_count_X7_allLetters : GoodIn wsX11_count wsX7_allLetters := goodIn_r _ [23, 24, 25, 26, 27, 16, 28, 29, 30, 31, 32, 33, 34, 35, 36, 37, 38, 39, 18, 40, 41, 42, 43, 44, 45, 46, 47, 48, 49, 50, 51, 52, 53, 54, 55, 56, 125, 126, 127, 128, 129, 130, 131, 132, 133] (by decide +kernel) (by decide +kernel)
set_option maxRecDepth 20000 in
theorem gX11_count_X7_allLetters : GoodIn wsX11_count (wsV RX11 274 RX7 yX7_allLetters wsX7_allLetters) := goodIn_app (goodIn_of _ (by decide +kernel)) ggX11_count_X7_allLetters
set_option maxRecDepth 20000 in
theorem ggX11_count_X7_openItemsOf : GoodIn wsX11_count wsX7_openItemsOf := goodIn_r _ [60, 61, 24, 62, 40, 41, 33, 42, 125, 126, 127, 128, 129, 130, 131, 132, 133] (by decide +kernel) (by decide +kernel)
set_option maxRecDepth 20000 in
theorem gX11_count_X7_openItemsOf : GoodIn wsX11_count (wsV RX11 143 RX7 yX7_openItemsOf wsX7_openItemsOf) := goodIn_app (goodIn_of _ (by decide +kernel)) ggX11_count_X7_openItemsOf
set_option maxRecDepth 20000 in
theorem ggX11_count_X1_clashes : GoodIn wsX11_count wsX1_clashes := goodIn_r _ [67, 68, 69, 70, 71, 66, 72, 73, 74, 75, 76, 77, 78, 32, 33, 34, 79, 80, 81, 82, 83, 84, 85, 86, 87, 88, 89, 90, 91, 92, 93, 94, 95, 96, 97, 98, 99, 100, 101, 102, 103, 104, 105, 106, 107, 108, 109, 110, 111, 112, 113, 114, 115, 116, 134, 135, 136] (by decide +kernel) (by decide +kernel)
set_option maxRecDepth 20000 in
theorem gX11_count_X1_clashes : GoodIn wsX11_count (wsV RX11 277 RX1 yX1_clashes wsX1_clashes) := goodIn_app (goodIn_of _ (by decide +kernel)) ggX11_count_X1_clashes
theorem dX11_count_0 : decode cX11_count 0 = .ok (.iload_n 1, 1) := by decide +kernel
theorem dX11_count_1 : decode cX11_count 1 = .ok (.ifCond .lt 9, 3) := by decide +kernel
theorem dX11_count_4 : decode cX11_count 4 = .ok (.iload_n 1, 1) := by decide +kernel
theorem dX11_count_5 : decode cX11_count 5 = .ok (.bipush 10, 2) := by decide +kernel
theorem dX11_count_7 : decode cX11_count 7 = .ok (.if_icmp .lt 14, 3) := by decide +kernel
theorem dX11_count_10 : decode cX11_count 10 = .ok (.new 51, 3) := by decide +kernel
theorem dX11_count_13 : decode cX11_count 13 = .ok (.dup, 1) := by decide +kernel
theorem dX11_count_14 : decode cX11_count 14 = .ok (.ldc_w 269, 3) := by decide +kernel
theorem dX11_count_17 : decode cX11_count 17 = .ok (.invokespecial 55, 3) := by decide +kernel
theorem dX11_count_20 : decode cX11_count 20 = .ok (.athrow, 1) := by decide +kernel
theorem dX11_count_21 : decode cX11_count 21 = .ok (.iload_n 1, 1) := by decide +kernel
theorem dX11_count_22 : decode cX11_count 22 = .ok (.tableswitch 150 0 8 #[50, 61, 72, 83, 94, 105, 116, 127, 139], 50) := by decide +kernel
theorem dX11_count_72 : decode cX11_count 72 = .ok (.aload_n 0, 1) := by decide +kernel
theorem dX11_count_73 : decode cX11_count 73 = .ok (.getfield 10, 3) := by decide +kernel
theorem dX11_count_76 : decode cX11_count 76 = .ok (.getfield 58, 3) := by decide +kernel
theorem dX11_count_79 : decode cX11_count 79 = .ok (.getfield 62, 3) := by decide +kernel
theorem dX11_count_82 : decode cX11_count 82 = .ok (.ireturn, 1) := by decide +kernel
theorem dX11_count_83 : decode cX11_count 83 = .ok (.aload_n 0, 1) := by decide +kernel
theorem dX11_count_84 : decode cX11_count 84 = .ok (.getfield 10, 3) := by decide +kernel
theorem dX11_count_87 : decode cX11_count 87 = .ok (.getfield 58, 3) := by decide +kernel
theorem dX11_count_90 : decode cX11_count 90 = .ok (.getfield 81, 3) := by decide +kernel
theorem dX11_count_93 : decode cX11_count 93 = .ok (.ireturn, 1) := by decide +kernel
theorem dX11_count_94 : decode cX11_count 94 = .ok (.aload_n 0, 1) := by decide +kernel
theorem dX11_count_95 : decode cX11_count 95 = .ok (.getfield 10, 3) := by decide +kernel
theorem dX11_count_98 : decode cX11_count 98 = .ok (.getfield 58, 3) := by decide +kernel
theorem dX11_count_101 : decode cX11_count 101 = .ok (.getfield 239, 3) := by decide +kernel
theorem dX11_count_104 : decode cX11_count 104 = .ok (.ireturn, 1) := by decide +kernel
theorem dX11_count_105 : decode cX11_count 105 = .ok (.aload_n 0, 1) := by decide +kernel
theorem dX11_count_106 : decode cX11_count 106 = .ok (.getfield 10, 3) := by decide +kernel
theorem dX11_count_109 : decode cX11_count 109 = .ok (.getfield 58, 3) := by decide +kernel
theorem dX11_count_112 : decode cX11_count 112 = .ok (.invokevirtual 271, 3) := by decide +kernel
theorem dX11_count_115 : decode cX11_count 115 = .ok (.ireturn, 1) := by decide +kernel
theorem dX11_count_116 : decode cX11_count 116 = .ok (.aload_n 0, 1) := by decide +kernel
theorem dX11_count_117 : decode cX11_count 117 = .ok (.getfield 10, 3) := by decide +kernel
theorem dX11_count_120 : decode cX11_count 120 = .ok (.getfield 122, 3) := by decide +kernel
theorem dX11_count_123 : decode cX11_count 123 = .ok (.getfield 176, 3) := by decide +kernel
theorem dX11_count_126 : decode cX11_count 126 = .ok (.ireturn, 1) := by decide +kernel
theorem dX11_count_127 : decode cX11_count 127 = .ok (.aload_n 0, 1) := by decide +kernel
theorem dX11_count_128 : decode cX11_count 128 = .ok (.getfield 10, 3) := by decide +kernel
theorem dX11_count_131 : decode cX11_count 131 = .ok (.getfield 58, 3) := by decide +kernel
theorem dX11_count_134 : decode cX11_count 134 = .ok (.getfield 111, 3) := by decide +kernel
theorem dX11_count_137 : decode cX11_count 137 = .ok (.ireturn, 1) := by decide +kernel
theorem dX11_count_138 : decode cX11_count 138 = .ok (.aload_n 0, 1) := by decide +kernel
theorem dX11_count_139 : decode cX11_count 139 = .ok (.getfield 10, 3) := by decide +kernel
theorem dX11_count_142 : decode cX11_count 142 = .ok (.getfield 58, 3) := by decide +kernel
theorem dX11_count_145 : decode cX11_count 145 = .ok (.invokevirtual 274, 3) := by decide +kernel
theorem dX11_count_148 : decode cX11_count 148 = .ok (.ireturn, 1) := by decide +kernel
theorem dX11_count_149 : decode cX11_count 149 = .ok (.aload_n 0, 1) := by decide +kernel
theorem dX11_count_150 : decode cX11_count 150 = .ok (.getfield 10, 3) := by decide +kernel
theorem dX11_count_153 : decode cX11_count 153 = .ok (.getfield 58, 3) := by decide +kernel
theorem dX11_count_156 : decode cX11_count 156 = .ok (.iconst (-1), 1) := by decide +kernel
theorem dX11_count_157 : decode cX11_count 157 = .ok (.invokevirtual 143, 3) := by decide +kernel
theorem dX11_count_160 : decode cX11_count 160 = .ok (.ireturn, 1) := by decide +kernel
theorem dX11_count_161 : decode cX11_count 161 = .ok (.aload_n 0, 1) := by decide +kernel
theorem dX11_count_162 : decode cX11_count 162 = .ok (.getfield 10, 3) := by decide +kernel
theorem dX11_count_165 : decode cX11_count 165 = .ok (.getfield 122, 3) := by decide +kernel
theorem dX11_count_168 : decode cX11_count 168 = .ok (.invokevirtual 277, 3) := by decide +kernel
theorem dX11_count_171 : decode cX11_count 171 = .ok (.ireturn, 1) := by decide +kernel
theorem dX11_count_172 : decode cX11_count 172 = .ok (.aload_n 0, 1) := by decide +kernel
theorem dX11_count_173 : decode cX11_count 173 = .ok (.getfield 22, 3) := by decide +kernel
theorem dX11_count_176 : decode cX11_count 176 = .ok (.getfield 210, 3) := by decide +kernel
theorem dX11_count_179 : decode cX11_count 179 = .ok (.ireturn, 1) := by decide +kernel
set_option maxRecDepth 20000 in
theorem ggX11_ifStroke_X11_isStroke : GoodIn wsX11_ifStroke wsX11_isStroke := goodIn_r _ [11] (by decide +kernel) (by decide +kernel)
set_option maxRecDepth 20000 in
theorem gX11_ifStroke_X11_isStroke : GoodIn wsX11_ifStroke (va_wsS RX11 47 yX11_isStroke wsX11_isStroke) := goodIn_app (goodIn_of _ (by decide +kernel)) ggX11_ifStroke_X11_isStroke
set_option maxRecDepth 20000 in
theorem ggX11_ifStroke_X8_copyFrom : GoodIn wsX11_ifStroke wsX8_copyFrom := goodIn_r _ [16, 17, 18, 19, 20, 21, 22, 23, 24, 25, 26, 27, 28, 29, 30, 31, 32, 33, 34, 35, 36, 37, 38, 39, 40, 41, 42, 43, 44, 45, 46, 47, 48, 49, 50, 51, 52, 53, 54, 55, 56, 164, 165, 175, 176, 177, 166, 167, 168, 169, 170, 171, 172, 173, 174] (by decide +kernel) (by decide +kernel)
set_option maxRecDepth 20000 in
theorem gX11_ifStroke_X8_copyFrom : GoodIn wsX11_ifStroke (wsV RX11 198 RX8 yX8_copyFrom wsX8_copyFrom) := goodIn_app (goodIn_of _ (by decide +kernel)) ggX11_ifStroke_X8_copyFrom
set_option maxRecDepth 20000 in
theorem ggX11_ifStroke_X8_press : GoodIn wsX11_ifStroke wsX8_press := goodIn_r _ [60, 18, 61, 62, 63, 42, 64, 44, 48, 65, 66, 29, 67, 68, 69, 70, 15, 71, 17, 72, 73, 74, 75, 50, 49, 51, 45, 46, 47, 52, 76, 77, 78, 22, 79, 80, 32, 33, 34, 81, 82, 83, 84, 85, 86, 87, 88, 89, 90, 91, 92, 93, 94, 95, 96, 97, 26, 24, 98, 99, 100, 101, 102, 103, 104, 25, 105, 106, 107, 108, 109, 110, 111, 112, 113, 114, 115, 116, 117, 118, 119, 120, 121, 122, 123, 124, 125, 126, 127, 128, 129, 130, 164, 165, 166, 167, 168, 169, 170, 171, 172, 173, 174, 175, 176, 177] (by decide +kernel) (by decide +kernel)
set_option maxRecDepth 20000 in
theorem gX11_ifStroke_X8_press : GoodIn wsX11_ifStroke (wsV RX11 77 RX8 yX8_press wsX8_press) := goodIn_app (goodIn_of _ (by decide +kernel)) ggX11_ifStroke_X8_press
set_option maxRecDepth 20000 in
theorem ggX11_ifStroke_X7_allLetters : GoodIn wsX11_ifStroke wsX7_allLetters := goodIn_r _ [134, 49, 135, 136, 137, 42, 138, 47, 44, 139, 99, 29, 100, 126, 127, 128, 129, 45, 48, 130, 86, 87, 140, 141, 142, 143, 144, 145, 146, 147, 148, 149, 150, 151, 152, 153, 166, 167, 168, 169, 170, 171, 172, 173, 174] (by decide +kernel) (by decide +kernel)
set_option maxRecDepth 20000 in
theorem gX11_ifStroke_X7_allLetters : GoodIn wsX11_ifStroke (wsV RX11 274 RX7 yX7_allLetters wsX7_allLetters) := goodIn_app (goodIn_of _ (by decide +kernel)) ggX11_ifStroke_X7_allLetters
set_option maxRecDepth 20000 in
theorem ggX11_ifStroke_X7_strokesOf : GoodIn wsX11_ifStroke wsX7_strokesOf := goodIn_r _ [157, 126, 127, 128, 42, 129, 49, 45, 48, 130, 86, 29, 87, 166, 167, 168, 169, 170, 171, 172, 173, 174] (by decide +kernel) (by decide +kernel)
set_option maxRecDepth 20000 in
theorem gX11_ifStroke_X7_strokesOf : GoodIn wsX11_ifStroke (wsV RX11 233 RX7 yX7_strokesOf wsX7_strokesOf) := goodIn_app (goodIn_of _ (by decide +kernel)) ggX11_ifStroke_X7_strokesOf
theorem dX11_ifStroke_0 : decode cX11_ifStroke 0 = .ok (.iload_n 1, 1) := by decide +kernel
theorem dX11_ifStroke_1 : decode cX11_ifStroke 1 = .ok (.invokestatic 47, 3) := by decide +kernel
theorem dX11_ifStroke_4 : decode cX11_ifStroke 4 = .ok (.ifCond .eq 12, 3) := by decide +kernel
theorem dX11_ifStroke_7 : decode cX11_ifStroke 7 = .ok (.iload_n 2, 1) := by decide +kernel
theorem dX11_ifStroke_8 : decode cX11_ifStroke 8 = .ok (.ifCond .lt 8, 3) := by decide +kernel
theorem dX11_ifStroke_11 : decode cX11_ifStroke 11 = .ok (.iload_n 2, 1) := by decide +kernel
theorem dX11_ifStroke_12 : decode cX11_ifStroke 12 = .ok (.iconst 4, 1) := by decide +kernel
theorem dX11_ifStroke_13 : decode cX11_ifStroke 13 = .ok (.if_icmp .lt 14, 3) := by decide +kernel
theorem dX11_ifStroke_16 : decode cX11_ifStroke 16 = .ok (.new 51, 3) := by decide +kernel
theorem dX11_ifStroke_19 : decode cX11_ifStroke 19 = .ok (.dup, 1) := by decide +kernel
theorem dX11_ifStroke_20 : decode cX11_ifStroke 20 = .ok (.ldc_w 280, 3) := by decide +kernel
theorem dX11_ifStroke_23 : decode cX11_ifStroke 23 = .ok (.invokespecial 55, 3) := by decide +kernel
theorem dX11_ifStroke_26 : decode cX11_ifStroke 26 = .ok (.athrow, 1) := by decide +kernel
theorem dX11_ifStroke_27 : decode cX11_ifStroke 27 = .ok (.aload_n 0, 1) := by decide +kernel
theorem dX11_ifStroke_28 : decode cX11_ifStroke 28 = .ok (.getfield 16, 3) := by decide +kernel
theorem dX11_ifStroke_31 : decode cX11_ifStroke 31 = .ok (.aload_n 0, 1) := by decide +kernel
theorem dX11_ifStroke_32 : decode cX11_ifStroke 32 = .ok (.getfield 10, 3) := by decide +kernel
theorem dX11_ifStroke_35 : decode cX11_ifStroke 35 = .ok (.invokevirtual 198, 3) := by decide +kernel
theorem dX11_ifStroke_38 : decode cX11_ifStroke 38 = .ok (.aload_n 0, 1) := by decide +kernel
theorem dX11_ifStroke_39 : decode cX11_ifStroke 39 = .ok (.getfield 16, 3) := by decide +kernel
theorem dX11_ifStroke_42 : decode cX11_ifStroke 42 = .ok (.iload_n 1, 1) := by decide +kernel
theorem dX11_ifStroke_43 : decode cX11_ifStroke 43 = .ok (.invokevirtual 77, 3) := by decide +kernel
theorem dX11_ifStroke_46 : decode cX11_ifStroke 46 = .ok (.iload_n 2, 1) := by decide +kernel
theorem dX11_ifStroke_47 : decode cX11_ifStroke 47 = .ok (.tableswitch 58 0 2 #[25, 36, 47], 25) := by decide +kernel
theorem dX11_ifStroke_72 : decode cX11_ifStroke 72 = .ok (.aload_n 0, 1) := by decide +kernel
theorem dX11_ifStroke_73 : decode cX11_ifStroke 73 = .ok (.getfield 16, 3) := by decide +kernel
theorem dX11_ifStroke_76 : decode cX11_ifStroke 76 = .ok (.getfield 58, 3) := by decide +kernel
theorem dX11_ifStroke_79 : decode cX11_ifStroke 79 = .ok (.getfield 81, 3) := by decide +kernel
theorem dX11_ifStroke_82 : decode cX11_ifStroke 82 = .ok (.ireturn, 1) := by decide +kernel
theorem dX11_ifStroke_83 : decode cX11_ifStroke 83 = .ok (.aload_n 0, 1) := by decide +kernel
theorem dX11_ifStroke_84 : decode cX11_ifStroke 84 = .ok (.getfield 16, 3) := by decide +kernel
theorem dX11_ifStroke_87 : decode cX11_ifStroke 87 = .ok (.getfield 58, 3) := by decide +kernel
theorem dX11_ifStroke_90 : decode cX11_ifStroke 90 = .ok (.getfield 239, 3) := by decide +kernel
theorem dX11_ifStroke_93 : decode cX11_ifStroke 93 = .ok (.ireturn, 1) := by decide +kernel
theorem dX11_ifStroke_94 : decode cX11_ifStroke 94 = .ok (.aload_n 0, 1) := by decide +kernel
theorem dX11_ifStroke_95 : decode cX11_ifStroke 95 = .ok (.getfield 16, 3) := by decide +kernel
theorem dX11_ifStroke_98 : decode cX11_ifStroke 98 = .ok (.getfield 58, 3) := by decide +kernel
theorem dX11_ifStroke_101 : decode cX11_ifStroke 101 = .ok (.invokevirtual 274, 3) := by decide +kernel
theorem dX11_ifStroke_104 : decode cX11_ifStroke 104 = .ok (.ireturn, 1) := by decide +kernel
theorem dX11_ifStroke_105 : decode cX11_ifStroke 105 = .ok (.aload_n 0, 1) := by decide +kernel
theorem dX11_ifStroke_106 : decode cX11_ifStroke 106 = .ok (.getfield 16, 3) := by decide +kernel
theorem dX11_ifStroke_109 : decode cX11_ifStroke 109 = .ok (.getfield 58, 3) := by decide +kernel
theorem dX11_ifStroke_112 : decode cX11_ifStroke 112 = .ok (.aload_n 0, 1) := by decide +kernel
theorem dX11_ifStroke_113 : decode cX11_ifStroke 113 = .ok (.getfield 16, 3) := by decide +kernel
theorem dX11_ifStroke_116 : decode cX11_ifStroke 116 = .ok (.getfield 58, 3) := by decide +kernel
theorem dX11_ifStroke_119 : decode cX11_ifStroke 119 = .ok (.getfield 81, 3) := by decide +kernel
theorem dX11_ifStroke_122 : decode cX11_ifStroke 122 = .ok (.iconst 1, 1) := by decide +kernel
theorem dX11_ifStroke_123 : decode cX11_ifStroke 123 = .ok (.isub, 1) := by decide +kernel
theorem dX11_ifStroke_124 : decode cX11_ifStroke 124 = .ok (.invokevirtual 233, 3) := by decide +kernel
theorem dX11_ifStroke_127 : decode cX11_ifStroke 127 = .ok (.ireturn, 1) := by decide +kernel
set_option maxRecDepth 20000 in
theorem ggX11_ifRemoved_X11_isEntry : GoodIn wsX11_ifRemoved wsX11_isEntry := goodIn_r _ [11, 4, 5, 12, 135, 136, 137, 138, 139, 140, 141, 142, 143, 144, 145] (by decide +kernel) (by decide +kernel)
set_option maxRecDepth 20000 in
theorem gX11_ifRemoved_X11_isEntry : GoodIn wsX11_ifRemoved (wsV RX11 114 RX11 yX11_isEntry wsX11_isEntry) := goodIn_app (goodIn_of _ (by decide +kernel)) ggX11_ifRemoved_X11_isEntry
set_option maxRecDepth 20000 in
theorem ggX11_ifRemoved_X8_copyFrom : GoodIn wsX11_ifRemoved wsX8_copyFrom := goodIn_r _ [17, 18, 19, 20, 21, 22, 23, 24, 25, 26, 27, 28, 29, 30, 31, 32, 33, 34, 35, 36, 37, 38, 39, 40, 41, 42, 43, 44, 45, 46, 47, 48, 49, 50, 51, 52, 53, 54, 55, 56, 57, 141, 142, 143, 144, 145, 146, 147, 148, 149, 150, 151, 152, 153, 154] (by decide +kernel) (by decide +kernel)
set_option maxRecDepth 20000 in
theorem gX11_ifRemoved_X8_copyFrom : GoodIn wsX11_ifRemoved (wsV RX11 198 RX8 yX8_copyFrom wsX8_copyFrom) := goodIn_app (goodIn_of _ (by decide +kernel)) ggX11_ifRemoved_X8_copyFrom
set_option maxRecDepth 20000 in
theorem ggX11_ifRemoved_X1_remove : GoodIn wsX11_ifRemoved wsX1_remove := goodIn_r _ [61, 27, 25, 26, 62, 63, 64, 23, 65, 66, 67, 30, 68, 69, 70, 71, 72, 73, 74, 75, 143, 144, 145] (by decide +kernel) (by decide +kernel)
set_option maxRecDepth 20000 in
theorem gX11_ifRemoved_X1_remove : GoodIn wsX11_ifRemoved (wsV RX11 126 RX1 yX1_remove wsX1_remove) := goodIn_app (goodIn_of _ (by decide +kernel)) ggX11_ifRemoved_X1_remove
set_option maxRecDepth 20000 in
theorem ggX11_ifRemoved_X8_translate : GoodIn wsX11_ifRemoved wsX8_translate := goodIn_r _ [79, 19, 18, 80, 81, 82, 43, 83, 51, 50, 52, 49, 45, 46, 47, 48, 53, 84, 85, 86, 23, 87, 88, 33, 34, 35, 89, 90, 91, 92, 93, 94, 30, 95, 96, 97, 98, 99, 100, 101, 102, 103, 104, 105, 27, 25, 66, 67, 68, 106, 107, 108, 109, 73, 74, 75, 26, 110, 70, 71, 111, 63, 64, 65, 112, 113, 114, 115, 116, 117, 118, 119, 120, 121, 122, 123, 124, 125, 126, 127, 128, 129, 130, 141, 142, 146, 147, 148, 149, 150, 151, 152, 153, 154, 143, 144, 145] (by decide +kernel) (by decide +kernel)
set_option maxRecDepth 20000 in
theorem gX11_ifRemoved_X8_translate : GoodIn wsX11_ifRemoved (wsV RX11 99 RX8 yX8_translate wsX8_translate) := goodIn_app (goodIn_of _ (by decide +kernel)) ggX11_ifRemoved_X8_translate
set_option maxRecDepth 20000 in
theorem ggX11_ifRemoved_X7_openItems : GoodIn wsX11_ifRemoved wsX7_openItems := goodIn_r _ [134, 50, 51, 146, 147, 148, 149, 150, 151, 152, 153, 154] (by decide +kernel) (by decide +kernel)
set_option maxRecDepth 20000 in
theorem gX11_ifRemoved_X7_openItems : GoodIn wsX11_ifRemoved (wsV RX11 102 RX7 yX7_openItems wsX7_openItems) := goodIn_app (goodIn_of _ (by decide +kernel)) ggX11_ifRemoved_X7_openItems
theorem dX11_ifRemoved_0 : decode cX11_ifRemoved 0 = .ok (.aload_n 0, 1) := by decide +kernel
theorem dX11_ifRemoved_1 : decode cX11_ifRemoved 1 = .ok (.iload_n 1, 1) := by decide +kernel
theorem dX11_ifRemoved_2 : decode cX11_ifRemoved 2 = .ok (.invokevirtual 114, 3) := by decide +kernel
theorem dX11_ifRemoved_5 : decode cX11_ifRemoved 5 = .ok (.ifCond .ne 13, 3) := by decide +kernel
theorem dX11_ifRemoved_8 : decode cX11_ifRemoved 8 = .ok (.new 117, 3) := by decide +kernel
theorem dX11_ifRemoved_11 : decode cX11_ifRemoved 11 = .ok (.dup, 1) := by decide +kernel
theorem dX11_ifRemoved_12 : decode cX11_ifRemoved 12 = .ok (.ldc 119, 2) := by decide +kernel
theorem dX11_ifRemoved_14 : decode cX11_ifRemoved 14 = .ok (.invokespecial 121, 3) := by decide +kernel
theorem dX11_ifRemoved_17 : decode cX11_ifRemoved 17 = .ok (.athrow, 1) := by decide +kernel
theorem dX11_ifRemoved_18 : decode cX11_ifRemoved 18 = .ok (.aload_n 0, 1) := by decide +kernel
theorem dX11_ifRemoved_19 : decode cX11_ifRemoved 19 = .ok (.getfield 16, 3) := by decide +kernel
theorem dX11_ifRemoved_22 : decode cX11_ifRemoved 22 = .ok (.aload_n 0, 1) := by decide +kernel
theorem dX11_ifRemoved_23 : decode cX11_ifRemoved 23 = .ok (.getfield 10, 3) := by decide +kernel
theorem dX11_ifRemoved_26 : decode cX11_ifRemoved 26 = .ok (.invokevirtual 198, 3) := by decide +kernel
theorem dX11_ifRemoved_29 : decode cX11_ifRemoved 29 = .ok (.aload_n 0, 1) := by decide +kernel
theorem dX11_ifRemoved_30 : decode cX11_ifRemoved 30 = .ok (.getfield 16, 3) := by decide +kernel
theorem dX11_ifRemoved_33 : decode cX11_ifRemoved 33 = .ok (.getfield 122, 3) := by decide +kernel
theorem dX11_ifRemoved_36 : decode cX11_ifRemoved 36 = .ok (.iload_n 1, 1) := by decide +kernel
theorem dX11_ifRemoved_37 : decode cX11_ifRemoved 37 = .ok (.invokevirtual 126, 3) := by decide +kernel
theorem dX11_ifRemoved_40 : decode cX11_ifRemoved 40 = .ok (.aload_n 0, 1) := by decide +kernel
theorem dX11_ifRemoved_41 : decode cX11_ifRemoved 41 = .ok (.getfield 16, 3) := by decide +kernel
theorem dX11_ifRemoved_44 : decode cX11_ifRemoved 44 = .ok (.invokevirtual 99, 3) := by decide +kernel
theorem dX11_ifRemoved_47 : decode cX11_ifRemoved 47 = .ok (.aload_n 0, 1) := by decide +kernel
theorem dX11_ifRemoved_48 : decode cX11_ifRemoved 48 = .ok (.getfield 16, 3) := by decide +kernel
theorem dX11_ifRemoved_51 : decode cX11_ifRemoved 51 = .ok (.getfield 58, 3) := by decide +kernel
theorem dX11_ifRemoved_54 : decode cX11_ifRemoved 54 = .ok (.invokevirtual 102, 3) := by decide +kernel
theorem dX11_ifRemoved_57 : decode cX11_ifRemoved 57 = .ok (.ireturn, 1) := by decide +kernel
set_option maxRecDepth 20000 in
theorem ggX11_shortest_X11_isEntry : GoodIn wsX11_shortest wsX11_isEntry := goodIn_r _ [9, 3, 4, 10, 49, 50, 51, 52, 53, 54, 55, 56, 57, 58, 59] (by decide +kernel) (by decide +kernel)
set_option maxRecDepth 20000 in
theorem gX11_shortest_X11_isEntry : GoodIn wsX11_shortest (wsV RX11 114 RX11 yX11_isEntry wsX11_isEntry) := goodIn_app (goodIn_of _ (by decide +kernel)) ggX11_shortest_X11_isEntry
set_option maxRecDepth 20000 in
theorem ggX11_shortest_X1_shortestLike : GoodIn wsX11_shortest wsX1_shortestLike := goodIn_r _ [15, 16, 17, 18, 19, 14, 20, 21, 22, 23, 24, 25, 26, 27, 28, 29, 30, 31, 32, 33, 34, 35, 36, 37, 38, 39, 40, 41, 42, 43, 44, 45, 46, 47, 48, 57, 58, 59] (by decide +kernel) (by decide +kernel)
set_option maxRecDepth 20000 in
theorem gX11_shortest_X1_shortestLike : GoodIn wsX11_shortest (wsV RX11 293 RX1 yX1_shortestLike wsX1_shortestLike) := goodIn_app (goodIn_of _ (by decide +kernel)) ggX11_shortest_X1_shortestLike
theorem dX11_shortest_0 : decode cX11_shortest 0 = .ok (.aload_n 0, 1) := by decide +kernel
theorem dX11_shortest_1 : decode cX11_shortest 1 = .ok (.iload_n 1, 1) := by decide +kernel
theorem dX11_shortest_2 : decode cX11_shortest 2 = .ok (.invokevirtual 114, 3) := by decide +kernel
theorem dX11_shortest_5 : decode cX11_shortest 5 = .ok (.ifCond .ne 13, 3) := by decide +kernel
theorem dX11_shortest_8 : decode cX11_shortest 8 = .ok (.new 117, 3) := by decide +kernel
theorem dX11_shortest_11 : decode cX11_shortest 11 = .ok (.dup, 1) := by decide +kernel
theorem dX11_shortest_12 : decode cX11_shortest 12 = .ok (.ldc 119, 2) := by decide +kernel
theorem dX11_shortest_14 : decode cX11_shortest 14 = .ok (.invokespecial 121, 3) := by decide +kernel
theorem dX11_shortest_17 : decode cX11_shortest 17 = .ok (.athrow, 1) := by decide +kernel
theorem dX11_shortest_18 : decode cX11_shortest 18 = .ok (.aload_n 0, 1) := by decide +kernel
theorem dX11_shortest_19 : decode cX11_shortest 19 = .ok (.getfield 10, 3) := by decide +kernel
theorem dX11_shortest_22 : decode cX11_shortest 22 = .ok (.getfield 122, 3) := by decide +kernel
theorem dX11_shortest_25 : decode cX11_shortest 25 = .ok (.iload_n 1, 1) := by decide +kernel
theorem dX11_shortest_26 : decode cX11_shortest 26 = .ok (.invokevirtual 293, 3) := by decide +kernel
theorem dX11_shortest_29 : decode cX11_shortest 29 = .ok (.ireturn, 1) := by decide +kernel
set_option maxRecDepth 20000 in
theorem ggX11_lettersPerStroke_X7_allLetters : GoodIn wsX11_lettersPerStroke wsX7_allLetters := goodIn_r _ [8, 9, 10, 11, 12, 7, 13, 14, 15, 16, 17, 18, 19, 20, 21, 22, 23, 24, 25, 26, 27, 28, 29, 30, 31, 32, 33, 34, 35, 36, 37, 38, 39, 40, 41, 42, 51, 52, 53, 54, 55, 56, 57, 58, 59] (by decide +kernel) (by decide +kernel)
set_option maxRecDepth 20000 in
theorem gX11_lettersPerStroke_X7_allLetters : GoodIn wsX11_lettersPerStroke (wsV RX11 274 RX7 yX7_allLetters wsX7_allLetters) := goodIn_app (goodIn_of _ (by decide +kernel)) ggX11_lettersPerStroke_X7_allLetters
theorem dX11_lettersPerStroke_0 : decode cX11_lettersPerStroke 0 = .ok (.aload_n 0, 1) := by decide +kernel
theorem dX11_lettersPerStroke_1 : decode cX11_lettersPerStroke 1 = .ok (.getfield 10, 3) := by decide +kernel
theorem dX11_lettersPerStroke_4 : decode cX11_lettersPerStroke 4 = .ok (.getfield 58, 3) := by decide +kernel
theorem dX11_lettersPerStroke_7 : decode cX11_lettersPerStroke 7 = .ok (.getfield 62, 3) := by decide +kernel
theorem dX11_lettersPerStroke_10 : decode cX11_lettersPerStroke 10 = .ok (.istore_n 1, 1) := by decide +kernel
theorem dX11_lettersPerStroke_11 : decode cX11_lettersPerStroke 11 = .ok (.iload_n 1, 1) := by decide +kernel
theorem dX11_lettersPerStroke_12 : decode cX11_lettersPerStroke 12 = .ok (.ifCond .ne 7, 3) := by decide +kernel
theorem dX11_lettersPerStroke_15 : decode cX11_lettersPerStroke 15 = .ok (.dconst 0, 1) := by decide +kernel
theorem dX11_lettersPerStroke_16 : decode cX11_lettersPerStroke 16 = .ok (.goto 17, 3) := by decide +kernel
theorem dX11_lettersPerStroke_19 : decode cX11_lettersPerStroke 19 = .ok (.aload_n 0, 1) := by decide +kernel
theorem dX11_lettersPerStroke_20 : decode cX11_lettersPerStroke 20 = .ok (.getfield 10, 3) := by decide +kernel
theorem dX11_lettersPerStroke_23 : decode cX11_lettersPerStroke 23 = .ok (.getfield 58, 3) := by decide +kernel
theorem dX11_lettersPerStroke_26 : decode cX11_lettersPerStroke 26 = .ok (.invokevirtual 274, 3) := by decide +kernel
theorem dX11_lettersPerStroke_29 : decode cX11_lettersPerStroke 29 = .ok (.i2d, 1) := by decide +kernel
theorem dX11_lettersPerStroke_30 : decode cX11_lettersPerStroke 30 = .ok (.iload_n 1, 1) := by decide +kernel
theorem dX11_lettersPerStroke_31 : decode cX11_lettersPerStroke 31 = .ok (.i2d, 1) := by decide +kernel
theorem dX11_lettersPerStroke_32 : decode cX11_lettersPerStroke 32 = .ok (.ddiv, 1) := by decide +kernel
theorem dX11_lettersPerStroke_33 : decode cX11_lettersPerStroke 33 = .ok (.dreturn, 1) := by decide +kernel
theorem dX11_isStroke_0 : decode cX11_isStroke 0 = .ok (.iload_n 0, 1) := by decide +kernel
theorem dX11_isStroke_1 : decode cX11_isStroke 1 = .ok (.iconst 1, 1) := by decide +kernel
theorem dX11_isStroke_2 : decode cX11_isStroke 2 = .ok (.if_icmp .lt 14, 3) := by decide +kernel
theorem dX11_isStroke_5 : decode cX11_isStroke 5 = .ok (.iload_n 0, 1) := by decide +kernel
theorem dX11_isStroke_6 : decode cX11_isStroke 6 = .ok (.sipush 4095, 3) := by decide +kernel
theorem dX11_isStroke_9 : decode cX11_isStroke 9 = .ok (.if_icmp .gt 7, 3) := by decide +kernel
theorem dX11_isStroke_12 : decode cX11_isStroke 12 = .ok (.iconst 1, 1) := by decide +kernel
theorem dX11_isStroke_13 : decode cX11_isStroke 13 = .ok (.goto 4, 3) := by decide +kernel
theorem dX11_isStroke_16 : decode cX11_isStroke 16 = .ok (.iconst 0, 1) := by decide +kernel
theorem dX11_isStroke_17 : decode cX11_isStroke 17 = .ok (.ireturn, 1) := by decide +kernel
theorem dX11_isItem_0 : decode cX11_isItem 0 = .ok (.iload_n 1, 1) := by decide +kernel
theorem dX11_isItem_1 : decode cX11_isItem 1 = .ok (.ifCond .lt 21, 3) := by decide +kernel
theorem dX11_isItem_4 : decode cX11_isItem 4 = .ok (.iload_n 1, 1) := by decide +kernel
theorem dX11_isItem_5 : decode cX11_isItem 5 = .ok (.aload_n 0, 1) := by decide +kernel
theorem dX11_isItem_6 : decode cX11_isItem 6 = .ok (.getfield 10, 3) := by decide +kernel
theorem dX11_isItem_9 : decode cX11_isItem 9 = .ok (.getfield 58, 3) := by decide +kernel
theorem dX11_isItem_12 : decode cX11_isItem 12 = .ok (.getfield 81, 3) := by decide +kernel
theorem dX11_isItem_15 : decode cX11_isItem 15 = .ok (.if_icmp .ge 7, 3) := by decide +kernel
theorem dX11_isItem_18 : decode cX11_isItem 18 = .ok (.iconst 1, 1) := by decide +kernel
theorem dX11_isItem_19 : decode cX11_isItem 19 = .ok (.goto 4, 3) := by decide +kernel
theorem dX11_isItem_22 : decode cX11_isItem 22 = .ok (.iconst 0, 1) := by decide +kernel
theorem dX11_isItem_23 : decode cX11_isItem 23 = .ok (.ireturn, 1) := by decide +kernel
theorem dX11_isEntry_0 : decode cX11_isEntry 0 = .ok (.iload_n 1, 1) := by decide +kernel
theorem dX11_isEntry_1 : decode cX11_isEntry 1 = .ok (.ifCond .lt 21, 3) := by decide +kernel
theorem dX11_isEntry_4 : decode cX11_isEntry 4 = .ok (.iload_n 1, 1) := by decide +kernel
theorem dX11_isEntry_5 : decode cX11_isEntry 5 = .ok (.aload_n 0, 1) := by decide +kernel
theorem dX11_isEntry_6 : decode cX11_isEntry 6 = .ok (.getfield 10, 3) := by decide +kernel
theorem dX11_isEntry_9 : decode cX11_isEntry 9 = .ok (.getfield 122, 3) := by decide +kernel
theorem dX11_isEntry_12 : decode cX11_isEntry 12 = .ok (.getfield 176, 3) := by decide +kernel
theorem dX11_isEntry_15 : decode cX11_isEntry 15 = .ok (.if_icmp .ge 7, 3) := by decide +kernel
theorem dX11_isEntry_18 : decode cX11_isEntry 18 = .ok (.iconst 1, 1) := by decide +kernel
theorem dX11_isEntry_19 : decode cX11_isEntry 19 = .ok (.goto 4, 3) := by decide +kernel
theorem dX11_isEntry_22 : decode cX11_isEntry 22 = .ok (.iconst 0, 1) := by decide +kernel
theorem dX11_isEntry_23 : decode cX11_isEntry 23 = .ok (.ireturn, 1) := by decide +kernel
theorem dX11_noneForZero_0 : decode cX11_noneForZero 0 = .ok (.iload_n 0, 1) := by decide +kernel
theorem dX11_noneForZero_1 : decode cX11_noneForZero 1 = .ok (.ifCond .ne 7, 3) := by decide +kernel
theorem dX11_noneForZero_4 : decode cX11_noneForZero 4 = .ok (.iconst (-1), 1) := by decide +kernel
theorem dX11_noneForZero_5 : decode cX11_noneForZero 5 = .ok (.goto 4, 3) := by decide +kernel
theorem dX11_noneForZero_8 : decode cX11_noneForZero 8 = .ok (.iload_n 0, 1) := by decide +kernel
theorem dX11_noneForZero_9 : decode cX11_noneForZero 9 = .ok (.ireturn, 1) := by decide +kernel
theorem dJ6_bitCount_0f7a4_0 : decode cJ6_bitCount_0f7a4 0 = .ok (.iload_n 0, 1) := by decide +kernel
theorem dJ6_bitCount_0f7a4_1 : decode cJ6_bitCount_0f7a4 1 = .ok (.iload_n 0, 1) := by decide +kernel
theorem dJ6_bitCount_0f7a4_2 : decode cJ6_bitCount_0f7a4 2 = .ok (.iconst 1, 1) := by decide +kernel
theorem dJ6_bitCount_0f7a4_3 : decode cJ6_bitCount_0f7a4 3 = .ok (.iushr, 1) := by decide +kernel
theorem dJ6_bitCount_0f7a4_4 : decode cJ6_bitCount_0f7a4 4 = .ok (.ldc_w 265, 3) := by decide +kernel
theorem dJ6_bitCount_0f7a4_7 : decode cJ6_bitCount_0f7a4 7 = .ok (.iand, 1) := by decide +kernel
theorem dJ6_bitCount_0f7a4_8 : decode cJ6_bitCount_0f7a4 8 = .ok (.isub, 1) := by decide +kernel
theorem dJ6_bitCount_0f7a4_9 : decode cJ6_bitCount_0f7a4 9 = .ok (.istore_n 0, 1) := by decide +kernel
theorem dJ6_bitCount_0f7a4_10 : decode cJ6_bitCount_0f7a4 10 = .ok (.iload_n 0, 1) := by decide +kernel
theorem dJ6_bitCount_0f7a4_11 : decode cJ6_bitCount_0f7a4 11 = .ok (.ldc_w 266, 3) := by decide +kernel
theorem dJ6_bitCount_0f7a4_14 : decode cJ6_bitCount_0f7a4 14 = .ok (.iand, 1) := by decide +kernel
theorem dJ6_bitCount_0f7a4_15 : decode cJ6_bitCount_0f7a4 15 = .ok (.iload_n 0, 1) := by decide +kernel
theorem dJ6_bitCount_0f7a4_16 : decode cJ6_bitCount_0f7a4 16 = .ok (.iconst 2, 1) := by decide +kernel
theorem dJ6_bitCount_0f7a4_17 : decode cJ6_bitCount_0f7a4 17 = .ok (.iushr, 1) := by decide +kernel
theorem dJ6_bitCount_0f7a4_18 : decode cJ6_bitCount_0f7a4 18 = .ok (.ldc_w 266, 3) := by decide +kernel
theorem dJ6_bitCount_0f7a4_21 : decode cJ6_bitCount_0f7a4 21 = .ok (.iand, 1) := by decide +kernel
theorem dJ6_bitCount_0f7a4_22 : decode cJ6_bitCount_0f7a4 22 = .ok (.iadd, 1) := by decide +kernel
theorem dJ6_bitCount_0f7a4_23 : decode cJ6_bitCount_0f7a4 23 = .ok (.istore_n 0, 1) := by decide +kernel
theorem dJ6_bitCount_0f7a4_24 : decode cJ6_bitCount_0f7a4 24 = .ok (.iload_n 0, 1) := by decide +kernel
theorem dJ6_bitCount_0f7a4_25 : decode cJ6_bitCount_0f7a4 25 = .ok (.iload_n 0, 1) := by decide +kernel
theorem dJ6_bitCount_0f7a4_26 : decode cJ6_bitCount_0f7a4 26 = .ok (.iconst 4, 1) := by decide +kernel
theorem dJ6_bitCount_0f7a4_27 : decode cJ6_bitCount_0f7a4 27 = .ok (.iushr, 1) := by decide +kernel
theorem dJ6_bitCount_0f7a4_28 : decode cJ6_bitCount_0f7a4 28 = .ok (.iadd, 1) := by decide +kernel
theorem dJ6_bitCount_0f7a4_29 : decode cJ6_bitCount_0f7a4 29 = .ok (.ldc_w 267, 3) := by decide +kernel
theorem dJ6_bitCount_0f7a4_32 : decode cJ6_bitCount_0f7a4 32 = .ok (.iand, 1) := by decide +kernel
theorem dJ6_bitCount_0f7a4_33 : decode cJ6_bitCount_0f7a4 33 = .ok (.istore_n 0, 1) := by decide +kernel
theorem dJ6_bitCount_0f7a4_34 : decode cJ6_bitCount_0f7a4 34 = .ok (.iload_n 0, 1) := by decide +kernel
theorem dJ6_bitCount_0f7a4_35 : decode cJ6_bitCount_0f7a4 35 = .ok (.iload_n 0, 1) := by decide +kernel
theorem dJ6_bitCount_0f7a4_36 : decode cJ6_bitCount_0f7a4 36 = .ok (.bipush 8, 2) := by decide +kernel
theorem dJ6_bitCount_0f7a4_38 : decode cJ6_bitCount_0f7a4 38 = .ok (.iushr, 1) := by decide +kernel
theorem dJ6_bitCount_0f7a4_39 : decode cJ6_bitCount_0f7a4 39 = .ok (.iadd, 1) := by decide +kernel
theorem dJ6_bitCount_0f7a4_40 : decode cJ6_bitCount_0f7a4 40 = .ok (.istore_n 0, 1) := by decide +kernel
theorem dJ6_bitCount_0f7a4_41 : decode cJ6_bitCount_0f7a4 41 = .ok (.iload_n 0, 1) := by decide +kernel
theorem dJ6_bitCount_0f7a4_42 : decode cJ6_bitCount_0f7a4 42 = .ok (.iload_n 0, 1) := by decide +kernel
theorem dJ6_bitCount_0f7a4_43 : decode cJ6_bitCount_0f7a4 43 = .ok (.bipush 16, 2) := by decide +kernel
theorem dJ6_bitCount_0f7a4_45 : decode cJ6_bitCount_0f7a4 45 = .ok (.iushr, 1) := by decide +kernel
theorem dJ6_bitCount_0f7a4_46 : decode cJ6_bitCount_0f7a4 46 = .ok (.iadd, 1) := by decide +kernel
theorem dJ6_bitCount_0f7a4_47 : decode cJ6_bitCount_0f7a4 47 = .ok (.istore_n 0, 1) := by decide +kernel
theorem dJ6_bitCount_0f7a4_48 : decode cJ6_bitCount_0f7a4 48 = .ok (.iload_n 0, 1) := by decide +kernel
theorem dJ6_bitCount_0f7a4_49 : decode cJ6_bitCount_0f7a4 49 = .ok (.bipush 63, 2) := by decide +kernel
theorem dJ6_bitCount_0f7a4_51 : decode cJ6_bitCount_0f7a4 51 = .ok (.iand, 1) := by decide +kernel
theorem dJ6_bitCount_0f7a4_52 : decode cJ6_bitCount_0f7a4 52 = .ok (.ireturn, 1) := by decide +kernel
theorem dJ13_bitCount_95d88_0 : decode cJ13_bitCount_95d88 0 = .ok (.lload_n 0, 1) := by decide +kernel
theorem dJ13_bitCount_95d88_1 : decode cJ13_bitCount_95d88 1 = .ok (.lload_n 0, 1) := by decide +kernel
theorem dJ13_bitCount_95d88_2 : decode cJ13_bitCount_95d88 2 = .ok (.iconst 1, 1) := by decide +kernel
theorem dJ13_bitCount_95d88_3 : decode cJ13_bitCount_95d88 3 = .ok (.lushr, 1) := by decide +kernel
theorem dJ13_bitCount_95d88_4 : decode cJ13_bitCount_95d88 4 = .ok (.ldc2_w 314, 3) := by decide +kernel
theorem dJ13_bitCount_95d88_7 : decode cJ13_bitCount_95d88 7 = .ok (.land, 1) := by decide +kernel
theorem dJ13_bitCount_95d88_8 : decode cJ13_bitCount_95d88 8 = .ok (.lsub, 1) := by decide +kernel
theorem dJ13_bitCount_95d88_9 : decode cJ13_bitCount_95d88 9 = .ok (.lstore_n 0, 1) := by decide +kernel
theorem dJ13_bitCount_95d88_10 : decode cJ13_bitCount_95d88 10 = .ok (.lload_n 0, 1) := by decide +kernel
theorem dJ13_bitCount_95d88_11 : decode cJ13_bitCount_95d88 11 = .ok (.ldc2_w 316, 3) := by decide +kernel
theorem dJ13_bitCount_95d88_14 : decode cJ13_bitCount_95d88 14 = .ok (.land, 1) := by decide +kernel
theorem dJ13_bitCount_95d88_15 : decode cJ13_bitCount_95d88 15 = .ok (.lload_n 0, 1) := by decide +kernel
theorem dJ13_bitCount_95d88_16 : decode cJ13_bitCount_95d88 16 = .ok (.iconst 2, 1) := by decide +kernel
theorem dJ13_bitCount_95d88_17 : decode cJ13_bitCount_95d88 17 = .ok (.lushr, 1) := by decide +kernel
theorem dJ13_bitCount_95d88_18 : decode cJ13_bitCount_95d88 18 = .ok (.ldc2_w 316, 3) := by decide +kernel
theorem dJ13_bitCount_95d88_21 : decode cJ13_bitCount_95d88 21 = .ok (.land, 1) := by decide +kernel
theorem dJ13_bitCount_95d88_22 : decode cJ13_bitCount_95d88 22 = .ok (.ladd, 1) := by decide +kernel
theorem dJ13_bitCount_95d88_23 : decode cJ13_bitCount_95d88 23 = .ok (.lstore_n 0, 1) := by decide +kernel
theorem dJ13_bitCount_95d88_24 : decode cJ13_bitCount_95d88 24 = .ok (.lload_n 0, 1) := by decide +kernel
theorem dJ13_bitCount_95d88_25 : decode cJ13_bitCount_95d88 25 = .ok (.lload_n 0, 1) := by decide +kernel
theorem dJ13_bitCount_95d88_26 : decode cJ13_bitCount_95d88 26 = .ok (.iconst 4, 1) := by decide +kernel
theorem dJ13_bitCount_95d88_27 : decode cJ13_bitCount_95d88 27 = .ok (.lushr, 1) := by decide +kernel
theorem dJ13_bitCount_95d88_28 : decode cJ13_bitCount_95d88 28 = .ok (.ladd, 1) := by decide +kernel
theorem dJ13_bitCount_95d88_29 : decode cJ13_bitCount_95d88 29 = .ok (.ldc2_w 318, 3) := by decide +kernel
theorem dJ13_bitCount_95d88_32 : decode cJ13_bitCount_95d88 32 = .ok (.land, 1) := by decide +kernel
theorem dJ13_bitCount_95d88_33 : decode cJ13_bitCount_95d88 33 = .ok (.lstore_n 0, 1) := by decide +kernel
theorem dJ13_bitCount_95d88_34 : decode cJ13_bitCount_95d88 34 = .ok (.lload_n 0, 1) := by decide +kernel
theorem dJ13_bitCount_95d88_35 : decode cJ13_bitCount_95d88 35 = .ok (.lload_n 0, 1) := by decide +kernel
theorem dJ13_bitCount_95d88_36 : decode cJ13_bitCount_95d88 36 = .ok (.bipush 8, 2) := by decide +kernel
theorem dJ13_bitCount_95d88_38 : decode cJ13_bitCount_95d88 38 = .ok (.lushr, 1) := by decide +kernel
theorem dJ13_bitCount_95d88_39 : decode cJ13_bitCount_95d88 39 = .ok (.ladd, 1) := by decide +kernel
theorem dJ13_bitCount_95d88_40 : decode cJ13_bitCount_95d88 40 = .ok (.lstore_n 0, 1) := by decide +kernel
theorem dJ13_bitCount_95d88_41 : decode cJ13_bitCount_95d88 41 = .ok (.lload_n 0, 1) := by decide +kernel
theorem dJ13_bitCount_95d88_42 : decode cJ13_bitCount_95d88 42 = .ok (.lload_n 0, 1) := by decide +kernel
theorem dJ13_bitCount_95d88_43 : decode cJ13_bitCount_95d88 43 = .ok (.bipush 16, 2) := by decide +kernel
theorem dJ13_bitCount_95d88_45 : decode cJ13_bitCount_95d88 45 = .ok (.lushr, 1) := by decide +kernel
theorem dJ13_bitCount_95d88_46 : decode cJ13_bitCount_95d88 46 = .ok (.ladd, 1) := by decide +kernel
theorem dJ13_bitCount_95d88_47 : decode cJ13_bitCount_95d88 47 = .ok (.lstore_n 0, 1) := by decide +kernel
theorem dJ13_bitCount_95d88_48 : decode cJ13_bitCount_95d88 48 = .ok (.lload_n 0, 1) := by decide +kernel
theorem dJ13_bitCount_95d88_49 : decode cJ13_bitCount_95d88 49 = .ok (.lload_n 0, 1) := by decide +kernel
theorem dJ13_bitCount_95d88_50 : decode cJ13_bitCount_95d88 50 = .ok (.bipush 32, 2) := by decide +kernel
theorem dJ13_bitCount_95d88_52 : decode cJ13_bitCount_95d88 52 = .ok (.lushr, 1) := by decide +kernel
theorem dJ13_bitCount_95d88_53 : decode cJ13_bitCount_95d88 53 = .ok (.ladd, 1) := by decide +kernel
theorem dJ13_bitCount_95d88_54 : decode cJ13_bitCount_95d88 54 = .ok (.lstore_n 0, 1) := by decide +kernel
theorem dJ13_bitCount_95d88_55 : decode cJ13_bitCount_95d88 55 = .ok (.lload_n 0, 1) := by decide +kernel
theorem dJ13_bitCount_95d88_56 : decode cJ13_bitCount_95d88 56 = .ok (.l2i, 1) := by decide +kernel
theorem dJ13_bitCount_95d88_57 : decode cJ13_bitCount_95d88 57 = .ok (.bipush 127, 2) := by decide +kernel
theorem dJ13_bitCount_95d88_59 : decode cJ13_bitCount_95d88 59 = .ok (.iand, 1) := by decide +kernel
theorem dJ13_bitCount_95d88_60 : decode cJ13_bitCount_95d88 60 = .ok (.ireturn, 1) := by decide +kernel
theorem dJ9_min_7cf53_0 : decode cJ9_min_7cf53 0 = .ok (.iload_n 0, 1) := by decide +kernel
theorem dJ9_min_7cf53_1 : decode cJ9_min_7cf53 1 = .ok (.iload_n 1, 1) := by decide +kernel
theorem dJ9_min_7cf53_2 : decode cJ9_min_7cf53 2 = .ok (.if_icmp .gt 7, 3) := by decide +kernel
theorem dJ9_min_7cf53_5 : decode cJ9_min_7cf53 5 = .ok (.iload_n 0, 1) := by decide +kernel
theorem dJ9_min_7cf53_6 : decode cJ9_min_7cf53 6 = .ok (.goto 4, 3) := by decide +kernel
theorem dJ9_min_7cf53_9 : decode cJ9_min_7cf53 9 = .ok (.iload_n 1, 1) := by decide +kernel
theorem dJ9_min_7cf53_10 : decode cJ9_min_7cf53 10 = .ok (.ireturn, 1) := by decide +kernel
theorem dL_cell_0 : decode cL_cell 0 = .ok (.iload_n 1, 1) := by decide +kernel
theorem dL_cell_1 : decode cL_cell 1 = .ok (.aload_n 0, 1) := by decide +kernel
theorem dL_cell_2 : decode cL_cell 2 = .ok (.arraylength, 1) := by decide +kernel
theorem dL_cell_3 : decode cL_cell 3 = .ok (.if_icmp .ge 9, 3) := by decide +kernel
theorem dL_cell_6 : decode cL_cell 6 = .ok (.aload_n 0, 1) := by decide +kernel
theorem dL_cell_7 : decode cL_cell 7 = .ok (.iload_n 1, 1) := by decide +kernel
theorem dL_cell_8 : decode cL_cell 8 = .ok (.iaload, 1) := by decide +kernel
theorem dL_cell_9 : decode cL_cell 9 = .ok (.goto 9, 3) := by decide +kernel
theorem dL_cell_12 : decode cL_cell 12 = .ok (.ldc 7, 2) := by decide +kernel
theorem dL_cell_14 : decode cL_cell 14 = .ok (.iload_n 1, 1) := by decide +kernel
theorem dL_cell_15 : decode cL_cell 15 = .ok (.iconst 1, 1) := by decide +kernel
theorem dL_cell_16 : decode cL_cell 16 = .ok (.iadd, 1) := by decide +kernel
theorem dL_cell_17 : decode cL_cell 17 = .ok (.imul, 1) := by decide +kernel
theorem dL_cell_18 : decode cL_cell 18 = .ok (.ireturn, 1) := by decide +kernel
theorem dL_at_0 : decode cL_at 0 = .ok (.iload_n 0, 1) := by decide +kernel
theorem dL_at_1 : decode cL_at 1 = .ok (.iconst 1, 1) := by decide +kernel
theorem dL_at_2 : decode cL_at 2 = .ok (.iushr, 1) := by decide +kernel
theorem dL_at_3 : decode cL_at 3 = .ok (.iload_n 1, 1) := by decide +kernel
theorem dL_at_4 : decode cL_at 4 = .ok (.irem, 1) := by decide +kernel
theorem dL_at_5 : decode cL_at 5 = .ok (.ireturn, 1) := by decide +kernel
theorem dL_size_0 : decode cL_size 0 = .ok (.iconst 0, 1) := by decide +kernel
theorem dL_size_1 : decode cL_size 1 = .ok (.istore_n 2, 1) := by decide +kernel
theorem dL_size_2 : decode cL_size 2 = .ok (.lload_n 0, 1) := by decide +kernel
theorem dL_size_3 : decode cL_size 3 = .ok (.lstore_n 3, 1) := by decide +kernel
theorem dL_size_4 : decode cL_size 4 = .ok (.lload_n 3, 1) := by decide +kernel
theorem dL_size_5 : decode cL_size 5 = .ok (.lconst 0, 1) := by decide +kernel
theorem dL_size_6 : decode cL_size 6 = .ok (.lcmp, 1) := by decide +kernel
theorem dL_size_7 : decode cL_size 7 = .ok (.ifCond .le 14, 3) := by decide +kernel
theorem dL_size_10 : decode cL_size 10 = .ok (.iinc 2 1, 3) := by decide +kernel
theorem dL_size_13 : decode cL_size 13 = .ok (.lload_n 3, 1) := by decide +kernel
theorem dL_size_14 : decode cL_size 14 = .ok (.bipush 7, 2) := by decide +kernel
theorem dL_size_16 : decode cL_size 16 = .ok (.lshr, 1) := by decide +kernel
theorem dL_size_17 : decode cL_size 17 = .ok (.lstore_n 3, 1) := by decide +kernel
theorem dL_size_18 : decode cL_size 18 = .ok (.goto (-14), 3) := by decide +kernel
theorem dL_size_21 : decode cL_size 21 = .ok (.iload_n 2, 1) := by decide +kernel
theorem dL_size_22 : decode cL_size 22 = .ok (.ireturn, 1) := by decide +kernel
theorem dL_letter_0 : decode cL_letter 0 = .ok (.iload_n 0, 1) := by decide +kernel
theorem dL_letter_1 : decode cL_letter 1 = .ok (.iconst 4, 1) := by decide +kernel
theorem dL_letter_2 : decode cL_letter 2 = .ok (.if_icmp .ge 37, 3) := by decide +kernel
theorem dL_letter_5 : decode cL_letter 5 = .ok (.iload_n 0, 1) := by decide +kernel
theorem dL_letter_6 : decode cL_letter 6 = .ok (.ifCond .ne 8, 3) := by decide +kernel
theorem dL_letter_9 : decode cL_letter 9 = .ok (.bipush 83, 2) := by decide +kernel
theorem dL_letter_11 : decode cL_letter 11 = .ok (.goto 105, 3) := by decide +kernel
theorem dL_letter_14 : decode cL_letter 14 = .ok (.iload_n 0, 1) := by decide +kernel
theorem dL_letter_15 : decode cL_letter 15 = .ok (.iconst 1, 1) := by decide +kernel
theorem dL_letter_16 : decode cL_letter 16 = .ok (.if_icmp .ne 8, 3) := by decide +kernel
theorem dL_letter_19 : decode cL_letter 19 = .ok (.bipush 84, 2) := by decide +kernel
theorem dL_letter_21 : decode cL_letter 21 = .ok (.goto 95, 3) := by decide +kernel
theorem dL_letter_24 : decode cL_letter 24 = .ok (.iload_n 0, 1) := by decide +kernel
theorem dL_letter_25 : decode cL_letter 25 = .ok (.iconst 2, 1) := by decide +kernel
theorem dL_letter_26 : decode cL_letter 26 = .ok (.if_icmp .ne 8, 3) := by decide +kernel
theorem dL_letter_29 : decode cL_letter 29 = .ok (.bipush 80, 2) := by decide +kernel
theorem dL_letter_31 : decode cL_letter 31 = .ok (.goto 85, 3) := by decide +kernel
theorem dL_letter_34 : decode cL_letter 34 = .ok (.bipush 72, 2) := by decide +kernel
theorem dL_letter_36 : decode cL_letter 36 = .ok (.goto 80, 3) := by decide +kernel
theorem dL_letter_39 : decode cL_letter 39 = .ok (.iload_n 0, 1) := by decide +kernel
theorem dL_letter_40 : decode cL_letter 40 = .ok (.bipush 8, 2) := by decide +kernel
theorem dL_letter_42 : decode cL_letter 42 = .ok (.if_icmp .ge 39, 3) := by decide +kernel
theorem dL_letter_45 : decode cL_letter 45 = .ok (.iload_n 0, 1) := by decide +kernel
theorem dL_letter_46 : decode cL_letter 46 = .ok (.iconst 4, 1) := by decide +kernel
theorem dL_letter_47 : decode cL_letter 47 = .ok (.if_icmp .ne 8, 3) := by decide +kernel
theorem dL_letter_50 : decode cL_letter 50 = .ok (.bipush 65, 2) := by decide +kernel
theorem dL_letter_52 : decode cL_letter 52 = .ok (.goto 64, 3) := by decide +kernel
theorem dL_letter_55 : decode cL_letter 55 = .ok (.iload_n 0, 1) := by decide +kernel
theorem dL_letter_56 : decode cL_letter 56 = .ok (.iconst 5, 1) := by decide +kernel
theorem dL_letter_57 : decode cL_letter 57 = .ok (.if_icmp .ne 8, 3) := by decide +kernel
theorem dL_letter_60 : decode cL_letter 60 = .ok (.bipush 79, 2) := by decide +kernel
theorem dL_letter_62 : decode cL_letter 62 = .ok (.goto 54, 3) := by decide +kernel
theorem dL_letter_65 : decode cL_letter 65 = .ok (.iload_n 0, 1) := by decide +kernel
theorem dL_letter_66 : decode cL_letter 66 = .ok (.bipush 6, 2) := by decide +kernel
theorem dL_letter_68 : decode cL_letter 68 = .ok (.if_icmp .ne 8, 3) := by decide +kernel
theorem dL_letter_71 : decode cL_letter 71 = .ok (.bipush 69, 2) := by decide +kernel
theorem dL_letter_73 : decode cL_letter 73 = .ok (.goto 43, 3) := by decide +kernel
theorem dL_letter_76 : decode cL_letter 76 = .ok (.bipush 85, 2) := by decide +kernel
theorem dL_letter_78 : decode cL_letter 78 = .ok (.goto 38, 3) := by decide +kernel
theorem dL_letter_81 : decode cL_letter 81 = .ok (.iload_n 0, 1) := by decide +kernel
theorem dL_letter_82 : decode cL_letter 82 = .ok (.bipush 8, 2) := by decide +kernel
theorem dL_letter_84 : decode cL_letter 84 = .ok (.if_icmp .ne 8, 3) := by decide +kernel
theorem dL_letter_87 : decode cL_letter 87 = .ok (.bipush 70, 2) := by decide +kernel
theorem dL_letter_89 : decode cL_letter 89 = .ok (.goto 27, 3) := by decide +kernel
theorem dL_letter_92 : decode cL_letter 92 = .ok (.iload_n 0, 1) := by decide +kernel
theorem dL_letter_93 : decode cL_letter 93 = .ok (.bipush 9, 2) := by decide +kernel
theorem dL_letter_95 : decode cL_letter 95 = .ok (.if_icmp .ne 8, 3) := by decide +kernel
theorem dL_letter_98 : decode cL_letter 98 = .ok (.bipush 82, 2) := by decide +kernel
theorem dL_letter_100 : decode cL_letter 100 = .ok (.goto 16, 3) := by decide +kernel
theorem dL_letter_103 : decode cL_letter 103 = .ok (.iload_n 0, 1) := by decide +kernel
theorem dL_letter_104 : decode cL_letter 104 = .ok (.bipush 10, 2) := by decide +kernel
theorem dL_letter_106 : decode cL_letter 106 = .ok (.if_icmp .ne 8, 3) := by decide +kernel
theorem dL_letter_109 : decode cL_letter 109 = .ok (.bipush 66, 2) := by decide +kernel
theorem dL_letter_111 : decode cL_letter 111 = .ok (.goto 5, 3) := by decide +kernel
theorem dL_letter_114 : decode cL_letter 114 = .ok (.bipush 71, 2) := by decide +kernel
theorem dL_letter_116 : decode cL_letter 116 = .ok (.ireturn, 1) := by decide +kernel
set_option maxRecDepth 20000 in
theorem ggL_spelled_L_letter : GoodIn wsL_spelled wsL_letter := goodIn_r _ [4] (by decide +kernel) (by decide +kernel)
set_option maxRecDepth 20000 in
theorem gL_spelled_L_letter : GoodIn wsL_spelled (va_wsS RL 8 yL_letter wsL_letter) := goodIn_app (goodIn_of _ (by decide +kernel)) ggL_spelled_L_letter
theorem dL_spelled_0 : decode cL_spelled 0 = .ok (.lconst 0, 1) := by decide +kernel
theorem dL_spelled_1 : decode cL_spelled 1 = .ok (.lstore_n 1, 1) := by decide +kernel
theorem dL_spelled_2 : decode cL_spelled 2 = .ok (.iconst 0, 1) := by decide +kernel
theorem dL_spelled_3 : decode cL_spelled 3 = .ok (.istore_n 3, 1) := by decide +kernel
theorem dL_spelled_4 : decode cL_spelled 4 = .ok (.iconst 0, 1) := by decide +kernel
theorem dL_spelled_5 : decode cL_spelled 5 = .ok (.istore 4, 2) := by decide +kernel
theorem dL_spelled_7 : decode cL_spelled 7 = .ok (.iload 4, 2) := by decide +kernel
theorem dL_spelled_9 : decode cL_spelled 9 = .ok (.bipush 12, 2) := by decide +kernel
theorem dL_spelled_11 : decode cL_spelled 11 = .ok (.if_icmp .ge 36, 3) := by decide +kernel
theorem dL_spelled_14 : decode cL_spelled 14 = .ok (.iload_n 0, 1) := by decide +kernel
theorem dL_spelled_15 : decode cL_spelled 15 = .ok (.iload 4, 2) := by decide +kernel
theorem dL_spelled_17 : decode cL_spelled 17 = .ok (.ishr, 1) := by decide +kernel
theorem dL_spelled_18 : decode cL_spelled 18 = .ok (.iconst 1, 1) := by decide +kernel
theorem dL_spelled_19 : decode cL_spelled 19 = .ok (.iand, 1) := by decide +kernel
theorem dL_spelled_20 : decode cL_spelled 20 = .ok (.iconst 1, 1) := by decide +kernel
theorem dL_spelled_21 : decode cL_spelled 21 = .ok (.if_icmp .ne 20, 3) := by decide +kernel
theorem dL_spelled_24 : decode cL_spelled 24 = .ok (.lload_n 1, 1) := by decide +kernel
theorem dL_spelled_25 : decode cL_spelled 25 = .ok (.iload 4, 2) := by decide +kernel
theorem dL_spelled_27 : decode cL_spelled 27 = .ok (.invokestatic 8, 3) := by decide +kernel
theorem dL_spelled_30 : decode cL_spelled 30 = .ok (.i2l, 1) := by decide +kernel
theorem dL_spelled_31 : decode cL_spelled 31 = .ok (.bipush 7, 2) := by decide +kernel
theorem dL_spelled_33 : decode cL_spelled 33 = .ok (.iload_n 3, 1) := by decide +kernel
theorem dL_spelled_34 : decode cL_spelled 34 = .ok (.iinc 3 1, 3) := by decide +kernel
theorem dL_spelled_37 : decode cL_spelled 37 = .ok (.imul, 1) := by decide +kernel
theorem dL_spelled_38 : decode cL_spelled 38 = .ok (.lshl, 1) := by decide +kernel
theorem dL_spelled_39 : decode cL_spelled 39 = .ok (.lor, 1) := by decide +kernel
theorem dL_spelled_40 : decode cL_spelled 40 = .ok (.lstore_n 1, 1) := by decide +kernel
theorem dL_spelled_41 : decode cL_spelled 41 = .ok (.iinc 4 1, 3) := by decide +kernel
theorem dL_spelled_44 : decode cL_spelled 44 = .ok (.goto (-37), 3) := by decide +kernel
theorem dL_spelled_47 : decode cL_spelled 47 = .ok (.lload_n 1, 1) := by decide +kernel
theorem dL_spelled_48 : decode cL_spelled 48 = .ok (.lreturn, 1) := by decide +kernel
theorem dL_goesOn_0 : decode cL_goesOn 0 = .ok (.iload_n 1, 1) := by decide +kernel
theorem dL_goesOn_1 : decode cL_goesOn 1 = .ok (.aload 4, 2) := by decide +kernel
theorem dL_goesOn_3 : decode cL_goesOn 3 = .ok (.iconst 5, 1) := by decide +kernel
theorem dL_goesOn_4 : decode cL_goesOn 4 = .ok (.iload_n 0, 1) := by decide +kernel
theorem dL_goesOn_5 : decode cL_goesOn 5 = .ok (.imul, 1) := by decide +kernel
theorem dL_goesOn_6 : decode cL_goesOn 6 = .ok (.iaload, 1) := by decide +kernel
theorem dL_goesOn_7 : decode cL_goesOn 7 = .ok (.iadd, 1) := by decide +kernel
theorem dL_goesOn_8 : decode cL_goesOn 8 = .ok (.iload_n 2, 1) := by decide +kernel
theorem dL_goesOn_9 : decode cL_goesOn 9 = .ok (.if_icmp .le 5, 3) := by decide +kernel
theorem dL_goesOn_12 : decode cL_goesOn 12 = .ok (.iconst 0, 1) := by decide +kernel
theorem dL_goesOn_13 : decode cL_goesOn 13 = .ok (.ireturn, 1) := by decide +kernel
theorem dL_goesOn_14 : decode cL_goesOn 14 = .ok (.iconst 0, 1) := by decide +kernel
theorem dL_goesOn_15 : decode cL_goesOn 15 = .ok (.istore 5, 2) := by decide +kernel
theorem dL_goesOn_17 : decode cL_goesOn 17 = .ok (.iload 5, 2) := by decide +kernel
theorem dL_goesOn_19 : decode cL_goesOn 19 = .ok (.aload 4, 2) := by decide +kernel
theorem dL_goesOn_21 : decode cL_goesOn 21 = .ok (.iconst 5, 1) := by decide +kernel
theorem dL_goesOn_22 : decode cL_goesOn 22 = .ok (.iload_n 0, 1) := by decide +kernel
theorem dL_goesOn_23 : decode cL_goesOn 23 = .ok (.imul, 1) := by decide +kernel
theorem dL_goesOn_24 : decode cL_goesOn 24 = .ok (.iaload, 1) := by decide +kernel
theorem dL_goesOn_25 : decode cL_goesOn 25 = .ok (.if_icmp .ge 31, 3) := by decide +kernel
theorem dL_goesOn_28 : decode cL_goesOn 28 = .ok (.aload_n 3, 1) := by decide +kernel
theorem dL_goesOn_29 : decode cL_goesOn 29 = .ok (.iload_n 1, 1) := by decide +kernel
theorem dL_goesOn_30 : decode cL_goesOn 30 = .ok (.iload 5, 2) := by decide +kernel
theorem dL_goesOn_32 : decode cL_goesOn 32 = .ok (.iadd, 1) := by decide +kernel
theorem dL_goesOn_33 : decode cL_goesOn 33 = .ok (.iaload, 1) := by decide +kernel
theorem dL_goesOn_34 : decode cL_goesOn 34 = .ok (.aload 4, 2) := by decide +kernel
theorem dL_goesOn_36 : decode cL_goesOn 36 = .ok (.iconst 5, 1) := by decide +kernel
theorem dL_goesOn_37 : decode cL_goesOn 37 = .ok (.iload_n 0, 1) := by decide +kernel
theorem dL_goesOn_38 : decode cL_goesOn 38 = .ok (.imul, 1) := by decide +kernel
theorem dL_goesOn_39 : decode cL_goesOn 39 = .ok (.iconst 1, 1) := by decide +kernel
theorem dL_goesOn_40 : decode cL_goesOn 40 = .ok (.iadd, 1) := by decide +kernel
theorem dL_goesOn_41 : decode cL_goesOn 41 = .ok (.iload 5, 2) := by decide +kernel
theorem dL_goesOn_43 : decode cL_goesOn 43 = .ok (.iadd, 1) := by decide +kernel
theorem dL_goesOn_44 : decode cL_goesOn 44 = .ok (.iaload, 1) := by decide +kernel
theorem dL_goesOn_45 : decode cL_goesOn 45 = .ok (.if_icmp .eq 5, 3) := by decide +kernel
theorem dL_goesOn_48 : decode cL_goesOn 48 = .ok (.iconst 0, 1) := by decide +kernel
theorem dL_goesOn_49 : decode cL_goesOn 49 = .ok (.ireturn, 1) := by decide +kernel
theorem dL_goesOn_50 : decode cL_goesOn 50 = .ok (.iinc 5 1, 3) := by decide +kernel
theorem dL_goesOn_53 : decode cL_goesOn 53 = .ok (.goto (-36), 3) := by decide +kernel
theorem dL_goesOn_56 : decode cL_goesOn 56 = .ok (.iconst 1, 1) := by decide +kernel
theorem dL_goesOn_57 : decode cL_goesOn 57 = .ok (.ireturn, 1) := by decide +kernel
set_option maxRecDepth 20000 in
theorem ggL_translate_L_goesOn : GoodIn wsL_translate wsL_goesOn := goodIn_r _ [4] (by decide +kernel) (by decide +kernel)
set_option maxRecDepth 20000 in
theorem gL_translate_L_goesOn : GoodIn wsL_translate (va_wsS RL 14 yL_goesOn wsL_goesOn) := goodIn_app (goodIn_of _ (by decide +kernel)) ggL_translate_L_goesOn
set_option maxRecDepth 20000 in
theorem ggL_translate_L_spelled : GoodIn wsL_translate wsL_spelled := goodIn_r _ [7, 8, 9, 3, 10] (by decide +kernel) (by decide +kernel)
set_option maxRecDepth 20000 in
theorem gL_translate_L_spelled : GoodIn wsL_translate (va_wsS RL 18 yL_spelled wsL_spelled) := goodIn_app (goodIn_of _ (by decide +kernel)) ggL_translate_L_spelled
theorem dL_translate_0 : decode cL_translate 0 = .ok (.iconst 0, 1) := by decide +kernel
theorem dL_translate_1 : decode cL_translate 1 = .ok (.istore 7, 2) := by decide +kernel
theorem dL_translate_3 : decode cL_translate 3 = .ok (.iconst 0, 1) := by decide +kernel
theorem dL_translate_4 : decode cL_translate 4 = .ok (.istore 8, 2) := by decide +kernel
theorem dL_translate_6 : decode cL_translate 6 = .ok (.iload 8, 2) := by decide +kernel
theorem dL_translate_8 : decode cL_translate 8 = .ok (.aload 6, 2) := by decide +kernel
theorem dL_translate_10 : decode cL_translate 10 = .ok (.iconst 3, 1) := by decide +kernel
theorem dL_translate_11 : decode cL_translate 11 = .ok (.iaload, 1) := by decide +kernel
theorem dL_translate_12 : decode cL_translate 12 = .ok (.if_icmp .ge 18, 3) := by decide +kernel
theorem dL_translate_15 : decode cL_translate 15 = .ok (.iload 7, 2) := by decide +kernel
theorem dL_translate_17 : decode cL_translate 17 = .ok (.aload_n 3, 1) := by decide +kernel
theorem dL_translate_18 : decode cL_translate 18 = .ok (.iload 8, 2) := by decide +kernel
theorem dL_translate_20 : decode cL_translate 20 = .ok (.iaload, 1) := by decide +kernel
theorem dL_translate_21 : decode cL_translate 21 = .ok (.iadd, 1) := by decide +kernel
theorem dL_translate_22 : decode cL_translate 22 = .ok (.istore 7, 2) := by decide +kernel
theorem dL_translate_24 : decode cL_translate 24 = .ok (.iinc 8 1, 3) := by decide +kernel
theorem dL_translate_27 : decode cL_translate 27 = .ok (.goto (-21), 3) := by decide +kernel
theorem dL_translate_30 : decode cL_translate 30 = .ok (.aload 6, 2) := by decide +kernel
theorem dL_translate_32 : decode cL_translate 32 = .ok (.iconst 1, 1) := by decide +kernel
theorem dL_translate_33 : decode cL_translate 33 = .ok (.iaload, 1) := by decide +kernel
theorem dL_translate_34 : decode cL_translate 34 = .ok (.iload 7, 2) := by decide +kernel
theorem dL_translate_36 : decode cL_translate 36 = .ok (.isub, 1) := by decide +kernel
theorem dL_translate_37 : decode cL_translate 37 = .ok (.istore 8, 2) := by decide +kernel
theorem dL_translate_39 : decode cL_translate 39 = .ok (.aload 6, 2) := by decide +kernel
theorem dL_translate_41 : decode cL_translate 41 = .ok (.iconst 2, 1) := by decide +kernel
theorem dL_translate_42 : decode cL_translate 42 = .ok (.aload 6, 2) := by decide +kernel
theorem dL_translate_44 : decode cL_translate 44 = .ok (.iconst 3, 1) := by decide +kernel
theorem dL_translate_45 : decode cL_translate 45 = .ok (.iaload, 1) := by decide +kernel
theorem dL_translate_46 : decode cL_translate 46 = .ok (.iastore, 1) := by decide +kernel
theorem dL_translate_47 : decode cL_translate 47 = .ok (.iload 7, 2) := by decide +kernel
theorem dL_translate_49 : decode cL_translate 49 = .ok (.aload 6, 2) := by decide +kernel
theorem dL_translate_51 : decode cL_translate 51 = .ok (.iconst 1, 1) := by decide +kernel
theorem dL_translate_52 : decode cL_translate 52 = .ok (.iaload, 1) := by decide +kernel
theorem dL_translate_53 : decode cL_translate 53 = .ok (.if_icmp .ge 149, 3) := by decide +kernel
theorem dL_translate_56 : decode cL_translate 56 = .ok (.iconst (-1), 1) := by decide +kernel
theorem dL_translate_57 : decode cL_translate 57 = .ok (.istore 9, 2) := by decide +kernel
theorem dL_translate_59 : decode cL_translate 59 = .ok (.iconst 4, 1) := by decide +kernel
theorem dL_translate_60 : decode cL_translate 60 = .ok (.istore 10, 2) := by decide +kernel
theorem dL_translate_62 : decode cL_translate 62 = .ok (.iload 10, 2) := by decide +kernel
theorem dL_translate_64 : decode cL_translate 64 = .ok (.ifCond .le 63, 3) := by decide +kernel
theorem dL_translate_67 : decode cL_translate 67 = .ok (.iload 9, 2) := by decide +kernel
theorem dL_translate_69 : decode cL_translate 69 = .ok (.ifCond .ge 58, 3) := by decide +kernel
theorem dL_translate_72 : decode cL_translate 72 = .ok (.iconst 0, 1) := by decide +kernel
theorem dL_translate_73 : decode cL_translate 73 = .ok (.istore 11, 2) := by decide +kernel
theorem dL_translate_75 : decode cL_translate 75 = .ok (.iload 11, 2) := by decide +kernel
theorem dL_translate_77 : decode cL_translate 77 = .ok (.aload 6, 2) := by decide +kernel
theorem dL_translate_79 : decode cL_translate 79 = .ok (.iconst 0, 1) := by decide +kernel
theorem dL_translate_80 : decode cL_translate 80 = .ok (.iaload, 1) := by decide +kernel
theorem dL_translate_81 : decode cL_translate 81 = .ok (.if_icmp .ge 40, 3) := by decide +kernel
theorem dL_translate_84 : decode cL_translate 84 = .ok (.aload_n 0, 1) := by decide +kernel
theorem dL_translate_85 : decode cL_translate 85 = .ok (.iconst 5, 1) := by decide +kernel
theorem dL_translate_86 : decode cL_translate 86 = .ok (.iload 11, 2) := by decide +kernel
theorem dL_translate_88 : decode cL_translate 88 = .ok (.imul, 1) := by decide +kernel
theorem dL_translate_89 : decode cL_translate 89 = .ok (.iaload, 1) := by decide +kernel
theorem dL_translate_90 : decode cL_translate 90 = .ok (.iload 10, 2) := by decide +kernel
theorem dL_translate_92 : decode cL_translate 92 = .ok (.if_icmp .ne 23, 3) := by decide +kernel
theorem dL_translate_95 : decode cL_translate 95 = .ok (.iload 11, 2) := by decide +kernel
theorem dL_translate_97 : decode cL_translate 97 = .ok (.iload 7, 2) := by decide +kernel
theorem dL_translate_99 : decode cL_translate 99 = .ok (.aload 6, 2) := by decide +kernel
theorem dL_translate_101 : decode cL_translate 101 = .ok (.iconst 1, 1) := by decide +kernel
theorem dL_translate_102 : decode cL_translate 102 = .ok (.iaload, 1) := by decide +kernel
theorem dL_translate_103 : decode cL_translate 103 = .ok (.aload_n 2, 1) := by decide +kernel
theorem dL_translate_104 : decode cL_translate 104 = .ok (.aload_n 0, 1) := by decide +kernel
theorem dL_translate_105 : decode cL_translate 105 = .ok (.invokestatic 14, 3) := by decide +kernel
theorem dL_translate_108 : decode cL_translate 108 = .ok (.ifCond .eq 7, 3) := by decide +kernel
theorem dL_translate_111 : decode cL_translate 111 = .ok (.iload 11, 2) := by decide +kernel
theorem dL_translate_113 : decode cL_translate 113 = .ok (.istore 9, 2) := by decide +kernel
theorem dL_translate_115 : decode cL_translate 115 = .ok (.iinc 11 1, 3) := by decide +kernel
theorem dL_translate_118 : decode cL_translate 118 = .ok (.goto (-43), 3) := by decide +kernel
theorem dL_translate_121 : decode cL_translate 121 = .ok (.iinc 10 (-1), 3) := by decide +kernel
theorem dL_translate_124 : decode cL_translate 124 = .ok (.goto (-62), 3) := by decide +kernel
theorem dL_translate_127 : decode cL_translate 127 = .ok (.aload_n 3, 1) := by decide +kernel
theorem dL_translate_128 : decode cL_translate 128 = .ok (.aload 6, 2) := by decide +kernel
theorem dL_translate_130 : decode cL_translate 130 = .ok (.iconst 2, 1) := by decide +kernel
theorem dL_translate_131 : decode cL_translate 131 = .ok (.iaload, 1) := by decide +kernel
theorem dL_translate_132 : decode cL_translate 132 = .ok (.iload 9, 2) := by decide +kernel
theorem dL_translate_134 : decode cL_translate 134 = .ok (.ifCond .ge 7, 3) := by decide +kernel
theorem dL_translate_137 : decode cL_translate 137 = .ok (.iconst 1, 1) := by decide +kernel
theorem dL_translate_138 : decode cL_translate 138 = .ok (.goto 9, 3) := by decide +kernel
theorem dL_translate_141 : decode cL_translate 141 = .ok (.aload_n 0, 1) := by decide +kernel
theorem dL_translate_142 : decode cL_translate 142 = .ok (.iconst 5, 1) := by decide +kernel
theorem dL_translate_143 : decode cL_translate 143 = .ok (.iload 9, 2) := by decide +kernel
theorem dL_translate_145 : decode cL_translate 145 = .ok (.imul, 1) := by decide +kernel
theorem dL_translate_146 : decode cL_translate 146 = .ok (.iaload, 1) := by decide +kernel
theorem dL_translate_147 : decode cL_translate 147 = .ok (.iastore, 1) := by decide +kernel
theorem dL_translate_148 : decode cL_translate 148 = .ok (.aload 4, 2) := by decide +kernel
theorem dL_translate_150 : decode cL_translate 150 = .ok (.aload 6, 2) := by decide +kernel
theorem dL_translate_152 : decode cL_translate 152 = .ok (.iconst 2, 1) := by decide +kernel
theorem dL_translate_153 : decode cL_translate 153 = .ok (.iaload, 1) := by decide +kernel
theorem dL_translate_154 : decode cL_translate 154 = .ok (.iload 9, 2) := by decide +kernel
theorem dL_translate_156 : decode cL_translate 156 = .ok (.iastore, 1) := by decide +kernel
theorem dL_translate_157 : decode cL_translate 157 = .ok (.aload 5, 2) := by decide +kernel
theorem dL_translate_159 : decode cL_translate 159 = .ok (.aload 6, 2) := by decide +kernel
theorem dL_translate_161 : decode cL_translate 161 = .ok (.iconst 2, 1) := by decide +kernel
theorem dL_translate_162 : decode cL_translate 162 = .ok (.iaload, 1) := by decide +kernel
theorem dL_translate_163 : decode cL_translate 163 = .ok (.iload 9, 2) := by decide +kernel
theorem dL_translate_165 : decode cL_translate 165 = .ok (.ifCond .ge 13, 3) := by decide +kernel
theorem dL_translate_168 : decode cL_translate 168 = .ok (.aload_n 2, 1) := by decide +kernel
theorem dL_translate_169 : decode cL_translate 169 = .ok (.iload 7, 2) := by decide +kernel
theorem dL_translate_171 : decode cL_translate 171 = .ok (.iaload, 1) := by decide +kernel
theorem dL_translate_172 : decode cL_translate 172 = .ok (.invokestatic 18, 3) := by decide +kernel
theorem dL_translate_175 : decode cL_translate 175 = .ok (.goto 7, 3) := by decide +kernel
theorem dL_translate_178 : decode cL_translate 178 = .ok (.aload_n 1, 1) := by decide +kernel
theorem dL_translate_179 : decode cL_translate 179 = .ok (.iload 9, 2) := by decide +kernel
theorem dL_translate_181 : decode cL_translate 181 = .ok (.laload, 1) := by decide +kernel
theorem dL_translate_182 : decode cL_translate 182 = .ok (.lastore, 1) := by decide +kernel
theorem dL_translate_183 : decode cL_translate 183 = .ok (.iload 7, 2) := by decide +kernel
theorem dL_translate_185 : decode cL_translate 185 = .ok (.aload_n 3, 1) := by decide +kernel
theorem dL_translate_186 : decode cL_translate 186 = .ok (.aload 6, 2) := by decide +kernel
theorem dL_translate_188 : decode cL_translate 188 = .ok (.iconst 2, 1) := by decide +kernel
theorem dL_translate_189 : decode cL_translate 189 = .ok (.dup2, 1) := by decide +kernel
theorem dL_translate_190 : decode cL_translate 190 = .ok (.iaload, 1) := by decide +kernel
theorem dL_translate_191 : decode cL_translate 191 = .ok (.dup_x2, 1) := by decide +kernel
theorem dL_translate_192 : decode cL_translate 192 = .ok (.iconst 1, 1) := by decide +kernel
theorem dL_translate_193 : decode cL_translate 193 = .ok (.iadd, 1) := by decide +kernel
theorem dL_translate_194 : decode cL_translate 194 = .ok (.iastore, 1) := by decide +kernel
theorem dL_translate_195 : decode cL_translate 195 = .ok (.iaload, 1) := by decide +kernel
theorem dL_translate_196 : decode cL_translate 196 = .ok (.iadd, 1) := by decide +kernel
theorem dL_translate_197 : decode cL_translate 197 = .ok (.istore 7, 2) := by decide +kernel
theorem dL_translate_199 : decode cL_translate 199 = .ok (.goto (-152), 3) := by decide +kernel
theorem dL_translate_202 : decode cL_translate 202 = .ok (.iload 8, 2) := by decide +kernel
theorem dL_translate_204 : decode cL_translate 204 = .ok (.aload 6, 2) := by decide +kernel
theorem dL_translate_206 : decode cL_translate 206 = .ok (.iconst 4, 1) := by decide +kernel
theorem dL_translate_207 : decode cL_translate 207 = .ok (.iaload, 1) := by decide +kernel
theorem dL_translate_208 : decode cL_translate 208 = .ok (.if_icmp .le 30, 3) := by decide +kernel
theorem dL_translate_211 : decode cL_translate 211 = .ok (.iload 8, 2) := by decide +kernel
theorem dL_translate_213 : decode cL_translate 213 = .ok (.aload_n 3, 1) := by decide +kernel
theorem dL_translate_214 : decode cL_translate 214 = .ok (.aload 6, 2) := by decide +kernel
theorem dL_translate_216 : decode cL_translate 216 = .ok (.iconst 3, 1) := by decide +kernel
theorem dL_translate_217 : decode cL_translate 217 = .ok (.iaload, 1) := by decide +kernel
theorem dL_translate_218 : decode cL_translate 218 = .ok (.iaload, 1) := by decide +kernel
theorem dL_translate_219 : decode cL_translate 219 = .ok (.isub, 1) := by decide +kernel
theorem dL_translate_220 : decode cL_translate 220 = .ok (.istore 8, 2) := by decide +kernel
theorem dL_translate_222 : decode cL_translate 222 = .ok (.aload 4, 2) := by decide +kernel
theorem dL_translate_224 : decode cL_translate 224 = .ok (.aload 6, 2) := by decide +kernel
theorem dL_translate_226 : decode cL_translate 226 = .ok (.iconst 3, 1) := by decide +kernel
theorem dL_translate_227 : decode cL_translate 227 = .ok (.dup2, 1) := by decide +kernel
theorem dL_translate_228 : decode cL_translate 228 = .ok (.iaload, 1) := by decide +kernel
theorem dL_translate_229 : decode cL_translate 229 = .ok (.dup_x2, 1) := by decide +kernel
theorem dL_translate_230 : decode cL_translate 230 = .ok (.iconst 1, 1) := by decide +kernel
theorem dL_translate_231 : decode cL_translate 231 = .ok (.iadd, 1) := by decide +kernel
theorem dL_translate_232 : decode cL_translate 232 = .ok (.iastore, 1) := by decide +kernel
theorem dL_translate_233 : decode cL_translate 233 = .ok (.iconst (-1), 1) := by decide +kernel
theorem dL_translate_234 : decode cL_translate 234 = .ok (.iastore, 1) := by decide +kernel
theorem dL_translate_235 : decode cL_translate 235 = .ok (.goto (-33), 3) := by decide +kernel
theorem dL_translate_238 : decode cL_translate 238 = .ok (.return_, 1) := by decide +kernel
theorem dL_has_0 : decode cL_has 0 = .ok (.iload_n 1, 1) := by decide +kernel
theorem dL_has_1 : decode cL_has 1 = .ok (.aload_n 3, 1) := by decide +kernel
theorem dL_has_2 : decode cL_has 2 = .ok (.iconst 5, 1) := by decide +kernel
theorem dL_has_3 : decode cL_has 3 = .ok (.iload_n 2, 1) := by decide +kernel
theorem dL_has_4 : decode cL_has 4 = .ok (.imul, 1) := by decide +kernel
theorem dL_has_5 : decode cL_has 5 = .ok (.iaload, 1) := by decide +kernel
theorem dL_has_6 : decode cL_has 6 = .ok (.iadd, 1) := by decide +kernel
theorem dL_has_7 : decode cL_has 7 = .ok (.aload_n 3, 1) := by decide +kernel
theorem dL_has_8 : decode cL_has 8 = .ok (.iconst 5, 1) := by decide +kernel
theorem dL_has_9 : decode cL_has 9 = .ok (.iload_n 0, 1) := by decide +kernel
theorem dL_has_10 : decode cL_has 10 = .ok (.imul, 1) := by decide +kernel
theorem dL_has_11 : decode cL_has 11 = .ok (.iaload, 1) := by decide +kernel
theorem dL_has_12 : decode cL_has 12 = .ok (.if_icmp .le 5, 3) := by decide +kernel
theorem dL_has_15 : decode cL_has 15 = .ok (.iconst 0, 1) := by decide +kernel
theorem dL_has_16 : decode cL_has 16 = .ok (.ireturn, 1) := by decide +kernel
theorem dL_has_17 : decode cL_has 17 = .ok (.iconst 0, 1) := by decide +kernel
theorem dL_has_18 : decode cL_has 18 = .ok (.istore 4, 2) := by decide +kernel
theorem dL_has_20 : decode cL_has 20 = .ok (.iload 4, 2) := by decide +kernel
theorem dL_has_22 : decode cL_has 22 = .ok (.aload_n 3, 1) := by decide +kernel
theorem dL_has_23 : decode cL_has 23 = .ok (.iconst 5, 1) := by decide +kernel
theorem dL_has_24 : decode cL_has 24 = .ok (.iload_n 2, 1) := by decide +kernel
theorem dL_has_25 : decode cL_has 25 = .ok (.imul, 1) := by decide +kernel
theorem dL_has_26 : decode cL_has 26 = .ok (.iaload, 1) := by decide +kernel
theorem dL_has_27 : decode cL_has 27 = .ok (.if_icmp .ge 36, 3) := by decide +kernel
theorem dL_has_30 : decode cL_has 30 = .ok (.aload_n 3, 1) := by decide +kernel
theorem dL_has_31 : decode cL_has 31 = .ok (.iconst 5, 1) := by decide +kernel
theorem dL_has_32 : decode cL_has 32 = .ok (.iload_n 0, 1) := by decide +kernel
theorem dL_has_33 : decode cL_has 33 = .ok (.imul, 1) := by decide +kernel
theorem dL_has_34 : decode cL_has 34 = .ok (.iconst 1, 1) := by decide +kernel
theorem dL_has_35 : decode cL_has 35 = .ok (.iadd, 1) := by decide +kernel
theorem dL_has_36 : decode cL_has 36 = .ok (.iload_n 1, 1) := by decide +kernel
theorem dL_has_37 : decode cL_has 37 = .ok (.iadd, 1) := by decide +kernel
theorem dL_has_38 : decode cL_has 38 = .ok (.iload 4, 2) := by decide +kernel
theorem dL_has_40 : decode cL_has 40 = .ok (.iadd, 1) := by decide +kernel
theorem dL_has_41 : decode cL_has 41 = .ok (.iaload, 1) := by decide +kernel
theorem dL_has_42 : decode cL_has 42 = .ok (.aload_n 3, 1) := by decide +kernel
theorem dL_has_43 : decode cL_has 43 = .ok (.iconst 5, 1) := by decide +kernel
theorem dL_has_44 : decode cL_has 44 = .ok (.iload_n 2, 1) := by decide +kernel
theorem dL_has_45 : decode cL_has 45 = .ok (.imul, 1) := by decide +kernel
theorem dL_has_46 : decode cL_has 46 = .ok (.iconst 1, 1) := by decide +kernel
theorem dL_has_47 : decode cL_has 47 = .ok (.iadd, 1) := by decide +kernel
theorem dL_has_48 : decode cL_has 48 = .ok (.iload 4, 2) := by decide +kernel
theorem dL_has_50 : decode cL_has 50 = .ok (.iadd, 1) := by decide +kernel
theorem dL_has_51 : decode cL_has 51 = .ok (.iaload, 1) := by decide +kernel
theorem dL_has_52 : decode cL_has 52 = .ok (.if_icmp .eq 5, 3) := by decide +kernel
theorem dL_has_55 : decode cL_has 55 = .ok (.iconst 0, 1) := by decide +kernel
theorem dL_has_56 : decode cL_has 56 = .ok (.ireturn, 1) := by decide +kernel
theorem dL_has_57 : decode cL_has 57 = .ok (.iinc 4 1, 3) := by decide +kernel
theorem dL_has_60 : decode cL_has 60 = .ok (.goto (-40), 3) := by decide +kernel
theorem dL_has_63 : decode cL_has 63 = .ok (.iconst 1, 1) := by decide +kernel
theorem dL_has_64 : decode cL_has 64 = .ok (.ireturn, 1) := by decide +kernel
set_option maxRecDepth 20000 in
theorem ggL_clash_L_has : GoodIn wsL_clash wsL_has := goodIn_r _ [4] (by decide +kernel) (by decide +kernel)
set_option maxRecDepth 20000 in
theorem gL_clash_L_has : GoodIn wsL_clash (va_wsS RL 22 yL_has wsL_has) := goodIn_app (goodIn_of _ (by decide +kernel)) ggL_clash_L_has
theorem dL_clash_0 : decode cL_clash 0 = .ok (.iconst 0, 1) := by decide +kernel
theorem dL_clash_1 : decode cL_clash 1 = .ok (.istore 4, 2) := by decide +kernel
theorem dL_clash_3 : decode cL_clash 3 = .ok (.iconst 0, 1) := by decide +kernel
theorem dL_clash_4 : decode cL_clash 4 = .ok (.istore 5, 2) := by decide +kernel
theorem dL_clash_6 : decode cL_clash 6 = .ok (.iload 5, 2) := by decide +kernel
theorem dL_clash_8 : decode cL_clash 8 = .ok (.aload_n 3, 1) := by decide +kernel
theorem dL_clash_9 : decode cL_clash 9 = .ok (.iconst 0, 1) := by decide +kernel
theorem dL_clash_10 : decode cL_clash 10 = .ok (.iaload, 1) := by decide +kernel
theorem dL_clash_11 : decode cL_clash 11 = .ok (.if_icmp .ge 150, 3) := by decide +kernel
theorem dL_clash_14 : decode cL_clash 14 = .ok (.iload 5, 2) := by decide +kernel
theorem dL_clash_16 : decode cL_clash 16 = .ok (.iload_n 0, 1) := by decide +kernel
theorem dL_clash_17 : decode cL_clash 17 = .ok (.if_icmp .eq 20, 3) := by decide +kernel
theorem dL_clash_20 : decode cL_clash 20 = .ok (.iload 5, 2) := by decide +kernel
theorem dL_clash_22 : decode cL_clash 22 = .ok (.iconst 0, 1) := by decide +kernel
theorem dL_clash_23 : decode cL_clash 23 = .ok (.iload_n 0, 1) := by decide +kernel
theorem dL_clash_24 : decode cL_clash 24 = .ok (.aload_n 1, 1) := by decide +kernel
theorem dL_clash_25 : decode cL_clash 25 = .ok (.invokestatic 22, 3) := by decide +kernel
theorem dL_clash_28 : decode cL_clash 28 = .ok (.ifCond .eq 9, 3) := by decide +kernel
theorem dL_clash_31 : decode cL_clash 31 = .ok (.iload 4, 2) := by decide +kernel
theorem dL_clash_33 : decode cL_clash 33 = .ok (.iconst 1, 1) := by decide +kernel
theorem dL_clash_34 : decode cL_clash 34 = .ok (.ior, 1) := by decide +kernel
theorem dL_clash_35 : decode cL_clash 35 = .ok (.istore 4, 2) := by decide +kernel
theorem dL_clash_37 : decode cL_clash 37 = .ok (.iload 5, 2) := by decide +kernel
theorem dL_clash_39 : decode cL_clash 39 = .ok (.iload_n 0, 1) := by decide +kernel
theorem dL_clash_40 : decode cL_clash 40 = .ok (.if_icmp .eq 20, 3) := by decide +kernel
theorem dL_clash_43 : decode cL_clash 43 = .ok (.iload_n 0, 1) := by decide +kernel
theorem dL_clash_44 : decode cL_clash 44 = .ok (.iconst 0, 1) := by decide +kernel
theorem dL_clash_45 : decode cL_clash 45 = .ok (.iload 5, 2) := by decide +kernel
theorem dL_clash_47 : decode cL_clash 47 = .ok (.aload_n 1, 1) := by decide +kernel
theorem dL_clash_48 : decode cL_clash 48 = .ok (.invokestatic 22, 3) := by decide +kernel
theorem dL_clash_51 : decode cL_clash 51 = .ok (.ifCond .eq 9, 3) := by decide +kernel
theorem dL_clash_54 : decode cL_clash 54 = .ok (.iload 4, 2) := by decide +kernel
theorem dL_clash_56 : decode cL_clash 56 = .ok (.iconst 4, 1) := by decide +kernel
theorem dL_clash_57 : decode cL_clash 57 = .ok (.ior, 1) := by decide +kernel
theorem dL_clash_58 : decode cL_clash 58 = .ok (.istore 4, 2) := by decide +kernel
theorem dL_clash_60 : decode cL_clash 60 = .ok (.iload 5, 2) := by decide +kernel
theorem dL_clash_62 : decode cL_clash 62 = .ok (.iload_n 0, 1) := by decide +kernel
theorem dL_clash_63 : decode cL_clash 63 = .ok (.if_icmp .eq 21, 3) := by decide +kernel
theorem dL_clash_66 : decode cL_clash 66 = .ok (.aload_n 2, 1) := by decide +kernel
theorem dL_clash_67 : decode cL_clash 67 = .ok (.iload 5, 2) := by decide +kernel
theorem dL_clash_69 : decode cL_clash 69 = .ok (.laload, 1) := by decide +kernel
theorem dL_clash_70 : decode cL_clash 70 = .ok (.aload_n 2, 1) := by decide +kernel
theorem dL_clash_71 : decode cL_clash 71 = .ok (.iload_n 0, 1) := by decide +kernel
theorem dL_clash_72 : decode cL_clash 72 = .ok (.laload, 1) := by decide +kernel
theorem dL_clash_73 : decode cL_clash 73 = .ok (.lcmp, 1) := by decide +kernel
theorem dL_clash_74 : decode cL_clash 74 = .ok (.ifCond .ne 10, 3) := by decide +kernel
theorem dL_clash_77 : decode cL_clash 77 = .ok (.iload 4, 2) := by decide +kernel
theorem dL_clash_79 : decode cL_clash 79 = .ok (.bipush 8, 2) := by decide +kernel
theorem dL_clash_81 : decode cL_clash 81 = .ok (.ior, 1) := by decide +kernel
theorem dL_clash_82 : decode cL_clash 82 = .ok (.istore 4, 2) := by decide +kernel
theorem dL_clash_84 : decode cL_clash 84 = .ok (.iconst 0, 1) := by decide +kernel
theorem dL_clash_85 : decode cL_clash 85 = .ok (.istore 6, 2) := by decide +kernel
theorem dL_clash_87 : decode cL_clash 87 = .ok (.iload 6, 2) := by decide +kernel
theorem dL_clash_89 : decode cL_clash 89 = .ok (.aload_n 3, 1) := by decide +kernel
theorem dL_clash_90 : decode cL_clash 90 = .ok (.iconst 0, 1) := by decide +kernel
theorem dL_clash_91 : decode cL_clash 91 = .ok (.iaload, 1) := by decide +kernel
theorem dL_clash_92 : decode cL_clash 92 = .ok (.if_icmp .ge 63, 3) := by decide +kernel
theorem dL_clash_95 : decode cL_clash 95 = .ok (.aload_n 1, 1) := by decide +kernel
theorem dL_clash_96 : decode cL_clash 96 = .ok (.iconst 5, 1) := by decide +kernel
theorem dL_clash_97 : decode cL_clash 97 = .ok (.iload 5, 2) := by decide +kernel
theorem dL_clash_99 : decode cL_clash 99 = .ok (.imul, 1) := by decide +kernel
theorem dL_clash_100 : decode cL_clash 100 = .ok (.iaload, 1) := by decide +kernel
theorem dL_clash_101 : decode cL_clash 101 = .ok (.aload_n 1, 1) := by decide +kernel
theorem dL_clash_102 : decode cL_clash 102 = .ok (.iconst 5, 1) := by decide +kernel
theorem dL_clash_103 : decode cL_clash 103 = .ok (.iload 6, 2) := by decide +kernel
theorem dL_clash_105 : decode cL_clash 105 = .ok (.imul, 1) := by decide +kernel
theorem dL_clash_106 : decode cL_clash 106 = .ok (.iaload, 1) := by decide +kernel
theorem dL_clash_107 : decode cL_clash 107 = .ok (.iadd, 1) := by decide +kernel
theorem dL_clash_108 : decode cL_clash 108 = .ok (.aload_n 1, 1) := by decide +kernel
theorem dL_clash_109 : decode cL_clash 109 = .ok (.iconst 5, 1) := by decide +kernel
theorem dL_clash_110 : decode cL_clash 110 = .ok (.iload_n 0, 1) := by decide +kernel
theorem dL_clash_111 : decode cL_clash 111 = .ok (.imul, 1) := by decide +kernel
theorem dL_clash_112 : decode cL_clash 112 = .ok (.iaload, 1) := by decide +kernel
theorem dL_clash_113 : decode cL_clash 113 = .ok (.if_icmp .ne 36, 3) := by decide +kernel
theorem dL_clash_116 : decode cL_clash 116 = .ok (.iload_n 0, 1) := by decide +kernel
theorem dL_clash_117 : decode cL_clash 117 = .ok (.iconst 0, 1) := by decide +kernel
theorem dL_clash_118 : decode cL_clash 118 = .ok (.iload 5, 2) := by decide +kernel
theorem dL_clash_120 : decode cL_clash 120 = .ok (.aload_n 1, 1) := by decide +kernel
theorem dL_clash_121 : decode cL_clash 121 = .ok (.invokestatic 22, 3) := by decide +kernel
theorem dL_clash_124 : decode cL_clash 124 = .ok (.ifCond .eq 25, 3) := by decide +kernel
theorem dL_clash_127 : decode cL_clash 127 = .ok (.iload_n 0, 1) := by decide +kernel
theorem dL_clash_128 : decode cL_clash 128 = .ok (.aload_n 1, 1) := by decide +kernel
theorem dL_clash_129 : decode cL_clash 129 = .ok (.iconst 5, 1) := by decide +kernel
theorem dL_clash_130 : decode cL_clash 130 = .ok (.iload 5, 2) := by decide +kernel
theorem dL_clash_132 : decode cL_clash 132 = .ok (.imul, 1) := by decide +kernel
theorem dL_clash_133 : decode cL_clash 133 = .ok (.iaload, 1) := by decide +kernel
theorem dL_clash_134 : decode cL_clash 134 = .ok (.iload 6, 2) := by decide +kernel
theorem dL_clash_136 : decode cL_clash 136 = .ok (.aload_n 1, 1) := by decide +kernel
theorem dL_clash_137 : decode cL_clash 137 = .ok (.invokestatic 22, 3) := by decide +kernel
theorem dL_clash_140 : decode cL_clash 140 = .ok (.ifCond .eq 9, 3) := by decide +kernel
theorem dL_clash_143 : decode cL_clash 143 = .ok (.iload 4, 2) := by decide +kernel
theorem dL_clash_145 : decode cL_clash 145 = .ok (.iconst 2, 1) := by decide +kernel
theorem dL_clash_146 : decode cL_clash 146 = .ok (.ior, 1) := by decide +kernel
theorem dL_clash_147 : decode cL_clash 147 = .ok (.istore 4, 2) := by decide +kernel
theorem dL_clash_149 : decode cL_clash 149 = .ok (.iinc 6 1, 3) := by decide +kernel
theorem dL_clash_152 : decode cL_clash 152 = .ok (.goto (-65), 3) := by decide +kernel
theorem dL_clash_155 : decode cL_clash 155 = .ok (.iinc 5 1, 3) := by decide +kernel
theorem dL_clash_158 : decode cL_clash 158 = .ok (.goto (-152), 3) := by decide +kernel
theorem dL_clash_161 : decode cL_clash 161 = .ok (.iload 4, 2) := by decide +kernel
theorem dL_clash_163 : decode cL_clash 163 = .ok (.iconst 1, 1) := by decide +kernel
theorem dL_clash_164 : decode cL_clash 164 = .ok (.iand, 1) := by decide +kernel
theorem dL_clash_165 : decode cL_clash 165 = .ok (.iconst 1, 1) := by decide +kernel
theorem dL_clash_166 : decode cL_clash 166 = .ok (.if_icmp .ne 7, 3) := by decide +kernel
theorem dL_clash_169 : decode cL_clash 169 = .ok (.iconst 1, 1) := by decide +kernel
theorem dL_clash_170 : decode cL_clash 170 = .ok (.goto 39, 3) := by decide +kernel
theorem dL_clash_173 : decode cL_clash 173 = .ok (.iload 4, 2) := by decide +kernel
theorem dL_clash_175 : decode cL_clash 175 = .ok (.iconst 2, 1) := by decide +kernel
theorem dL_clash_176 : decode cL_clash 176 = .ok (.iand, 1) := by decide +kernel
theorem dL_clash_177 : decode cL_clash 177 = .ok (.iconst 2, 1) := by decide +kernel
theorem dL_clash_178 : decode cL_clash 178 = .ok (.if_icmp .ne 7, 3) := by decide +kernel
theorem dL_clash_181 : decode cL_clash 181 = .ok (.iconst 2, 1) := by decide +kernel
theorem dL_clash_182 : decode cL_clash 182 = .ok (.goto 27, 3) := by decide +kernel
theorem dL_clash_185 : decode cL_clash 185 = .ok (.iload 4, 2) := by decide +kernel
theorem dL_clash_187 : decode cL_clash 187 = .ok (.iconst 4, 1) := by decide +kernel
theorem dL_clash_188 : decode cL_clash 188 = .ok (.iand, 1) := by decide +kernel
theorem dL_clash_189 : decode cL_clash 189 = .ok (.iconst 4, 1) := by decide +kernel
theorem dL_clash_190 : decode cL_clash 190 = .ok (.if_icmp .ne 7, 3) := by decide +kernel
theorem dL_clash_193 : decode cL_clash 193 = .ok (.iconst 3, 1) := by decide +kernel
theorem dL_clash_194 : decode cL_clash 194 = .ok (.goto 15, 3) := by decide +kernel
theorem dL_clash_197 : decode cL_clash 197 = .ok (.iload 4, 2) := by decide +kernel
theorem dL_clash_199 : decode cL_clash 199 = .ok (.bipush 8, 2) := by decide +kernel
theorem dL_clash_201 : decode cL_clash 201 = .ok (.if_icmp .ne 7, 3) := by decide +kernel
theorem dL_clash_204 : decode cL_clash 204 = .ok (.iconst 4, 1) := by decide +kernel
theorem dL_clash_205 : decode cL_clash 205 = .ok (.goto 4, 3) := by decide +kernel
theorem dL_clash_208 : decode cL_clash 208 = .ok (.iconst 0, 1) := by decide +kernel
theorem dL_clash_209 : decode cL_clash 209 = .ok (.ireturn, 1) := by decide +kernel
set_option maxRecDepth 20000 in
theorem ggL_keys_L_spelled : GoodIn wsL_keys wsL_spelled := goodIn_r _ [4, 5, 6, 3, 7] (by decide +kernel) (by decide +kernel)
set_option maxRecDepth 20000 in
theorem gL_keys_L_spelled : GoodIn wsL_keys (va_wsS RL 18 yL_spelled wsL_spelled) := goodIn_app (goodIn_of _ (by decide +kernel)) ggL_keys_L_spelled
set_option maxRecDepth 20000 in
theorem ggL_keys_L_size : GoodIn wsL_keys wsL_size := goodIn_r _ [10] (by decide +kernel) (by decide +kernel)
set_option maxRecDepth 20000 in
theorem gL_keys_L_size : GoodIn wsL_keys (va_wsS RL 26 yL_size wsL_size) := goodIn_app (goodIn_of _ (by decide +kernel)) ggL_keys_L_size
theorem dL_keys_0 : decode cL_keys 0 = .ok (.iload_n 0, 1) := by decide +kernel
theorem dL_keys_1 : decode cL_keys 1 = .ok (.bipush 6, 2) := by decide +kernel
theorem dL_keys_3 : decode cL_keys 3 = .ok (.ishr, 1) := by decide +kernel
theorem dL_keys_4 : decode cL_keys 4 = .ok (.invokestatic 18, 3) := by decide +kernel
theorem dL_keys_7 : decode cL_keys 7 = .ok (.invokestatic 26, 3) := by decide +kernel
theorem dL_keys_10 : decode cL_keys 10 = .ok (.iload_n 0, 1) := by decide +kernel
theorem dL_keys_11 : decode cL_keys 11 = .ok (.bipush 63, 2) := by decide +kernel
theorem dL_keys_13 : decode cL_keys 13 = .ok (.iand, 1) := by decide +kernel
theorem dL_keys_14 : decode cL_keys 14 = .ok (.invokestatic 18, 3) := by decide +kernel
theorem dL_keys_17 : decode cL_keys 17 = .ok (.invokestatic 26, 3) := by decide +kernel
theorem dL_keys_20 : decode cL_keys 20 = .ok (.iadd, 1) := by decide +kernel
theorem dL_keys_21 : decode cL_keys 21 = .ok (.ireturn, 1) := by decide +kernel
set_option maxRecDepth 20000 in
theorem ggL_told_L_size : GoodIn wsL_told wsL_size := goodIn_r _ [5] (by decide +kernel) (by decide +kernel)
set_option maxRecDepth 20000 in
theorem gL_told_L_size : GoodIn wsL_told (va_wsS RL 26 yL_size wsL_size) := goodIn_app (goodIn_of _ (by decide +kernel)) ggL_told_L_size
set_option maxRecDepth 20000 in
theorem ggL_told_X11_item : GoodIn wsL_told wsX11_item := goodIn_ca (goodIn_ca (goodIn_r _ [10, 11, 12, 13, 14, 15, 16, 17, 18, 19, 20, 21, 9, 22, 23, 24, 25, 26, 27, 28, 29, 30, 31, 32, 33, 34, 35, 36, 37, 38, 39, 40, 41, 42, 43, 44, 45, 46, 47, 48, 49, 50, 51, 52, 53, 54, 55, 56, 57, 58, 59, 60, 61, 62, 63, 64, 65, 66, 67, 68, 69, 70, 71, 72, 73, 74, 75, 76, 223, 224, 225, 226, 227, 228, 229, 230, 231, 232, 233, 234, 235, 236, 237, 238, 239] (by decide +kernel) (by decide +kernel)) (goodIn_sub (fun _ h => List.mem_cons_of_mem _ (List.mem_append_left _ (List.mem_append_right _ h))) (by decide +kernel))) (goodIn_sub (fun _ h => List.mem_cons_of_mem _ (List.mem_append_right _ h)) (by decide +kernel))
set_option maxRecDepth 20000 in
theorem gL_told_X11_item : GoodIn wsL_told (wsV RL 30 RX11 yX11_item wsX11_item) := goodIn_app (goodIn_of _ (by decide +kernel)) ggL_told_X11_item
set_option maxRecDepth 20000 in
theorem ggL_told_X11_strokeAt : GoodIn wsL_told wsX11_strokeAt := goodIn_ca (goodIn_ca (goodIn_r _ [80, 11, 12, 13, 14, 15, 16, 81, 82, 64, 43, 33, 44, 83, 46, 47, 48, 49, 50, 51, 84, 85, 86, 27, 87, 39, 35, 36, 37, 38, 40, 41, 42, 223, 224, 225, 226, 227, 228, 229, 230, 231, 232, 233, 234, 235, 236, 237, 238, 239] (by decide +kernel) (by decide +kernel)) (goodIn_sub (fun _ h => List.mem_cons_of_mem _ (List.mem_append_left _ (List.mem_append_right _ h))) (by decide +kernel))) (goodIn_sub (fun _ h => List.mem_cons_of_mem _ (List.mem_append_right _ h)) (by decide +kernel))
set_option maxRecDepth 20000 in
theorem gL_told_X11_strokeAt : GoodIn wsL_told (wsV RL 38 RX11 yX11_strokeAt wsX11_strokeAt) := goodIn_app (goodIn_of _ (by decide +kernel)) ggL_told_X11_strokeAt
set_option maxRecDepth 20000 in
theorem ggL_told_L_keys : GoodIn wsL_told wsL_keys := goodIn_r _ [90, 91, 92, 4, 93, 94, 95, 96, 2, 3, 5] (by decide +kernel) (by decide +kernel)
set_option maxRecDepth 20000 in
theorem gL_told_L_keys : GoodIn wsL_told (va_wsS RL 41 yL_keys wsL_keys) := goodIn_app (goodIn_of _ (by decide +kernel)) ggL_told_L_keys
set_option maxRecDepth 20000 in
theorem ggL_told_L_clash : GoodIn wsL_told wsL_clash := goodIn_r _ [99, 100, 101, 4, 102] (by decide +kernel) (by decide +kernel)
set_option maxRecDepth 20000 in
theorem gL_told_L_clash : GoodIn wsL_told (va_wsS RL 44 yL_clash wsL_clash) := goodIn_app (goodIn_of _ (by decide +kernel)) ggL_told_L_clash
set_option maxRecDepth 20000 in
theorem ggL_told_X11_entry : GoodIn wsL_told wsX11_entry := goodIn_ca (goodIn_ca (goodIn_r _ [106, 11, 12, 13, 14, 15, 107, 16, 108, 109, 110, 9, 111, 112, 113, 114, 115, 116, 117, 118, 119, 32, 33, 34, 120, 121, 122, 123, 124, 125, 126, 127, 128, 129, 130, 131, 132, 133, 134, 135, 136, 53, 54, 55, 56, 57, 58, 137, 138, 139, 140, 141, 142, 143, 144, 145, 146, 147, 148, 149, 150, 151, 152, 153, 154, 155, 156, 157, 158, 159, 160, 161, 162, 163, 164, 165, 166, 167, 168, 169, 170, 171, 172, 173, 27, 174, 175, 39, 176, 42, 43, 44, 177, 223, 224, 225, 226, 227, 228, 229, 230, 240, 241, 242, 231, 232, 233, 234, 235, 236, 237, 238, 239] (by decide +kernel) (by decide +kernel)) (goodIn_sub (fun _ h => List.mem_cons_of_mem _ (List.mem_append_left _ (List.mem_append_right _ h))) (by decide +kernel))) (goodIn_sub (fun _ h => List.mem_cons_of_mem _ (List.mem_append_right _ h)) (by decide +kernel))
set_option maxRecDepth 20000 in
theorem gL_told_X11_entry : GoodIn wsL_told (wsV RL 48 RX11 yX11_entry wsX11_entry) := goodIn_app (goodIn_of _ (by decide +kernel)) ggL_told_X11_entry
set_option maxRecDepth 20000 in
theorem ggL_told_X11_shortest : GoodIn wsL_told wsX11_shortest := goodIn_ca (goodIn_r _ [181, 11, 12, 15, 107, 108, 109, 110, 9, 111, 112, 182, 183, 184, 116, 185, 146, 170, 121, 122, 123, 124, 119, 32, 33, 34, 186, 187, 188, 189, 141, 114, 115, 117, 118, 147, 126, 127, 128, 129, 130, 131, 190, 191, 192, 193, 194, 195, 196, 223, 224, 225, 226, 227, 228, 229, 230, 240, 241, 242] (by decide +kernel) (by decide +kernel)) (goodIn_sub (fun _ h => List.mem_cons_of_mem _ (List.mem_append_left _ (List.mem_append_right _ h))) (by decide +kernel))
set_option maxRecDepth 20000 in
theorem gL_told_X11_shortest : GoodIn wsL_told (wsV RL 51 RX11 yX11_shortest wsX11_shortest) := goodIn_app (goodIn_of _ (by decide +kernel)) ggL_told_X11_shortest
set_option maxRecDepth 20000 in
theorem ggL_told_X11_lettersPerStroke : GoodIn wsL_told wsX11_lettersPerStroke := goodIn_r _ [200, 15, 16, 81, 201, 202, 203, 27, 204, 39, 205, 25, 26, 28, 29, 30, 31, 32, 33, 34, 35, 36, 37, 38, 40, 41, 42, 43, 44, 45, 46, 47, 48, 49, 50, 51, 52, 53, 54, 55, 56, 57, 58, 223, 224, 225, 226, 227, 228, 229, 230, 231, 232, 233, 234, 235, 236, 237, 238, 239] (by decide +kernel) (by decide +kernel)
set_option maxRecDepth 20000 in
theorem gL_told_X11_lettersPerStroke : GoodIn wsL_told (wsV RL 54 RX11 yX11_lettersPerStroke wsX11_lettersPerStroke) := goodIn_app (goodIn_of _ (by decide +kernel)) ggL_told_X11_lettersPerStroke
set_option maxRecDepth 20000 in
theorem ggL_told_X11_count : GoodIn wsL_told wsX11_count := goodIn_ca (goodIn_r _ [209, 13, 14, 15, 16, 81, 23, 18, 107, 112, 210, 211, 212, 213, 214, 215, 27, 216, 41, 217, 201, 202, 203, 204, 39, 205, 25, 26, 28, 29, 30, 31, 32, 33, 34, 35, 36, 37, 38, 40, 42, 43, 44, 45, 46, 47, 48, 49, 50, 51, 52, 53, 54, 55, 56, 57, 58, 171, 172, 173, 174, 175, 176, 218, 219, 220, 116, 221, 146, 222, 138, 139, 140, 141, 114, 115, 117, 118, 119, 142, 143, 144, 145, 147, 126, 127, 128, 129, 130, 131, 148, 149, 150, 151, 152, 153, 154, 155, 156, 157, 158, 159, 160, 161, 162, 163, 164, 165, 166, 167, 168, 169, 170, 121, 122, 123, 124, 223, 224, 225, 226, 227, 228, 229, 230, 231, 232, 233, 234, 235, 236, 237, 238, 239, 240, 241, 242, 243, 244] (by decide +kernel) (by decide +kernel)) (goodIn_sub (fun _ h => List.mem_cons_of_mem _ (List.mem_append_right _ h)) (by decide +kernel))
set_option maxRecDepth 20000 in
theorem gL_told_X11_count : GoodIn wsL_told (wsV RL 58 RX11 yX11_count wsX11_count) := goodIn_app (goodIn_of _ (by decide +kernel)) ggL_told_X11_count
theorem dL_told_0 : decode cL_told 0 = .ok (.iconst 0, 1) := by decide +kernel
theorem dL_told_1 : decode cL_told 1 = .ok (.istore 8, 2) := by decide +kernel
theorem dL_told_3 : decode cL_told 3 = .ok (.iconst 0, 1) := by decide +kernel
theorem dL_told_4 : decode cL_told 4 = .ok (.istore 9, 2) := by decide +kernel
theorem dL_told_6 : decode cL_told 6 = .ok (.iconst 0, 1) := by decide +kernel
theorem dL_told_7 : decode cL_told 7 = .ok (.istore 10, 2) := by decide +kernel
theorem dL_told_9 : decode cL_told 9 = .ok (.iconst 0, 1) := by decide +kernel
theorem dL_told_10 : decode cL_told 10 = .ok (.istore 11, 2) := by decide +kernel
theorem dL_told_12 : decode cL_told 12 = .ok (.iconst 0, 1) := by decide +kernel
theorem dL_told_13 : decode cL_told 13 = .ok (.istore 12, 2) := by decide +kernel
theorem dL_told_15 : decode cL_told 15 = .ok (.iconst 0, 1) := by decide +kernel
theorem dL_told_16 : decode cL_told 16 = .ok (.istore 13, 2) := by decide +kernel
theorem dL_told_18 : decode cL_told 18 = .ok (.iload 13, 2) := by decide +kernel
theorem dL_told_20 : decode cL_told 20 = .ok (.aload 7, 2) := by decide +kernel
theorem dL_told_22 : decode cL_told 22 = .ok (.iconst 2, 1) := by decide +kernel
theorem dL_told_23 : decode cL_told 23 = .ok (.iaload, 1) := by decide +kernel
theorem dL_told_24 : decode cL_told 24 = .ok (.if_icmp .ge 292, 3) := by decide +kernel
theorem dL_told_27 : decode cL_told 27 = .ok (.aload 6, 2) := by decide +kernel
theorem dL_told_29 : decode cL_told 29 = .ok (.iload 13, 2) := by decide +kernel
theorem dL_told_31 : decode cL_told 31 = .ok (.laload, 1) := by decide +kernel
theorem dL_told_32 : decode cL_told 32 = .ok (.invokestatic 26, 3) := by decide +kernel
theorem dL_told_35 : decode cL_told 35 = .ok (.istore 14, 2) := by decide +kernel
theorem dL_told_37 : decode cL_told 37 = .ok (.aload_n 0, 1) := by decide +kernel
theorem dL_told_38 : decode cL_told 38 = .ok (.iload 13, 2) := by decide +kernel
theorem dL_told_40 : decode cL_told 40 = .ok (.iconst 0, 1) := by decide +kernel
theorem dL_told_41 : decode cL_told 41 = .ok (.invokevirtual 30, 3) := by decide +kernel
theorem dL_told_44 : decode cL_told 44 = .ok (.iload 8, 2) := by decide +kernel
theorem dL_told_46 : decode cL_told 46 = .ok (.if_icmp .ne 69, 3) := by decide +kernel
theorem dL_told_49 : decode cL_told 49 = .ok (.aload_n 0, 1) := by decide +kernel
theorem dL_told_50 : decode cL_told 50 = .ok (.iload 13, 2) := by decide +kernel
theorem dL_told_52 : decode cL_told 52 = .ok (.iconst 1, 1) := by decide +kernel
theorem dL_told_53 : decode cL_told 53 = .ok (.invokevirtual 30, 3) := by decide +kernel
theorem dL_told_56 : decode cL_told 56 = .ok (.aload 4, 2) := by decide +kernel
theorem dL_told_58 : decode cL_told 58 = .ok (.iload 13, 2) := by decide +kernel
theorem dL_told_60 : decode cL_told 60 = .ok (.iaload, 1) := by decide +kernel
theorem dL_told_61 : decode cL_told 61 = .ok (.if_icmp .ne 54, 3) := by decide +kernel
theorem dL_told_64 : decode cL_told 64 = .ok (.aload_n 0, 1) := by decide +kernel
theorem dL_told_65 : decode cL_told 65 = .ok (.iload 13, 2) := by decide +kernel
theorem dL_told_67 : decode cL_told 67 = .ok (.iconst 2, 1) := by decide +kernel
theorem dL_told_68 : decode cL_told 68 = .ok (.invokevirtual 30, 3) := by decide +kernel
theorem dL_told_71 : decode cL_told 71 = .ok (.aload 5, 2) := by decide +kernel
theorem dL_told_73 : decode cL_told 73 = .ok (.iload 13, 2) := by decide +kernel
theorem dL_told_75 : decode cL_told 75 = .ok (.iaload, 1) := by decide +kernel
theorem dL_told_76 : decode cL_told 76 = .ok (.if_icmp .ne 39, 3) := by decide +kernel
theorem dL_told_79 : decode cL_told 79 = .ok (.aload_n 0, 1) := by decide +kernel
theorem dL_told_80 : decode cL_told 80 = .ok (.iload 13, 2) := by decide +kernel
theorem dL_told_82 : decode cL_told 82 = .ok (.iconst 3, 1) := by decide +kernel
theorem dL_told_83 : decode cL_told 83 = .ok (.invokevirtual 30, 3) := by decide +kernel
theorem dL_told_86 : decode cL_told 86 = .ok (.iload 13, 2) := by decide +kernel
theorem dL_told_88 : decode cL_told 88 = .ok (.aload 7, 2) := by decide +kernel
theorem dL_told_90 : decode cL_told 90 = .ok (.iconst 3, 1) := by decide +kernel
theorem dL_told_91 : decode cL_told 91 = .ok (.iaload, 1) := by decide +kernel
theorem dL_told_92 : decode cL_told 92 = .ok (.if_icmp .ge 7, 3) := by decide +kernel
theorem dL_told_95 : decode cL_told 95 = .ok (.iconst 1, 1) := by decide +kernel
theorem dL_told_96 : decode cL_told 96 = .ok (.goto 4, 3) := by decide +kernel
theorem dL_told_99 : decode cL_told 99 = .ok (.iconst 0, 1) := by decide +kernel
theorem dL_told_100 : decode cL_told 100 = .ok (.if_icmp .ne 15, 3) := by decide +kernel
theorem dL_told_103 : decode cL_told 103 = .ok (.aload_n 0, 1) := by decide +kernel
theorem dL_told_104 : decode cL_told 104 = .ok (.iload 13, 2) := by decide +kernel
theorem dL_told_106 : decode cL_told 106 = .ok (.iconst 4, 1) := by decide +kernel
theorem dL_told_107 : decode cL_told 107 = .ok (.invokevirtual 30, 3) := by decide +kernel
theorem dL_told_110 : decode cL_told 110 = .ok (.iload 14, 2) := by decide +kernel
theorem dL_told_112 : decode cL_told 112 = .ok (.if_icmp .eq 5, 3) := by decide +kernel
theorem dL_told_115 : decode cL_told 115 = .ok (.iconst 0, 1) := by decide +kernel
theorem dL_told_116 : decode cL_told 116 = .ok (.ireturn, 1) := by decide +kernel
theorem dL_told_117 : decode cL_told 117 = .ok (.iconst 0, 1) := by decide +kernel
theorem dL_told_118 : decode cL_told 118 = .ok (.istore 15, 2) := by decide +kernel
theorem dL_told_120 : decode cL_told 120 = .ok (.iload 15, 2) := by decide +kernel
theorem dL_told_122 : decode cL_told 122 = .ok (.iload 14, 2) := by decide +kernel
theorem dL_told_124 : decode cL_told 124 = .ok (.if_icmp .ge 40, 3) := by decide +kernel
theorem dL_told_127 : decode cL_told 127 = .ok (.aload_n 0, 1) := by decide +kernel
theorem dL_told_128 : decode cL_told 128 = .ok (.iload 13, 2) := by decide +kernel
theorem dL_told_130 : decode cL_told 130 = .ok (.iconst 5, 1) := by decide +kernel
theorem dL_told_131 : decode cL_told 131 = .ok (.iload 15, 2) := by decide +kernel
theorem dL_told_133 : decode cL_told 133 = .ok (.iadd, 1) := by decide +kernel
theorem dL_told_134 : decode cL_told 134 = .ok (.invokevirtual 30, 3) := by decide +kernel
theorem dL_told_137 : decode cL_told 137 = .ok (.aload 6, 2) := by decide +kernel
theorem dL_told_139 : decode cL_told 139 = .ok (.iload 13, 2) := by decide +kernel
theorem dL_told_141 : decode cL_told 141 = .ok (.laload, 1) := by decide +kernel
theorem dL_told_142 : decode cL_told 142 = .ok (.bipush 7, 2) := by decide +kernel
theorem dL_told_144 : decode cL_told 144 = .ok (.iload 15, 2) := by decide +kernel
theorem dL_told_146 : decode cL_told 146 = .ok (.imul, 1) := by decide +kernel
theorem dL_told_147 : decode cL_told 147 = .ok (.lshr, 1) := by decide +kernel
theorem dL_told_148 : decode cL_told 148 = .ok (.ldc2_w 36, 3) := by decide +kernel
theorem dL_told_151 : decode cL_told 151 = .ok (.land, 1) := by decide +kernel
theorem dL_told_152 : decode cL_told 152 = .ok (.l2i, 1) := by decide +kernel
theorem dL_told_153 : decode cL_told 153 = .ok (.if_icmp .eq 5, 3) := by decide +kernel
theorem dL_told_156 : decode cL_told 156 = .ok (.iconst 0, 1) := by decide +kernel
theorem dL_told_157 : decode cL_told 157 = .ok (.ireturn, 1) := by decide +kernel
theorem dL_told_158 : decode cL_told 158 = .ok (.iinc 15 1, 3) := by decide +kernel
theorem dL_told_161 : decode cL_told 161 = .ok (.goto (-41), 3) := by decide +kernel
theorem dL_told_164 : decode cL_told 164 = .ok (.iconst 0, 1) := by decide +kernel
theorem dL_told_165 : decode cL_told 165 = .ok (.istore 15, 2) := by decide +kernel
theorem dL_told_167 : decode cL_told 167 = .ok (.iload 15, 2) := by decide +kernel
theorem dL_told_169 : decode cL_told 169 = .ok (.aload 4, 2) := by decide +kernel
theorem dL_told_171 : decode cL_told 171 = .ok (.iload 13, 2) := by decide +kernel
theorem dL_told_173 : decode cL_told 173 = .ok (.iaload, 1) := by decide +kernel
theorem dL_told_174 : decode cL_told 174 = .ok (.if_icmp .ge 69, 3) := by decide +kernel
theorem dL_told_177 : decode cL_told 177 = .ok (.aload_n 0, 1) := by decide +kernel
theorem dL_told_178 : decode cL_told 178 = .ok (.iload 8, 2) := by decide +kernel
theorem dL_told_180 : decode cL_told 180 = .ok (.iload 15, 2) := by decide +kernel
theorem dL_told_182 : decode cL_told 182 = .ok (.iadd, 1) := by decide +kernel
theorem dL_told_183 : decode cL_told 183 = .ok (.iconst 0, 1) := by decide +kernel
theorem dL_told_184 : decode cL_told 184 = .ok (.invokevirtual 38, 3) := by decide +kernel
theorem dL_told_187 : decode cL_told 187 = .ok (.aload_n 3, 1) := by decide +kernel
theorem dL_told_188 : decode cL_told 188 = .ok (.iload 8, 2) := by decide +kernel
theorem dL_told_190 : decode cL_told 190 = .ok (.iload 15, 2) := by decide +kernel
theorem dL_told_192 : decode cL_told 192 = .ok (.iadd, 1) := by decide +kernel
theorem dL_told_193 : decode cL_told 193 = .ok (.iaload, 1) := by decide +kernel
theorem dL_told_194 : decode cL_told 194 = .ok (.if_icmp .ne 41, 3) := by decide +kernel
theorem dL_told_197 : decode cL_told 197 = .ok (.aload_n 0, 1) := by decide +kernel
theorem dL_told_198 : decode cL_told 198 = .ok (.iload 8, 2) := by decide +kernel
theorem dL_told_200 : decode cL_told 200 = .ok (.iload 15, 2) := by decide +kernel
theorem dL_told_202 : decode cL_told 202 = .ok (.iadd, 1) := by decide +kernel
theorem dL_told_203 : decode cL_told 203 = .ok (.iconst 1, 1) := by decide +kernel
theorem dL_told_204 : decode cL_told 204 = .ok (.invokevirtual 38, 3) := by decide +kernel
theorem dL_told_207 : decode cL_told 207 = .ok (.aload_n 3, 1) := by decide +kernel
theorem dL_told_208 : decode cL_told 208 = .ok (.iload 8, 2) := by decide +kernel
theorem dL_told_210 : decode cL_told 210 = .ok (.iload 15, 2) := by decide +kernel
theorem dL_told_212 : decode cL_told 212 = .ok (.iadd, 1) := by decide +kernel
theorem dL_told_213 : decode cL_told 213 = .ok (.iaload, 1) := by decide +kernel
theorem dL_told_214 : decode cL_told 214 = .ok (.invokestatic 41, 3) := by decide +kernel
theorem dL_told_217 : decode cL_told 217 = .ok (.if_icmp .ne 18, 3) := by decide +kernel
theorem dL_told_220 : decode cL_told 220 = .ok (.aload_n 0, 1) := by decide +kernel
theorem dL_told_221 : decode cL_told 221 = .ok (.iload 8, 2) := by decide +kernel
theorem dL_told_223 : decode cL_told 223 = .ok (.iload 15, 2) := by decide +kernel
theorem dL_told_225 : decode cL_told 225 = .ok (.iadd, 1) := by decide +kernel
theorem dL_told_226 : decode cL_told 226 = .ok (.iconst 2, 1) := by decide +kernel
theorem dL_told_227 : decode cL_told 227 = .ok (.invokevirtual 38, 3) := by decide +kernel
theorem dL_told_230 : decode cL_told 230 = .ok (.iload 13, 2) := by decide +kernel
theorem dL_told_232 : decode cL_told 232 = .ok (.if_icmp .eq 5, 3) := by decide +kernel
theorem dL_told_235 : decode cL_told 235 = .ok (.iconst 0, 1) := by decide +kernel
theorem dL_told_236 : decode cL_told 236 = .ok (.ireturn, 1) := by decide +kernel
theorem dL_told_237 : decode cL_told 237 = .ok (.iinc 15 1, 3) := by decide +kernel
theorem dL_told_240 : decode cL_told 240 = .ok (.goto (-73), 3) := by decide +kernel
theorem dL_told_243 : decode cL_told 243 = .ok (.iload 8, 2) := by decide +kernel
theorem dL_told_245 : decode cL_told 245 = .ok (.aload 4, 2) := by decide +kernel
theorem dL_told_247 : decode cL_told 247 = .ok (.iload 13, 2) := by decide +kernel
theorem dL_told_249 : decode cL_told 249 = .ok (.iaload, 1) := by decide +kernel
theorem dL_told_250 : decode cL_told 250 = .ok (.iadd, 1) := by decide +kernel
theorem dL_told_251 : decode cL_told 251 = .ok (.istore 8, 2) := by decide +kernel
theorem dL_told_253 : decode cL_told 253 = .ok (.iload 9, 2) := by decide +kernel
theorem dL_told_255 : decode cL_told 255 = .ok (.iload 14, 2) := by decide +kernel
theorem dL_told_257 : decode cL_told 257 = .ok (.iadd, 1) := by decide +kernel
theorem dL_told_258 : decode cL_told 258 = .ok (.istore 9, 2) := by decide +kernel
theorem dL_told_260 : decode cL_told 260 = .ok (.iload 10, 2) := by decide +kernel
theorem dL_told_262 : decode cL_told 262 = .ok (.iload 13, 2) := by decide +kernel
theorem dL_told_264 : decode cL_told 264 = .ok (.aload 7, 2) := by decide +kernel
theorem dL_told_266 : decode cL_told 266 = .ok (.iconst 3, 1) := by decide +kernel
theorem dL_told_267 : decode cL_told 267 = .ok (.iaload, 1) := by decide +kernel
theorem dL_told_268 : decode cL_told 268 = .ok (.if_icmp .lt 15, 3) := by decide +kernel
theorem dL_told_271 : decode cL_told 271 = .ok (.aload 5, 2) := by decide +kernel
theorem dL_told_273 : decode cL_told 273 = .ok (.iload 13, 2) := by decide +kernel
theorem dL_told_275 : decode cL_told 275 = .ok (.iaload, 1) := by decide +kernel
theorem dL_told_276 : decode cL_told 276 = .ok (.ifCond .ge 7, 3) := by decide +kernel
theorem dL_told_279 : decode cL_told 279 = .ok (.iconst 1, 1) := by decide +kernel
theorem dL_told_280 : decode cL_told 280 = .ok (.goto 4, 3) := by decide +kernel
theorem dL_told_283 : decode cL_told 283 = .ok (.iconst 0, 1) := by decide +kernel
theorem dL_told_284 : decode cL_told 284 = .ok (.iadd, 1) := by decide +kernel
theorem dL_told_285 : decode cL_told 285 = .ok (.istore 10, 2) := by decide +kernel
theorem dL_told_287 : decode cL_told 287 = .ok (.iload 12, 2) := by decide +kernel
theorem dL_told_289 : decode cL_told 289 = .ok (.iload 13, 2) := by decide +kernel
theorem dL_told_291 : decode cL_told 291 = .ok (.aload 7, 2) := by decide +kernel
theorem dL_told_293 : decode cL_told 293 = .ok (.iconst 3, 1) := by decide +kernel
theorem dL_told_294 : decode cL_told 294 = .ok (.iaload, 1) := by decide +kernel
theorem dL_told_295 : decode cL_told 295 = .ok (.if_icmp .ge 11, 3) := by decide +kernel
theorem dL_told_298 : decode cL_told 298 = .ok (.aload 4, 2) := by decide +kernel
theorem dL_told_300 : decode cL_told 300 = .ok (.iload 13, 2) := by decide +kernel
theorem dL_told_302 : decode cL_told 302 = .ok (.iaload, 1) := by decide +kernel
theorem dL_told_303 : decode cL_told 303 = .ok (.goto 4, 3) := by decide +kernel
theorem dL_told_306 : decode cL_told 306 = .ok (.iconst 0, 1) := by decide +kernel
theorem dL_told_307 : decode cL_told 307 = .ok (.iadd, 1) := by decide +kernel
theorem dL_told_308 : decode cL_told 308 = .ok (.istore 12, 2) := by decide +kernel
theorem dL_told_310 : decode cL_told 310 = .ok (.iinc 13 1, 3) := by decide +kernel
theorem dL_told_313 : decode cL_told 313 = .ok (.goto (-295), 3) := by decide +kernel
theorem dL_told_316 : decode cL_told 316 = .ok (.iconst 0, 1) := by decide +kernel
theorem dL_told_317 : decode cL_told 317 = .ok (.istore 13, 2) := by decide +kernel
theorem dL_told_319 : decode cL_told 319 = .ok (.iload 13, 2) := by decide +kernel
theorem dL_told_321 : decode cL_told 321 = .ok (.aload 7, 2) := by decide +kernel
theorem dL_told_323 : decode cL_told 323 = .ok (.iconst 0, 1) := by decide +kernel
theorem dL_told_324 : decode cL_told 324 = .ok (.iaload, 1) := by decide +kernel
theorem dL_told_325 : decode cL_told 325 = .ok (.if_icmp .ge 382, 3) := by decide +kernel
theorem dL_told_328 : decode cL_told 328 = .ok (.iconst 0, 1) := by decide +kernel
theorem dL_told_329 : decode cL_told 329 = .ok (.istore 14, 2) := by decide +kernel
theorem dL_told_331 : decode cL_told 331 = .ok (.aload 7, 2) := by decide +kernel
theorem dL_told_333 : decode cL_told 333 = .ok (.iconst 3, 1) := by decide +kernel
theorem dL_told_334 : decode cL_told 334 = .ok (.iaload, 1) := by decide +kernel
theorem dL_told_335 : decode cL_told 335 = .ok (.istore 15, 2) := by decide +kernel
theorem dL_told_337 : decode cL_told 337 = .ok (.iload 15, 2) := by decide +kernel
theorem dL_told_339 : decode cL_told 339 = .ok (.aload 7, 2) := by decide +kernel
theorem dL_told_341 : decode cL_told 341 = .ok (.iconst 2, 1) := by decide +kernel
theorem dL_told_342 : decode cL_told 342 = .ok (.iaload, 1) := by decide +kernel
theorem dL_told_343 : decode cL_told 343 = .ok (.if_icmp .ge 29, 3) := by decide +kernel
theorem dL_told_346 : decode cL_told 346 = .ok (.iload 14, 2) := by decide +kernel
theorem dL_told_348 : decode cL_told 348 = .ok (.aload 5, 2) := by decide +kernel
theorem dL_told_350 : decode cL_told 350 = .ok (.iload 15, 2) := by decide +kernel
theorem dL_told_352 : decode cL_told 352 = .ok (.iaload, 1) := by decide +kernel
theorem dL_told_353 : decode cL_told 353 = .ok (.iload 13, 2) := by decide +kernel
theorem dL_told_355 : decode cL_told 355 = .ok (.if_icmp .ne 7, 3) := by decide +kernel
theorem dL_told_358 : decode cL_told 358 = .ok (.iconst 1, 1) := by decide +kernel
theorem dL_told_359 : decode cL_told 359 = .ok (.goto 4, 3) := by decide +kernel
theorem dL_told_362 : decode cL_told 362 = .ok (.iconst 0, 1) := by decide +kernel
theorem dL_told_363 : decode cL_told 363 = .ok (.iadd, 1) := by decide +kernel
theorem dL_told_364 : decode cL_told 364 = .ok (.istore 14, 2) := by decide +kernel
theorem dL_told_366 : decode cL_told 366 = .ok (.iinc 15 1, 3) := by decide +kernel
theorem dL_told_369 : decode cL_told 369 = .ok (.goto (-32), 3) := by decide +kernel
theorem dL_told_372 : decode cL_told 372 = .ok (.iload 13, 2) := by decide +kernel
theorem dL_told_374 : decode cL_told 374 = .ok (.aload_n 1, 1) := by decide +kernel
theorem dL_told_375 : decode cL_told 375 = .ok (.aload_n 2, 1) := by decide +kernel
theorem dL_told_376 : decode cL_told 376 = .ok (.aload 7, 2) := by decide +kernel
theorem dL_told_378 : decode cL_told 378 = .ok (.invokestatic 44, 3) := by decide +kernel
theorem dL_told_381 : decode cL_told 381 = .ok (.istore 15, 2) := by decide +kernel
theorem dL_told_383 : decode cL_told 383 = .ok (.iload 11, 2) := by decide +kernel
theorem dL_told_385 : decode cL_told 385 = .ok (.iload 15, 2) := by decide +kernel
theorem dL_told_387 : decode cL_told 387 = .ok (.ifCond .le 7, 3) := by decide +kernel
theorem dL_told_390 : decode cL_told 390 = .ok (.iconst 1, 1) := by decide +kernel
theorem dL_told_391 : decode cL_told 391 = .ok (.goto 4, 3) := by decide +kernel
theorem dL_told_394 : decode cL_told 394 = .ok (.iconst 0, 1) := by decide +kernel
theorem dL_told_395 : decode cL_told 395 = .ok (.iadd, 1) := by decide +kernel
theorem dL_told_396 : decode cL_told 396 = .ok (.istore 11, 2) := by decide +kernel
theorem dL_told_398 : decode cL_told 398 = .ok (.aload_n 0, 1) := by decide +kernel
theorem dL_told_399 : decode cL_told 399 = .ok (.iload 13, 2) := by decide +kernel
theorem dL_told_401 : decode cL_told 401 = .ok (.iconst 0, 1) := by decide +kernel
theorem dL_told_402 : decode cL_told 402 = .ok (.invokevirtual 48, 3) := by decide +kernel
theorem dL_told_405 : decode cL_told 405 = .ok (.aload_n 1, 1) := by decide +kernel
theorem dL_told_406 : decode cL_told 406 = .ok (.iconst 5, 1) := by decide +kernel
theorem dL_told_407 : decode cL_told 407 = .ok (.iload 13, 2) := by decide +kernel
theorem dL_told_409 : decode cL_told 409 = .ok (.imul, 1) := by decide +kernel
theorem dL_told_410 : decode cL_told 410 = .ok (.iaload, 1) := by decide +kernel
theorem dL_told_411 : decode cL_told 411 = .ok (.if_icmp .ne 46, 3) := by decide +kernel
theorem dL_told_414 : decode cL_told 414 = .ok (.aload_n 0, 1) := by decide +kernel
theorem dL_told_415 : decode cL_told 415 = .ok (.iload 13, 2) := by decide +kernel
theorem dL_told_417 : decode cL_told 417 = .ok (.iconst 5, 1) := by decide +kernel
theorem dL_told_418 : decode cL_told 418 = .ok (.invokevirtual 48, 3) := by decide +kernel
theorem dL_told_421 : decode cL_told 421 = .ok (.aload_n 2, 1) := by decide +kernel
theorem dL_told_422 : decode cL_told 422 = .ok (.iload 13, 2) := by decide +kernel
theorem dL_told_424 : decode cL_told 424 = .ok (.laload, 1) := by decide +kernel
theorem dL_told_425 : decode cL_told 425 = .ok (.invokestatic 26, 3) := by decide +kernel
theorem dL_told_428 : decode cL_told 428 = .ok (.if_icmp .ne 29, 3) := by decide +kernel
theorem dL_told_431 : decode cL_told 431 = .ok (.aload_n 0, 1) := by decide +kernel
theorem dL_told_432 : decode cL_told 432 = .ok (.iload 13, 2) := by decide +kernel
theorem dL_told_434 : decode cL_told 434 = .ok (.bipush 6, 2) := by decide +kernel
theorem dL_told_436 : decode cL_told 436 = .ok (.invokevirtual 48, 3) := by decide +kernel
theorem dL_told_439 : decode cL_told 439 = .ok (.iload 15, 2) := by decide +kernel
theorem dL_told_441 : decode cL_told 441 = .ok (.if_icmp .ne 16, 3) := by decide +kernel
theorem dL_told_444 : decode cL_told 444 = .ok (.aload_n 0, 1) := by decide +kernel
theorem dL_told_445 : decode cL_told 445 = .ok (.iload 13, 2) := by decide +kernel
theorem dL_told_447 : decode cL_told 447 = .ok (.bipush 7, 2) := by decide +kernel
theorem dL_told_449 : decode cL_told 449 = .ok (.invokevirtual 48, 3) := by decide +kernel
theorem dL_told_452 : decode cL_told 452 = .ok (.iload 14, 2) := by decide +kernel
theorem dL_told_454 : decode cL_told 454 = .ok (.if_icmp .eq 5, 3) := by decide +kernel
theorem dL_told_457 : decode cL_told 457 = .ok (.iconst 0, 1) := by decide +kernel
theorem dL_told_458 : decode cL_told 458 = .ok (.ireturn, 1) := by decide +kernel
theorem dL_told_459 : decode cL_told 459 = .ok (.iconst 0, 1) := by decide +kernel
theorem dL_told_460 : decode cL_told 460 = .ok (.istore 16, 2) := by decide +kernel
theorem dL_told_462 : decode cL_told 462 = .ok (.iload 16, 2) := by decide +kernel
theorem dL_told_464 : decode cL_told 464 = .ok (.iconst 4, 1) := by decide +kernel
theorem dL_told_465 : decode cL_told 465 = .ok (.if_icmp .ge 50, 3) := by decide +kernel
theorem dL_told_468 : decode cL_told 468 = .ok (.aload_n 0, 1) := by decide +kernel
theorem dL_told_469 : decode cL_told 469 = .ok (.iload 13, 2) := by decide +kernel
theorem dL_told_471 : decode cL_told 471 = .ok (.iconst 1, 1) := by decide +kernel
theorem dL_told_472 : decode cL_told 472 = .ok (.iload 16, 2) := by decide +kernel
theorem dL_told_474 : decode cL_told 474 = .ok (.iadd, 1) := by decide +kernel
theorem dL_told_475 : decode cL_told 475 = .ok (.invokevirtual 48, 3) := by decide +kernel
theorem dL_told_478 : decode cL_told 478 = .ok (.iload 16, 2) := by decide +kernel
theorem dL_told_480 : decode cL_told 480 = .ok (.aload_n 1, 1) := by decide +kernel
theorem dL_told_481 : decode cL_told 481 = .ok (.iconst 5, 1) := by decide +kernel
theorem dL_told_482 : decode cL_told 482 = .ok (.iload 13, 2) := by decide +kernel
theorem dL_told_484 : decode cL_told 484 = .ok (.imul, 1) := by decide +kernel
theorem dL_told_485 : decode cL_told 485 = .ok (.iaload, 1) := by decide +kernel
theorem dL_told_486 : decode cL_told 486 = .ok (.if_icmp .ge 17, 3) := by decide +kernel
theorem dL_told_489 : decode cL_told 489 = .ok (.aload_n 1, 1) := by decide +kernel
theorem dL_told_490 : decode cL_told 490 = .ok (.iconst 5, 1) := by decide +kernel
theorem dL_told_491 : decode cL_told 491 = .ok (.iload 13, 2) := by decide +kernel
theorem dL_told_493 : decode cL_told 493 = .ok (.imul, 1) := by decide +kernel
theorem dL_told_494 : decode cL_told 494 = .ok (.iconst 1, 1) := by decide +kernel
theorem dL_told_495 : decode cL_told 495 = .ok (.iadd, 1) := by decide +kernel
theorem dL_told_496 : decode cL_told 496 = .ok (.iload 16, 2) := by decide +kernel
theorem dL_told_498 : decode cL_told 498 = .ok (.iadd, 1) := by decide +kernel
theorem dL_told_499 : decode cL_told 499 = .ok (.iaload, 1) := by decide +kernel
theorem dL_told_500 : decode cL_told 500 = .ok (.goto 4, 3) := by decide +kernel
theorem dL_told_503 : decode cL_told 503 = .ok (.iconst (-1), 1) := by decide +kernel
theorem dL_told_504 : decode cL_told 504 = .ok (.if_icmp .eq 5, 3) := by decide +kernel
theorem dL_told_507 : decode cL_told 507 = .ok (.iconst 0, 1) := by decide +kernel
theorem dL_told_508 : decode cL_told 508 = .ok (.ireturn, 1) := by decide +kernel
theorem dL_told_509 : decode cL_told 509 = .ok (.iinc 16 1, 3) := by decide +kernel
theorem dL_told_512 : decode cL_told 512 = .ok (.goto (-50), 3) := by decide +kernel
theorem dL_told_515 : decode cL_told 515 = .ok (.iconst 0, 1) := by decide +kernel
theorem dL_told_516 : decode cL_told 516 = .ok (.istore 16, 2) := by decide +kernel
theorem dL_told_518 : decode cL_told 518 = .ok (.iload 16, 2) := by decide +kernel
theorem dL_told_520 : decode cL_told 520 = .ok (.bipush 8, 2) := by decide +kernel
theorem dL_told_522 : decode cL_told 522 = .ok (.if_icmp .ge 56, 3) := by decide +kernel
theorem dL_told_525 : decode cL_told 525 = .ok (.aload_n 0, 1) := by decide +kernel
theorem dL_told_526 : decode cL_told 526 = .ok (.iload 13, 2) := by decide +kernel
theorem dL_told_528 : decode cL_told 528 = .ok (.bipush 8, 2) := by decide +kernel
theorem dL_told_530 : decode cL_told 530 = .ok (.iload 16, 2) := by decide +kernel
theorem dL_told_532 : decode cL_told 532 = .ok (.iadd, 1) := by decide +kernel
theorem dL_told_533 : decode cL_told 533 = .ok (.invokevirtual 48, 3) := by decide +kernel
theorem dL_told_536 : decode cL_told 536 = .ok (.iload 16, 2) := by decide +kernel
theorem dL_told_538 : decode cL_told 538 = .ok (.aload_n 2, 1) := by decide +kernel
theorem dL_told_539 : decode cL_told 539 = .ok (.iload 13, 2) := by decide +kernel
theorem dL_told_541 : decode cL_told 541 = .ok (.laload, 1) := by decide +kernel
theorem dL_told_542 : decode cL_told 542 = .ok (.invokestatic 26, 3) := by decide +kernel
theorem dL_told_545 : decode cL_told 545 = .ok (.if_icmp .ge 21, 3) := by decide +kernel
theorem dL_told_548 : decode cL_told 548 = .ok (.aload_n 2, 1) := by decide +kernel
theorem dL_told_549 : decode cL_told 549 = .ok (.iload 13, 2) := by decide +kernel
theorem dL_told_551 : decode cL_told 551 = .ok (.laload, 1) := by decide +kernel
theorem dL_told_552 : decode cL_told 552 = .ok (.bipush 7, 2) := by decide +kernel
theorem dL_told_554 : decode cL_told 554 = .ok (.iload 16, 2) := by decide +kernel
theorem dL_told_556 : decode cL_told 556 = .ok (.imul, 1) := by decide +kernel
theorem dL_told_557 : decode cL_told 557 = .ok (.lshr, 1) := by decide +kernel
theorem dL_told_558 : decode cL_told 558 = .ok (.ldc2_w 36, 3) := by decide +kernel
theorem dL_told_561 : decode cL_told 561 = .ok (.land, 1) := by decide +kernel
theorem dL_told_562 : decode cL_told 562 = .ok (.l2i, 1) := by decide +kernel
theorem dL_told_563 : decode cL_told 563 = .ok (.goto 4, 3) := by decide +kernel
theorem dL_told_566 : decode cL_told 566 = .ok (.iconst (-1), 1) := by decide +kernel
theorem dL_told_567 : decode cL_told 567 = .ok (.if_icmp .eq 5, 3) := by decide +kernel
theorem dL_told_570 : decode cL_told 570 = .ok (.iconst 0, 1) := by decide +kernel
theorem dL_told_571 : decode cL_told 571 = .ok (.ireturn, 1) := by decide +kernel
theorem dL_told_572 : decode cL_told 572 = .ok (.iinc 16 1, 3) := by decide +kernel
theorem dL_told_575 : decode cL_told 575 = .ok (.goto (-57), 3) := by decide +kernel
theorem dL_told_578 : decode cL_told 578 = .ok (.iconst (-1), 1) := by decide +kernel
theorem dL_told_579 : decode cL_told 579 = .ok (.istore 16, 2) := by decide +kernel
theorem dL_told_581 : decode cL_told 581 = .ok (.iconst 0, 1) := by decide +kernel
theorem dL_told_582 : decode cL_told 582 = .ok (.istore 17, 2) := by decide +kernel
theorem dL_told_584 : decode cL_told 584 = .ok (.aload 7, 2) := by decide +kernel
theorem dL_told_586 : decode cL_told 586 = .ok (.iconst 0, 1) := by decide +kernel
theorem dL_told_587 : decode cL_told 587 = .ok (.iaload, 1) := by decide +kernel
theorem dL_told_588 : decode cL_told 588 = .ok (.iconst 1, 1) := by decide +kernel
theorem dL_told_589 : decode cL_told 589 = .ok (.isub, 1) := by decide +kernel
theorem dL_told_590 : decode cL_told 590 = .ok (.istore 18, 2) := by decide +kernel
theorem dL_told_592 : decode cL_told 592 = .ok (.iload 18, 2) := by decide +kernel
theorem dL_told_594 : decode cL_told 594 = .ok (.ifCond .lt 94, 3) := by decide +kernel
theorem dL_told_597 : decode cL_told 597 = .ok (.bipush 100, 2) := by decide +kernel
theorem dL_told_599 : decode cL_told 599 = .ok (.aload_n 1, 1) := by decide +kernel
theorem dL_told_600 : decode cL_told 600 = .ok (.iconst 5, 1) := by decide +kernel
theorem dL_told_601 : decode cL_told 601 = .ok (.iload 18, 2) := by decide +kernel
theorem dL_told_603 : decode cL_told 603 = .ok (.imul, 1) := by decide +kernel
theorem dL_told_604 : decode cL_told 604 = .ok (.iaload, 1) := by decide +kernel
theorem dL_told_605 : decode cL_told 605 = .ok (.imul, 1) := by decide +kernel
theorem dL_told_606 : decode cL_told 606 = .ok (.istore 19, 2) := by decide +kernel
theorem dL_told_608 : decode cL_told 608 = .ok (.iconst 0, 1) := by decide +kernel
theorem dL_told_609 : decode cL_told 609 = .ok (.istore 20, 2) := by decide +kernel
theorem dL_told_611 : decode cL_told 611 = .ok (.iload 20, 2) := by decide +kernel
theorem dL_told_613 : decode cL_told 613 = .ok (.aload_n 1, 1) := by decide +kernel
theorem dL_told_614 : decode cL_told 614 = .ok (.iconst 5, 1) := by decide +kernel
theorem dL_told_615 : decode cL_told 615 = .ok (.iload 18, 2) := by decide +kernel
theorem dL_told_617 : decode cL_told 617 = .ok (.imul, 1) := by decide +kernel
theorem dL_told_618 : decode cL_told 618 = .ok (.iaload, 1) := by decide +kernel
theorem dL_told_619 : decode cL_told 619 = .ok (.if_icmp .ge 28, 3) := by decide +kernel
theorem dL_told_622 : decode cL_told 622 = .ok (.iload 19, 2) := by decide +kernel
theorem dL_told_624 : decode cL_told 624 = .ok (.aload_n 1, 1) := by decide +kernel
theorem dL_told_625 : decode cL_told 625 = .ok (.iconst 5, 1) := by decide +kernel
theorem dL_told_626 : decode cL_told 626 = .ok (.iload 18, 2) := by decide +kernel
theorem dL_told_628 : decode cL_told 628 = .ok (.imul, 1) := by decide +kernel
theorem dL_told_629 : decode cL_told 629 = .ok (.iconst 1, 1) := by decide +kernel
theorem dL_told_630 : decode cL_told 630 = .ok (.iadd, 1) := by decide +kernel
theorem dL_told_631 : decode cL_told 631 = .ok (.iload 20, 2) := by decide +kernel
theorem dL_told_633 : decode cL_told 633 = .ok (.iadd, 1) := by decide +kernel
theorem dL_told_634 : decode cL_told 634 = .ok (.iaload, 1) := by decide +kernel
theorem dL_told_635 : decode cL_told 635 = .ok (.invokestatic 41, 3) := by decide +kernel
theorem dL_told_638 : decode cL_told 638 = .ok (.iadd, 1) := by decide +kernel
theorem dL_told_639 : decode cL_told 639 = .ok (.istore 19, 2) := by decide +kernel
theorem dL_told_641 : decode cL_told 641 = .ok (.iinc 20 1, 3) := by decide +kernel
theorem dL_told_644 : decode cL_told 644 = .ok (.goto (-33), 3) := by decide +kernel
theorem dL_told_647 : decode cL_told 647 = .ok (.aload_n 2, 1) := by decide +kernel
theorem dL_told_648 : decode cL_told 648 = .ok (.iload 18, 2) := by decide +kernel
theorem dL_told_650 : decode cL_told 650 = .ok (.laload, 1) := by decide +kernel
theorem dL_told_651 : decode cL_told 651 = .ok (.aload_n 2, 1) := by decide +kernel
theorem dL_told_652 : decode cL_told 652 = .ok (.iload 13, 2) := by decide +kernel
theorem dL_told_654 : decode cL_told 654 = .ok (.laload, 1) := by decide +kernel
theorem dL_told_655 : decode cL_told 655 = .ok (.lcmp, 1) := by decide +kernel
theorem dL_told_656 : decode cL_told 656 = .ok (.ifCond .ne 26, 3) := by decide +kernel
theorem dL_told_659 : decode cL_told 659 = .ok (.iload 16, 2) := by decide +kernel
theorem dL_told_661 : decode cL_told 661 = .ok (.ifCond .lt 13, 3) := by decide +kernel
theorem dL_told_664 : decode cL_told 664 = .ok (.iload 19, 2) := by decide +kernel
theorem dL_told_666 : decode cL_told 666 = .ok (.iload 17, 2) := by decide +kernel
theorem dL_told_668 : decode cL_told 668 = .ok (.if_icmp .le 6, 3) := by decide +kernel
theorem dL_told_671 : decode cL_told 671 = .ok (.goto 11, 3) := by decide +kernel
theorem dL_told_674 : decode cL_told 674 = .ok (.iload 18, 2) := by decide +kernel
theorem dL_told_676 : decode cL_told 676 = .ok (.istore 16, 2) := by decide +kernel
theorem dL_told_678 : decode cL_told 678 = .ok (.iload 19, 2) := by decide +kernel
theorem dL_told_680 : decode cL_told 680 = .ok (.istore 17, 2) := by decide +kernel
theorem dL_told_682 : decode cL_told 682 = .ok (.iinc 18 (-1), 3) := by decide +kernel
theorem dL_told_685 : decode cL_told 685 = .ok (.goto (-93), 3) := by decide +kernel
theorem dL_told_688 : decode cL_told 688 = .ok (.aload_n 0, 1) := by decide +kernel
theorem dL_told_689 : decode cL_told 689 = .ok (.iload 13, 2) := by decide +kernel
theorem dL_told_691 : decode cL_told 691 = .ok (.invokevirtual 51, 3) := by decide +kernel
theorem dL_told_694 : decode cL_told 694 = .ok (.iload 16, 2) := by decide +kernel
theorem dL_told_696 : decode cL_told 696 = .ok (.if_icmp .eq 5, 3) := by decide +kernel
theorem dL_told_699 : decode cL_told 699 = .ok (.iconst 0, 1) := by decide +kernel
theorem dL_told_700 : decode cL_told 700 = .ok (.ireturn, 1) := by decide +kernel
theorem dL_told_701 : decode cL_told 701 = .ok (.iinc 13 1, 3) := by decide +kernel
theorem dL_told_704 : decode cL_told 704 = .ok (.goto (-385), 3) := by decide +kernel
theorem dL_told_707 : decode cL_told 707 = .ok (.aload_n 0, 1) := by decide +kernel
theorem dL_told_708 : decode cL_told 708 = .ok (.invokevirtual 54, 3) := by decide +kernel
theorem dL_told_711 : decode cL_told 711 = .ok (.aload 7, 2) := by decide +kernel
theorem dL_told_713 : decode cL_told 713 = .ok (.iconst 1, 1) := by decide +kernel
theorem dL_told_714 : decode cL_told 714 = .ok (.iaload, 1) := by decide +kernel
theorem dL_told_715 : decode cL_told 715 = .ok (.ifCond .ne 7, 3) := by decide +kernel
theorem dL_told_718 : decode cL_told 718 = .ok (.dconst 0, 1) := by decide +kernel
theorem dL_told_719 : decode cL_told 719 = .ok (.goto 14, 3) := by decide +kernel
theorem dL_told_722 : decode cL_told 722 = .ok (.dconst 1, 1) := by decide +kernel
theorem dL_told_723 : decode cL_told 723 = .ok (.iload 9, 2) := by decide +kernel
theorem dL_told_725 : decode cL_told 725 = .ok (.i2d, 1) := by decide +kernel
theorem dL_told_726 : decode cL_told 726 = .ok (.dmul, 1) := by decide +kernel
theorem dL_told_727 : decode cL_told 727 = .ok (.aload 7, 2) := by decide +kernel
theorem dL_told_729 : decode cL_told 729 = .ok (.iconst 1, 1) := by decide +kernel
theorem dL_told_730 : decode cL_told 730 = .ok (.iaload, 1) := by decide +kernel
theorem dL_told_731 : decode cL_told 731 = .ok (.i2d, 1) := by decide +kernel
theorem dL_told_732 : decode cL_told 732 = .ok (.ddiv, 1) := by decide +kernel
theorem dL_told_733 : decode cL_told 733 = .ok (.dcmp .l, 1) := by decide +kernel
theorem dL_told_734 : decode cL_told 734 = .ok (.ifCond .eq 5, 3) := by decide +kernel
theorem dL_told_737 : decode cL_told 737 = .ok (.iconst 0, 1) := by decide +kernel
theorem dL_told_738 : decode cL_told 738 = .ok (.ireturn, 1) := by decide +kernel
theorem dL_told_739 : decode cL_told 739 = .ok (.aload_n 0, 1) := by decide +kernel
theorem dL_told_740 : decode cL_told 740 = .ok (.iconst 0, 1) := by decide +kernel
theorem dL_told_741 : decode cL_told 741 = .ok (.invokevirtual 58, 3) := by decide +kernel
theorem dL_told_744 : decode cL_told 744 = .ok (.aload 7, 2) := by decide +kernel
theorem dL_told_746 : decode cL_told 746 = .ok (.iconst 1, 1) := by decide +kernel
theorem dL_told_747 : decode cL_told 747 = .ok (.iaload, 1) := by decide +kernel
theorem dL_told_748 : decode cL_told 748 = .ok (.if_icmp .ne 103, 3) := by decide +kernel
theorem dL_told_751 : decode cL_told 751 = .ok (.aload_n 0, 1) := by decide +kernel
theorem dL_told_752 : decode cL_told 752 = .ok (.iconst 1, 1) := by decide +kernel
theorem dL_told_753 : decode cL_told 753 = .ok (.invokevirtual 58, 3) := by decide +kernel
theorem dL_told_756 : decode cL_told 756 = .ok (.aload 7, 2) := by decide +kernel
theorem dL_told_758 : decode cL_told 758 = .ok (.iconst 2, 1) := by decide +kernel
theorem dL_told_759 : decode cL_told 759 = .ok (.iaload, 1) := by decide +kernel
theorem dL_told_760 : decode cL_told 760 = .ok (.if_icmp .ne 91, 3) := by decide +kernel
theorem dL_told_763 : decode cL_told 763 = .ok (.aload_n 0, 1) := by decide +kernel
theorem dL_told_764 : decode cL_told 764 = .ok (.iconst 2, 1) := by decide +kernel
theorem dL_told_765 : decode cL_told 765 = .ok (.invokevirtual 58, 3) := by decide +kernel
theorem dL_told_768 : decode cL_told 768 = .ok (.aload 7, 2) := by decide +kernel
theorem dL_told_770 : decode cL_told 770 = .ok (.iconst 3, 1) := by decide +kernel
theorem dL_told_771 : decode cL_told 771 = .ok (.iaload, 1) := by decide +kernel
theorem dL_told_772 : decode cL_told 772 = .ok (.if_icmp .ne 79, 3) := by decide +kernel
theorem dL_told_775 : decode cL_told 775 = .ok (.aload_n 0, 1) := by decide +kernel
theorem dL_told_776 : decode cL_told 776 = .ok (.iconst 3, 1) := by decide +kernel
theorem dL_told_777 : decode cL_told 777 = .ok (.invokevirtual 58, 3) := by decide +kernel
theorem dL_told_780 : decode cL_told 780 = .ok (.aload 7, 2) := by decide +kernel
theorem dL_told_782 : decode cL_told 782 = .ok (.iconst 1, 1) := by decide +kernel
theorem dL_told_783 : decode cL_told 783 = .ok (.iaload, 1) := by decide +kernel
theorem dL_told_784 : decode cL_told 784 = .ok (.iload 12, 2) := by decide +kernel
theorem dL_told_786 : decode cL_told 786 = .ok (.isub, 1) := by decide +kernel
theorem dL_told_787 : decode cL_told 787 = .ok (.if_icmp .ne 64, 3) := by decide +kernel
theorem dL_told_790 : decode cL_told 790 = .ok (.aload_n 0, 1) := by decide +kernel
theorem dL_told_791 : decode cL_told 791 = .ok (.iconst 4, 1) := by decide +kernel
theorem dL_told_792 : decode cL_told 792 = .ok (.invokevirtual 58, 3) := by decide +kernel
theorem dL_told_795 : decode cL_told 795 = .ok (.aload 7, 2) := by decide +kernel
theorem dL_told_797 : decode cL_told 797 = .ok (.iconst 0, 1) := by decide +kernel
theorem dL_told_798 : decode cL_told 798 = .ok (.iaload, 1) := by decide +kernel
theorem dL_told_799 : decode cL_told 799 = .ok (.if_icmp .ne 52, 3) := by decide +kernel
theorem dL_told_802 : decode cL_told 802 = .ok (.aload_n 0, 1) := by decide +kernel
theorem dL_told_803 : decode cL_told 803 = .ok (.iconst 5, 1) := by decide +kernel
theorem dL_told_804 : decode cL_told 804 = .ok (.invokevirtual 58, 3) := by decide +kernel
theorem dL_told_807 : decode cL_told 807 = .ok (.aload 7, 2) := by decide +kernel
theorem dL_told_809 : decode cL_told 809 = .ok (.iconst 4, 1) := by decide +kernel
theorem dL_told_810 : decode cL_told 810 = .ok (.iaload, 1) := by decide +kernel
theorem dL_told_811 : decode cL_told 811 = .ok (.if_icmp .ne 40, 3) := by decide +kernel
theorem dL_told_814 : decode cL_told 814 = .ok (.aload_n 0, 1) := by decide +kernel
theorem dL_told_815 : decode cL_told 815 = .ok (.bipush 6, 2) := by decide +kernel
theorem dL_told_817 : decode cL_told 817 = .ok (.invokevirtual 58, 3) := by decide +kernel
theorem dL_told_820 : decode cL_told 820 = .ok (.iload 9, 2) := by decide +kernel
theorem dL_told_822 : decode cL_told 822 = .ok (.if_icmp .ne 29, 3) := by decide +kernel
theorem dL_told_825 : decode cL_told 825 = .ok (.aload_n 0, 1) := by decide +kernel
theorem dL_told_826 : decode cL_told 826 = .ok (.bipush 7, 2) := by decide +kernel
theorem dL_told_828 : decode cL_told 828 = .ok (.invokevirtual 58, 3) := by decide +kernel
theorem dL_told_831 : decode cL_told 831 = .ok (.iload 10, 2) := by decide +kernel
theorem dL_told_833 : decode cL_told 833 = .ok (.if_icmp .ne 18, 3) := by decide +kernel
theorem dL_told_836 : decode cL_told 836 = .ok (.aload_n 0, 1) := by decide +kernel
theorem dL_told_837 : decode cL_told 837 = .ok (.bipush 8, 2) := by decide +kernel
theorem dL_told_839 : decode cL_told 839 = .ok (.invokevirtual 58, 3) := by decide +kernel
theorem dL_told_842 : decode cL_told 842 = .ok (.iload 11, 2) := by decide +kernel
theorem dL_told_844 : decode cL_told 844 = .ok (.if_icmp .ne 7, 3) := by decide +kernel
theorem dL_told_847 : decode cL_told 847 = .ok (.iconst 1, 1) := by decide +kernel
theorem dL_told_848 : decode cL_told 848 = .ok (.goto 4, 3) := by decide +kernel
theorem dL_told_851 : decode cL_told 851 = .ok (.iconst 0, 1) := by decide +kernel
theorem dL_told_852 : decode cL_told 852 = .ok (.ireturn, 1) := by decide +kernel
set_option maxRecDepth 20000 in
theorem ggL_ahead_L_at : GoodIn wsL_ahead wsL_at := goodIn_r _ [6] (by decide +kernel) (by decide +kernel)
set_option maxRecDepth 20000 in
theorem gL_ahead_L_at : GoodIn wsL_ahead (va_wsS RL 61 yL_at wsL_at) := goodIn_app (goodIn_of _ (by decide +kernel)) ggL_ahead_L_at
set_option maxRecDepth 20000 in
theorem ggL_ahead_L_remove : GoodIn wsL_ahead wsL_remove := goodIn_r _ [9] (by decide +kernel) (by decide +kernel)
set_option maxRecDepth 20000 in
theorem gL_ahead_L_remove : GoodIn wsL_ahead (va_wsS RL 64 yL_remove wsL_remove) := goodIn_app (goodIn_of _ (by decide +kernel)) ggL_ahead_L_remove
set_option maxRecDepth 20000 in
theorem ggL_ahead_L_translate : GoodIn wsL_ahead wsL_translate := goodIn_r _ [12, 13, 14, 5, 15, 16, 17, 18, 19, 20, 21] (by decide +kernel) (by decide +kernel)
set_option maxRecDepth 20000 in
theorem gL_ahead_L_translate : GoodIn wsL_ahead (va_wsS RL 68 yL_translate wsL_translate) := goodIn_app (goodIn_of _ (by decide +kernel)) ggL_ahead_L_translate
set_option maxRecDepth 20000 in
theorem ggL_ahead_L_size : GoodIn wsL_ahead wsL_size := goodIn_r _ [24] (by decide +kernel) (by decide +kernel)
set_option maxRecDepth 20000 in
theorem gL_ahead_L_size : GoodIn wsL_ahead (va_wsS RL 26 yL_size wsL_size) := goodIn_app (goodIn_of _ (by decide +kernel)) ggL_ahead_L_size
set_option maxRecDepth 20000 in
theorem ggL_ahead_X11_ifStroke : GoodIn wsL_ahead wsX11_ifStroke := goodIn_ca (goodIn_r _ [29, 30, 31, 32, 33, 34, 35, 36, 37, 38, 28, 39, 40, 41, 42, 43, 44, 45, 46, 47, 48, 49, 50, 51, 52, 53, 54, 55, 56, 57, 58, 59, 60, 61, 62, 63, 64, 65, 66, 67, 68, 69, 70, 71, 72, 73, 74, 75, 76, 77, 78, 79, 80, 81, 82, 83, 84, 85, 86, 87, 88, 89, 90, 91, 92, 93, 94, 95, 96, 97, 98, 99, 100, 101, 102, 103, 104, 105, 106, 107, 108, 109, 110, 111, 112, 113, 114, 115, 116, 117, 118, 119, 120, 121, 122, 123, 124, 125, 126, 127, 128, 129, 130, 131, 132, 133, 134, 135, 136, 137, 138, 139, 140, 141, 142, 143, 144, 145, 146, 147, 148, 149, 150, 151, 152, 153, 154, 155, 156, 157, 158, 159, 160, 161, 162, 163, 164, 165, 166, 167, 168, 169, 170, 171, 172, 173, 174, 175, 176, 177, 178, 179, 180, 181, 182, 183, 184, 185, 210, 211, 212, 213, 214, 215, 216, 217, 218, 219, 220, 221, 222, 223, 224, 225, 226, 227, 228, 229] (by decide +kernel) (by decide +kernel)) (goodIn_sub (fun _ h => List.mem_cons_of_mem _ (List.mem_append_left _ (List.mem_append_right _ h))) (by decide +kernel))
set_option maxRecDepth 20000 in
theorem gL_ahead_X11_ifStroke : GoodIn wsL_ahead (wsV RL 72 RX11 yX11_ifStroke wsX11_ifStroke) := goodIn_app (goodIn_of _ (by decide +kernel)) ggL_ahead_X11_ifStroke
set_option maxRecDepth 20000 in
theorem ggL_ahead_X11_ifRemoved : GoodIn wsL_ahead wsX11_ifRemoved := goodIn_ca (goodIn_r _ [189, 190, 191, 32, 33, 192, 34, 193, 194, 195, 28, 196, 197, 40, 41, 42, 43, 44, 45, 46, 47, 48, 49, 50, 51, 52, 53, 54, 55, 56, 57, 58, 59, 60, 61, 62, 63, 64, 65, 66, 67, 68, 69, 70, 71, 72, 73, 74, 75, 76, 77, 78, 79, 80, 81, 82, 83, 84, 198, 199, 200, 201, 202, 137, 138, 139, 126, 127, 128, 203, 134, 135, 204, 130, 131, 132, 205, 97, 98, 99, 100, 101, 102, 103, 104, 105, 106, 107, 108, 109, 110, 111, 112, 113, 114, 115, 116, 117, 118, 119, 120, 121, 122, 123, 124, 125, 93, 94, 95, 129, 133, 136, 140, 141, 142, 143, 144, 145, 146, 147, 148, 149, 150, 151, 152, 153, 154, 155, 156, 157, 158, 206, 207, 208, 209, 210, 211, 212, 213, 214, 215, 216, 217, 227, 228, 229, 218, 219, 220, 221, 222, 223, 224, 225, 226] (by decide +kernel) (by decide +kernel)) (goodIn_sub (fun _ h => List.mem_cons_of_mem _ (List.mem_append_right _ h)) (by decide +kernel))
set_option maxRecDepth 20000 in
theorem gL_ahead_X11_ifRemoved : GoodIn wsL_ahead (wsV RL 75 RX11 yX11_ifRemoved wsX11_ifRemoved) := goodIn_app (goodIn_of _ (by decide +kernel)) ggL_ahead_X11_ifRemoved
theorem dL_ahead_0 : decode cL_ahead 0 = .ok (.bipush 35, 2) := by decide +kernel
theorem dL_ahead_2 : decode cL_ahead 2 = .ok (.newarray .int, 2) := by decide +kernel
theorem dL_ahead_4 : decode cL_ahead 4 = .ok (.astore 9, 2) := by decide +kernel
theorem dL_ahead_6 : decode cL_ahead 6 = .ok (.bipush 7, 2) := by decide +kernel
theorem dL_ahead_8 : decode cL_ahead 8 = .ok (.newarray .long, 2) := by decide +kernel
theorem dL_ahead_10 : decode cL_ahead 10 = .ok (.astore 10, 2) := by decide +kernel
theorem dL_ahead_12 : decode cL_ahead 12 = .ok (.bipush 32, 2) := by decide +kernel
theorem dL_ahead_14 : decode cL_ahead 14 = .ok (.newarray .int, 2) := by decide +kernel
theorem dL_ahead_16 : decode cL_ahead 16 = .ok (.astore 11, 2) := by decide +kernel
theorem dL_ahead_18 : decode cL_ahead 18 = .ok (.bipush 32, 2) := by decide +kernel
theorem dL_ahead_20 : decode cL_ahead 20 = .ok (.newarray .int, 2) := by decide +kernel
theorem dL_ahead_22 : decode cL_ahead 22 = .ok (.astore 12, 2) := by decide +kernel
theorem dL_ahead_24 : decode cL_ahead 24 = .ok (.bipush 32, 2) := by decide +kernel
theorem dL_ahead_26 : decode cL_ahead 26 = .ok (.newarray .int, 2) := by decide +kernel
theorem dL_ahead_28 : decode cL_ahead 28 = .ok (.astore 13, 2) := by decide +kernel
theorem dL_ahead_30 : decode cL_ahead 30 = .ok (.bipush 32, 2) := by decide +kernel
theorem dL_ahead_32 : decode cL_ahead 32 = .ok (.newarray .long, 2) := by decide +kernel
theorem dL_ahead_34 : decode cL_ahead 34 = .ok (.astore 14, 2) := by decide +kernel
theorem dL_ahead_36 : decode cL_ahead 36 = .ok (.iconst 5, 1) := by decide +kernel
theorem dL_ahead_37 : decode cL_ahead 37 = .ok (.newarray .int, 2) := by decide +kernel
theorem dL_ahead_39 : decode cL_ahead 39 = .ok (.astore 15, 2) := by decide +kernel
theorem dL_ahead_41 : decode cL_ahead 41 = .ok (.iconst 0, 1) := by decide +kernel
theorem dL_ahead_42 : decode cL_ahead 42 = .ok (.istore 16, 2) := by decide +kernel
theorem dL_ahead_44 : decode cL_ahead 44 = .ok (.iload 16, 2) := by decide +kernel
theorem dL_ahead_46 : decode cL_ahead 46 = .ok (.iconst 2, 1) := by decide +kernel
theorem dL_ahead_47 : decode cL_ahead 47 = .ok (.if_icmp .ge 362, 3) := by decide +kernel
theorem dL_ahead_50 : decode cL_ahead 50 = .ok (.iload 16, 2) := by decide +kernel
theorem dL_ahead_52 : decode cL_ahead 52 = .ok (.iconst 1, 1) := by decide +kernel
theorem dL_ahead_53 : decode cL_ahead 53 = .ok (.if_icmp .ne 13, 3) := by decide +kernel
theorem dL_ahead_56 : decode cL_ahead 56 = .ok (.aload 8, 2) := by decide +kernel
theorem dL_ahead_58 : decode cL_ahead 58 = .ok (.iconst 0, 1) := by decide +kernel
theorem dL_ahead_59 : decode cL_ahead 59 = .ok (.iaload, 1) := by decide +kernel
theorem dL_ahead_60 : decode cL_ahead 60 = .ok (.ifCond .ne 6, 3) := by decide +kernel
theorem dL_ahead_63 : decode cL_ahead 63 = .ok (.goto 346, 3) := by decide +kernel
theorem dL_ahead_66 : decode cL_ahead 66 = .ok (.iconst 0, 1) := by decide +kernel
theorem dL_ahead_67 : decode cL_ahead 67 = .ok (.istore 17, 2) := by decide +kernel
theorem dL_ahead_69 : decode cL_ahead 69 = .ok (.iload 17, 2) := by decide +kernel
theorem dL_ahead_71 : decode cL_ahead 71 = .ok (.bipush 35, 2) := by decide +kernel
theorem dL_ahead_73 : decode cL_ahead 73 = .ok (.if_icmp .ge 100, 3) := by decide +kernel
theorem dL_ahead_76 : decode cL_ahead 76 = .ok (.iload 17, 2) := by decide +kernel
theorem dL_ahead_78 : decode cL_ahead 78 = .ok (.bipush 7, 2) := by decide +kernel
theorem dL_ahead_80 : decode cL_ahead 80 = .ok (.if_icmp .ge 12, 3) := by decide +kernel
theorem dL_ahead_83 : decode cL_ahead 83 = .ok (.aload 10, 2) := by decide +kernel
theorem dL_ahead_85 : decode cL_ahead 85 = .ok (.iload 17, 2) := by decide +kernel
theorem dL_ahead_87 : decode cL_ahead 87 = .ok (.aload_n 3, 1) := by decide +kernel
theorem dL_ahead_88 : decode cL_ahead 88 = .ok (.iload 17, 2) := by decide +kernel
theorem dL_ahead_90 : decode cL_ahead 90 = .ok (.laload, 1) := by decide +kernel
theorem dL_ahead_91 : decode cL_ahead 91 = .ok (.lastore, 1) := by decide +kernel
theorem dL_ahead_92 : decode cL_ahead 92 = .ok (.iload 17, 2) := by decide +kernel
theorem dL_ahead_94 : decode cL_ahead 94 = .ok (.iconst 5, 1) := by decide +kernel
theorem dL_ahead_95 : decode cL_ahead 95 = .ok (.if_icmp .ge 13, 3) := by decide +kernel
theorem dL_ahead_98 : decode cL_ahead 98 = .ok (.aload 15, 2) := by decide +kernel
theorem dL_ahead_100 : decode cL_ahead 100 = .ok (.iload 17, 2) := by decide +kernel
theorem dL_ahead_102 : decode cL_ahead 102 = .ok (.aload 8, 2) := by decide +kernel
theorem dL_ahead_104 : decode cL_ahead 104 = .ok (.iload 17, 2) := by decide +kernel
theorem dL_ahead_106 : decode cL_ahead 106 = .ok (.iaload, 1) := by decide +kernel
theorem dL_ahead_107 : decode cL_ahead 107 = .ok (.iastore, 1) := by decide +kernel
theorem dL_ahead_108 : decode cL_ahead 108 = .ok (.aload 9, 2) := by decide +kernel
theorem dL_ahead_110 : decode cL_ahead 110 = .ok (.iload 17, 2) := by decide +kernel
theorem dL_ahead_112 : decode cL_ahead 112 = .ok (.aload_n 2, 1) := by decide +kernel
theorem dL_ahead_113 : decode cL_ahead 113 = .ok (.iload 17, 2) := by decide +kernel
theorem dL_ahead_115 : decode cL_ahead 115 = .ok (.iaload, 1) := by decide +kernel
theorem dL_ahead_116 : decode cL_ahead 116 = .ok (.iastore, 1) := by decide +kernel
theorem dL_ahead_117 : decode cL_ahead 117 = .ok (.iload 17, 2) := by decide +kernel
theorem dL_ahead_119 : decode cL_ahead 119 = .ok (.bipush 32, 2) := by decide +kernel
theorem dL_ahead_121 : decode cL_ahead 121 = .ok (.if_icmp .lt 6, 3) := by decide +kernel
theorem dL_ahead_124 : decode cL_ahead 124 = .ok (.goto 43, 3) := by decide +kernel
theorem dL_ahead_127 : decode cL_ahead 127 = .ok (.aload 11, 2) := by decide +kernel
theorem dL_ahead_129 : decode cL_ahead 129 = .ok (.iload 17, 2) := by decide +kernel
theorem dL_ahead_131 : decode cL_ahead 131 = .ok (.aload 4, 2) := by decide +kernel
theorem dL_ahead_133 : decode cL_ahead 133 = .ok (.iload 17, 2) := by decide +kernel
theorem dL_ahead_135 : decode cL_ahead 135 = .ok (.iaload, 1) := by decide +kernel
theorem dL_ahead_136 : decode cL_ahead 136 = .ok (.iastore, 1) := by decide +kernel
theorem dL_ahead_137 : decode cL_ahead 137 = .ok (.aload 12, 2) := by decide +kernel
theorem dL_ahead_139 : decode cL_ahead 139 = .ok (.iload 17, 2) := by decide +kernel
theorem dL_ahead_141 : decode cL_ahead 141 = .ok (.aload 5, 2) := by decide +kernel
theorem dL_ahead_143 : decode cL_ahead 143 = .ok (.iload 17, 2) := by decide +kernel
theorem dL_ahead_145 : decode cL_ahead 145 = .ok (.iaload, 1) := by decide +kernel
theorem dL_ahead_146 : decode cL_ahead 146 = .ok (.iastore, 1) := by decide +kernel
theorem dL_ahead_147 : decode cL_ahead 147 = .ok (.aload 13, 2) := by decide +kernel
theorem dL_ahead_149 : decode cL_ahead 149 = .ok (.iload 17, 2) := by decide +kernel
theorem dL_ahead_151 : decode cL_ahead 151 = .ok (.aload 6, 2) := by decide +kernel
theorem dL_ahead_153 : decode cL_ahead 153 = .ok (.iload 17, 2) := by decide +kernel
theorem dL_ahead_155 : decode cL_ahead 155 = .ok (.iaload, 1) := by decide +kernel
theorem dL_ahead_156 : decode cL_ahead 156 = .ok (.iastore, 1) := by decide +kernel
theorem dL_ahead_157 : decode cL_ahead 157 = .ok (.aload 14, 2) := by decide +kernel
theorem dL_ahead_159 : decode cL_ahead 159 = .ok (.iload 17, 2) := by decide +kernel
theorem dL_ahead_161 : decode cL_ahead 161 = .ok (.aload 7, 2) := by decide +kernel
theorem dL_ahead_163 : decode cL_ahead 163 = .ok (.iload 17, 2) := by decide +kernel
theorem dL_ahead_165 : decode cL_ahead 165 = .ok (.laload, 1) := by decide +kernel
theorem dL_ahead_166 : decode cL_ahead 166 = .ok (.lastore, 1) := by decide +kernel
theorem dL_ahead_167 : decode cL_ahead 167 = .ok (.iinc 17 1, 3) := by decide +kernel
theorem dL_ahead_170 : decode cL_ahead 170 = .ok (.goto (-101), 3) := by decide +kernel
theorem dL_ahead_173 : decode cL_ahead 173 = .ok (.iload 16, 2) := by decide +kernel
theorem dL_ahead_175 : decode cL_ahead 175 = .ok (.iconst 1, 1) := by decide +kernel
theorem dL_ahead_176 : decode cL_ahead 176 = .ok (.if_icmp .ne 16, 3) := by decide +kernel
theorem dL_ahead_179 : decode cL_ahead 179 = .ok (.iload_n 1, 1) := by decide +kernel
theorem dL_ahead_180 : decode cL_ahead 180 = .ok (.iconst 4, 1) := by decide +kernel
theorem dL_ahead_181 : decode cL_ahead 181 = .ok (.ishr, 1) := by decide +kernel
theorem dL_ahead_182 : decode cL_ahead 182 = .ok (.aload 8, 2) := by decide +kernel
theorem dL_ahead_184 : decode cL_ahead 184 = .ok (.iconst 0, 1) := by decide +kernel
theorem dL_ahead_185 : decode cL_ahead 185 = .ok (.iaload, 1) := by decide +kernel
theorem dL_ahead_186 : decode cL_ahead 186 = .ok (.invokestatic 61, 3) := by decide +kernel
theorem dL_ahead_189 : decode cL_ahead 189 = .ok (.goto 4, 3) := by decide +kernel
theorem dL_ahead_192 : decode cL_ahead 192 = .ok (.iconst 0, 1) := by decide +kernel
theorem dL_ahead_193 : decode cL_ahead 193 = .ok (.istore 17, 2) := by decide +kernel
theorem dL_ahead_195 : decode cL_ahead 195 = .ok (.aload 8, 2) := by decide +kernel
theorem dL_ahead_197 : decode cL_ahead 197 = .ok (.iconst 0, 1) := by decide +kernel
theorem dL_ahead_198 : decode cL_ahead 198 = .ok (.iaload, 1) := by decide +kernel
theorem dL_ahead_199 : decode cL_ahead 199 = .ok (.ifCond .le 17, 3) := by decide +kernel
theorem dL_ahead_202 : decode cL_ahead 202 = .ok (.iload_n 1, 1) := by decide +kernel
theorem dL_ahead_203 : decode cL_ahead 203 = .ok (.iconst 3, 1) := by decide +kernel
theorem dL_ahead_204 : decode cL_ahead 204 = .ok (.invokestatic 61, 3) := by decide +kernel
theorem dL_ahead_207 : decode cL_ahead 207 = .ok (.ifCond .le 9, 3) := by decide +kernel
theorem dL_ahead_210 : decode cL_ahead 210 = .ok (.aload_n 2, 1) := by decide +kernel
theorem dL_ahead_211 : decode cL_ahead 211 = .ok (.iconst 1, 1) := by decide +kernel
theorem dL_ahead_212 : decode cL_ahead 212 = .ok (.iaload, 1) := by decide +kernel
theorem dL_ahead_213 : decode cL_ahead 213 = .ok (.goto 12, 3) := by decide +kernel
theorem dL_ahead_216 : decode cL_ahead 216 = .ok (.iconst 1, 1) := by decide +kernel
theorem dL_ahead_217 : decode cL_ahead 217 = .ok (.iload_n 1, 1) := by decide +kernel
theorem dL_ahead_218 : decode cL_ahead 218 = .ok (.sipush 255, 3) := by decide +kernel
theorem dL_ahead_221 : decode cL_ahead 221 = .ok (.invokestatic 61, 3) := by decide +kernel
theorem dL_ahead_224 : decode cL_ahead 224 = .ok (.iadd, 1) := by decide +kernel
theorem dL_ahead_225 : decode cL_ahead 225 = .ok (.istore 18, 2) := by decide +kernel
theorem dL_ahead_227 : decode cL_ahead 227 = .ok (.iload 16, 2) := by decide +kernel
theorem dL_ahead_229 : decode cL_ahead 229 = .ok (.ifCond .ne 20, 3) := by decide +kernel
theorem dL_ahead_232 : decode cL_ahead 232 = .ok (.aload 11, 2) := by decide +kernel
theorem dL_ahead_234 : decode cL_ahead 234 = .ok (.aload 15, 2) := by decide +kernel
theorem dL_ahead_236 : decode cL_ahead 236 = .ok (.iconst 1, 1) := by decide +kernel
theorem dL_ahead_237 : decode cL_ahead 237 = .ok (.dup2, 1) := by decide +kernel
theorem dL_ahead_238 : decode cL_ahead 238 = .ok (.iaload, 1) := by decide +kernel
theorem dL_ahead_239 : decode cL_ahead 239 = .ok (.dup_x2, 1) := by decide +kernel
theorem dL_ahead_240 : decode cL_ahead 240 = .ok (.iconst 1, 1) := by decide +kernel
theorem dL_ahead_241 : decode cL_ahead 241 = .ok (.iadd, 1) := by decide +kernel
theorem dL_ahead_242 : decode cL_ahead 242 = .ok (.iastore, 1) := by decide +kernel
theorem dL_ahead_243 : decode cL_ahead 243 = .ok (.iload 18, 2) := by decide +kernel
theorem dL_ahead_245 : decode cL_ahead 245 = .ok (.iastore, 1) := by decide +kernel
theorem dL_ahead_246 : decode cL_ahead 246 = .ok (.goto 14, 3) := by decide +kernel
theorem dL_ahead_249 : decode cL_ahead 249 = .ok (.iload 17, 2) := by decide +kernel
theorem dL_ahead_251 : decode cL_ahead 251 = .ok (.aload 9, 2) := by decide +kernel
theorem dL_ahead_253 : decode cL_ahead 253 = .ok (.aload 10, 2) := by decide +kernel
theorem dL_ahead_255 : decode cL_ahead 255 = .ok (.aload 15, 2) := by decide +kernel
theorem dL_ahead_257 : decode cL_ahead 257 = .ok (.invokestatic 64, 3) := by decide +kernel
theorem dL_ahead_260 : decode cL_ahead 260 = .ok (.aload 9, 2) := by decide +kernel
theorem dL_ahead_262 : decode cL_ahead 262 = .ok (.aload 10, 2) := by decide +kernel
theorem dL_ahead_264 : decode cL_ahead 264 = .ok (.aload 11, 2) := by decide +kernel
theorem dL_ahead_266 : decode cL_ahead 266 = .ok (.aload 12, 2) := by decide +kernel
theorem dL_ahead_268 : decode cL_ahead 268 = .ok (.aload 13, 2) := by decide +kernel
theorem dL_ahead_270 : decode cL_ahead 270 = .ok (.aload 14, 2) := by decide +kernel
theorem dL_ahead_272 : decode cL_ahead 272 = .ok (.aload 15, 2) := by decide +kernel
theorem dL_ahead_274 : decode cL_ahead 274 = .ok (.invokestatic 68, 3) := by decide +kernel
theorem dL_ahead_277 : decode cL_ahead 277 = .ok (.iconst 0, 1) := by decide +kernel
theorem dL_ahead_278 : decode cL_ahead 278 = .ok (.istore 19, 2) := by decide +kernel
theorem dL_ahead_280 : decode cL_ahead 280 = .ok (.iconst 0, 1) := by decide +kernel
theorem dL_ahead_281 : decode cL_ahead 281 = .ok (.istore 20, 2) := by decide +kernel
theorem dL_ahead_283 : decode cL_ahead 283 = .ok (.iload 20, 2) := by decide +kernel
theorem dL_ahead_285 : decode cL_ahead 285 = .ok (.aload 15, 2) := by decide +kernel
theorem dL_ahead_287 : decode cL_ahead 287 = .ok (.iconst 2, 1) := by decide +kernel
theorem dL_ahead_288 : decode cL_ahead 288 = .ok (.iaload, 1) := by decide +kernel
theorem dL_ahead_289 : decode cL_ahead 289 = .ok (.if_icmp .ge 22, 3) := by decide +kernel
theorem dL_ahead_292 : decode cL_ahead 292 = .ok (.iload 19, 2) := by decide +kernel
theorem dL_ahead_294 : decode cL_ahead 294 = .ok (.aload 14, 2) := by decide +kernel
theorem dL_ahead_296 : decode cL_ahead 296 = .ok (.iload 20, 2) := by decide +kernel
theorem dL_ahead_298 : decode cL_ahead 298 = .ok (.laload, 1) := by decide +kernel
theorem dL_ahead_299 : decode cL_ahead 299 = .ok (.invokestatic 26, 3) := by decide +kernel
theorem dL_ahead_302 : decode cL_ahead 302 = .ok (.iadd, 1) := by decide +kernel
theorem dL_ahead_303 : decode cL_ahead 303 = .ok (.istore 19, 2) := by decide +kernel
theorem dL_ahead_305 : decode cL_ahead 305 = .ok (.iinc 20 1, 3) := by decide +kernel
theorem dL_ahead_308 : decode cL_ahead 308 = .ok (.goto (-25), 3) := by decide +kernel
theorem dL_ahead_311 : decode cL_ahead 311 = .ok (.iload 16, 2) := by decide +kernel
theorem dL_ahead_313 : decode cL_ahead 313 = .ok (.ifCond .ne 64, 3) := by decide +kernel
theorem dL_ahead_316 : decode cL_ahead 316 = .ok (.aload_n 0, 1) := by decide +kernel
theorem dL_ahead_317 : decode cL_ahead 317 = .ok (.iload 18, 2) := by decide +kernel
theorem dL_ahead_319 : decode cL_ahead 319 = .ok (.iconst 0, 1) := by decide +kernel
theorem dL_ahead_320 : decode cL_ahead 320 = .ok (.invokevirtual 72, 3) := by decide +kernel
theorem dL_ahead_323 : decode cL_ahead 323 = .ok (.aload 15, 2) := by decide +kernel
theorem dL_ahead_325 : decode cL_ahead 325 = .ok (.iconst 2, 1) := by decide +kernel
theorem dL_ahead_326 : decode cL_ahead 326 = .ok (.iaload, 1) := by decide +kernel
theorem dL_ahead_327 : decode cL_ahead 327 = .ok (.if_icmp .ne 48, 3) := by decide +kernel
theorem dL_ahead_330 : decode cL_ahead 330 = .ok (.aload_n 0, 1) := by decide +kernel
theorem dL_ahead_331 : decode cL_ahead 331 = .ok (.iload 18, 2) := by decide +kernel
theorem dL_ahead_333 : decode cL_ahead 333 = .ok (.iconst 1, 1) := by decide +kernel
theorem dL_ahead_334 : decode cL_ahead 334 = .ok (.invokevirtual 72, 3) := by decide +kernel
theorem dL_ahead_337 : decode cL_ahead 337 = .ok (.aload 15, 2) := by decide +kernel
theorem dL_ahead_339 : decode cL_ahead 339 = .ok (.iconst 3, 1) := by decide +kernel
theorem dL_ahead_340 : decode cL_ahead 340 = .ok (.iaload, 1) := by decide +kernel
theorem dL_ahead_341 : decode cL_ahead 341 = .ok (.if_icmp .ne 34, 3) := by decide +kernel
theorem dL_ahead_344 : decode cL_ahead 344 = .ok (.aload_n 0, 1) := by decide +kernel
theorem dL_ahead_345 : decode cL_ahead 345 = .ok (.iload 18, 2) := by decide +kernel
theorem dL_ahead_347 : decode cL_ahead 347 = .ok (.iconst 2, 1) := by decide +kernel
theorem dL_ahead_348 : decode cL_ahead 348 = .ok (.invokevirtual 72, 3) := by decide +kernel
theorem dL_ahead_351 : decode cL_ahead 351 = .ok (.iload 19, 2) := by decide +kernel
theorem dL_ahead_353 : decode cL_ahead 353 = .ok (.if_icmp .ne 22, 3) := by decide +kernel
theorem dL_ahead_356 : decode cL_ahead 356 = .ok (.aload_n 0, 1) := by decide +kernel
theorem dL_ahead_357 : decode cL_ahead 357 = .ok (.iload 18, 2) := by decide +kernel
theorem dL_ahead_359 : decode cL_ahead 359 = .ok (.iconst 3, 1) := by decide +kernel
theorem dL_ahead_360 : decode cL_ahead 360 = .ok (.invokevirtual 72, 3) := by decide +kernel
theorem dL_ahead_363 : decode cL_ahead 363 = .ok (.aload 12, 2) := by decide +kernel
theorem dL_ahead_365 : decode cL_ahead 365 = .ok (.aload 15, 2) := by decide +kernel
theorem dL_ahead_367 : decode cL_ahead 367 = .ok (.iconst 2, 1) := by decide +kernel
theorem dL_ahead_368 : decode cL_ahead 368 = .ok (.iaload, 1) := by decide +kernel
theorem dL_ahead_369 : decode cL_ahead 369 = .ok (.iconst 1, 1) := by decide +kernel
theorem dL_ahead_370 : decode cL_ahead 370 = .ok (.isub, 1) := by decide +kernel
theorem dL_ahead_371 : decode cL_ahead 371 = .ok (.iaload, 1) := by decide +kernel
theorem dL_ahead_372 : decode cL_ahead 372 = .ok (.if_icmp .eq 5, 3) := by decide +kernel
theorem dL_ahead_375 : decode cL_ahead 375 = .ok (.iconst 0, 1) := by decide +kernel
theorem dL_ahead_376 : decode cL_ahead 376 = .ok (.ireturn, 1) := by decide +kernel
theorem dL_ahead_377 : decode cL_ahead 377 = .ok (.iload 16, 2) := by decide +kernel
theorem dL_ahead_379 : decode cL_ahead 379 = .ok (.iconst 1, 1) := by decide +kernel
theorem dL_ahead_380 : decode cL_ahead 380 = .ok (.if_icmp .ne 23, 3) := by decide +kernel
theorem dL_ahead_383 : decode cL_ahead 383 = .ok (.aload_n 0, 1) := by decide +kernel
theorem dL_ahead_384 : decode cL_ahead 384 = .ok (.iload 17, 2) := by decide +kernel
theorem dL_ahead_386 : decode cL_ahead 386 = .ok (.invokevirtual 75, 3) := by decide +kernel
theorem dL_ahead_389 : decode cL_ahead 389 = .ok (.aload 15, 2) := by decide +kernel
theorem dL_ahead_391 : decode cL_ahead 391 = .ok (.iconst 2, 1) := by decide +kernel
theorem dL_ahead_392 : decode cL_ahead 392 = .ok (.iaload, 1) := by decide +kernel
theorem dL_ahead_393 : decode cL_ahead 393 = .ok (.aload 15, 2) := by decide +kernel
theorem dL_ahead_395 : decode cL_ahead 395 = .ok (.iconst 3, 1) := by decide +kernel
theorem dL_ahead_396 : decode cL_ahead 396 = .ok (.iaload, 1) := by decide +kernel
theorem dL_ahead_397 : decode cL_ahead 397 = .ok (.isub, 1) := by decide +kernel
theorem dL_ahead_398 : decode cL_ahead 398 = .ok (.if_icmp .eq 5, 3) := by decide +kernel
theorem dL_ahead_401 : decode cL_ahead 401 = .ok (.iconst 0, 1) := by decide +kernel
theorem dL_ahead_402 : decode cL_ahead 402 = .ok (.ireturn, 1) := by decide +kernel
theorem dL_ahead_403 : decode cL_ahead 403 = .ok (.iinc 16 1, 3) := by decide +kernel
theorem dL_ahead_406 : decode cL_ahead 406 = .ok (.goto (-362), 3) := by decide +kernel
theorem dL_ahead_409 : decode cL_ahead 409 = .ok (.iconst 1, 1) := by decide +kernel
theorem dL_ahead_410 : decode cL_ahead 410 = .ok (.ireturn, 1) := by decide +kernel
theorem dL_remove_0 : decode cL_remove 0 = .ok (.aload_n 3, 1) := by decide +kernel
theorem dL_remove_1 : decode cL_remove 1 = .ok (.iconst 0, 1) := by decide +kernel
theorem dL_remove_2 : decode cL_remove 2 = .ok (.dup2, 1) := by decide +kernel
theorem dL_remove_3 : decode cL_remove 3 = .ok (.iaload, 1) := by decide +kernel
theorem dL_remove_4 : decode cL_remove 4 = .ok (.iconst 1, 1) := by decide +kernel
theorem dL_remove_5 : decode cL_remove 5 = .ok (.isub, 1) := by decide +kernel
theorem dL_remove_6 : decode cL_remove 6 = .ok (.iastore, 1) := by decide +kernel
theorem dL_remove_7 : decode cL_remove 7 = .ok (.iload_n 0, 1) := by decide +kernel
theorem dL_remove_8 : decode cL_remove 8 = .ok (.istore 4, 2) := by decide +kernel
theorem dL_remove_10 : decode cL_remove 10 = .ok (.iload 4, 2) := by decide +kernel
theorem dL_remove_12 : decode cL_remove 12 = .ok (.aload_n 3, 1) := by decide +kernel
theorem dL_remove_13 : decode cL_remove 13 = .ok (.iconst 0, 1) := by decide +kernel
theorem dL_remove_14 : decode cL_remove 14 = .ok (.iaload, 1) := by decide +kernel
theorem dL_remove_15 : decode cL_remove 15 = .ok (.if_icmp .ge 54, 3) := by decide +kernel
theorem dL_remove_18 : decode cL_remove 18 = .ok (.aload_n 2, 1) := by decide +kernel
theorem dL_remove_19 : decode cL_remove 19 = .ok (.iload 4, 2) := by decide +kernel
theorem dL_remove_21 : decode cL_remove 21 = .ok (.aload_n 2, 1) := by decide +kernel
theorem dL_remove_22 : decode cL_remove 22 = .ok (.iload 4, 2) := by decide +kernel
theorem dL_remove_24 : decode cL_remove 24 = .ok (.iconst 1, 1) := by decide +kernel
theorem dL_remove_25 : decode cL_remove 25 = .ok (.iadd, 1) := by decide +kernel
theorem dL_remove_26 : decode cL_remove 26 = .ok (.laload, 1) := by decide +kernel
theorem dL_remove_27 : decode cL_remove 27 = .ok (.lastore, 1) := by decide +kernel
theorem dL_remove_28 : decode cL_remove 28 = .ok (.iconst 0, 1) := by decide +kernel
theorem dL_remove_29 : decode cL_remove 29 = .ok (.istore 5, 2) := by decide +kernel
theorem dL_remove_31 : decode cL_remove 31 = .ok (.iload 5, 2) := by decide +kernel
theorem dL_remove_33 : decode cL_remove 33 = .ok (.iconst 5, 1) := by decide +kernel
theorem dL_remove_34 : decode cL_remove 34 = .ok (.if_icmp .ge 29, 3) := by decide +kernel
theorem dL_remove_37 : decode cL_remove 37 = .ok (.aload_n 1, 1) := by decide +kernel
theorem dL_remove_38 : decode cL_remove 38 = .ok (.iconst 5, 1) := by decide +kernel
theorem dL_remove_39 : decode cL_remove 39 = .ok (.iload 4, 2) := by decide +kernel
theorem dL_remove_41 : decode cL_remove 41 = .ok (.imul, 1) := by decide +kernel
theorem dL_remove_42 : decode cL_remove 42 = .ok (.iload 5, 2) := by decide +kernel
theorem dL_remove_44 : decode cL_remove 44 = .ok (.iadd, 1) := by decide +kernel
theorem dL_remove_45 : decode cL_remove 45 = .ok (.aload_n 1, 1) := by decide +kernel
theorem dL_remove_46 : decode cL_remove 46 = .ok (.iconst 5, 1) := by decide +kernel
theorem dL_remove_47 : decode cL_remove 47 = .ok (.iload 4, 2) := by decide +kernel
theorem dL_remove_49 : decode cL_remove 49 = .ok (.imul, 1) := by decide +kernel
theorem dL_remove_50 : decode cL_remove 50 = .ok (.iconst 5, 1) := by decide +kernel
theorem dL_remove_51 : decode cL_remove 51 = .ok (.iadd, 1) := by decide +kernel
theorem dL_remove_52 : decode cL_remove 52 = .ok (.iload 5, 2) := by decide +kernel
theorem dL_remove_54 : decode cL_remove 54 = .ok (.iadd, 1) := by decide +kernel
theorem dL_remove_55 : decode cL_remove 55 = .ok (.iaload, 1) := by decide +kernel
theorem dL_remove_56 : decode cL_remove 56 = .ok (.iastore, 1) := by decide +kernel
theorem dL_remove_57 : decode cL_remove 57 = .ok (.iinc 5 1, 3) := by decide +kernel
theorem dL_remove_60 : decode cL_remove 60 = .ok (.goto (-29), 3) := by decide +kernel
theorem dL_remove_63 : decode cL_remove 63 = .ok (.iinc 4 1, 3) := by decide +kernel
theorem dL_remove_66 : decode cL_remove 66 = .ok (.goto (-56), 3) := by decide +kernel
theorem dL_remove_69 : decode cL_remove 69 = .ok (.return_, 1) := by decide +kernel
set_option maxRecDepth 20000 in
theorem ggL_load_L_at : GoodIn wsL_load wsL_at := goodIn_r _ [4] (by decide +kernel) (by decide +kernel)
set_option maxRecDepth 20000 in
theorem gL_load_L_at : GoodIn wsL_load (va_wsS RL 61 yL_at wsL_at) := goodIn_app (goodIn_of _ (by decide +kernel)) ggL_load_L_at
set_option maxRecDepth 20000 in
theorem ggL_load_X11_clearBuffer : GoodIn wsL_load wsX11_clearBuffer := goodIn_r _ [9, 10, 11, 239, 240, 241, 242, 243, 244, 245, 246] (by decide +kernel) (by decide +kernel)
set_option maxRecDepth 20000 in
theorem gL_load_X11_clearBuffer : GoodIn wsL_load (wsV RL 78 RX11 yX11_clearBuffer wsX11_clearBuffer) := goodIn_app (goodIn_of _ (by decide +kernel)) ggL_load_X11_clearBuffer
set_option maxRecDepth 20000 in
theorem ggL_load_X11_append : GoodIn wsL_load wsX11_append := goodIn_ca (goodIn_ca (goodIn_r _ [15, 16, 17, 18, 19, 10, 11, 20, 21, 22, 23, 24, 25, 26, 27, 28, 29, 30, 239, 240, 241, 242, 243, 244, 245, 246] (by decide +kernel) (by decide +kernel)) (goodIn_sub (fun _ h => List.mem_cons_of_mem _ (List.mem_append_left _ (List.mem_append_right _ h))) (by decide +kernel))) (goodIn_sub (fun _ h => List.mem_cons_of_mem _ (List.mem_append_right _ h)) (by decide +kernel))
set_option maxRecDepth 20000 in
theorem gL_load_X11_append : GoodIn wsL_load (wsV RL 82 RX11 yX11_append wsX11_append) := goodIn_app (goodIn_of _ (by decide +kernel)) ggL_load_X11_append
set_option maxRecDepth 20000 in
theorem ggL_load_L_letter : GoodIn wsL_load wsL_letter := goodIn_r _ [33] (by decide +kernel) (by decide +kernel)
set_option maxRecDepth 20000 in
theorem gL_load_L_letter : GoodIn wsL_load (va_wsS RL 8 yL_letter wsL_letter) := goodIn_app (goodIn_of _ (by decide +kernel)) ggL_load_L_letter
set_option maxRecDepth 20000 in
theorem ggL_load_L_has : GoodIn wsL_load wsL_has := goodIn_r _ [36] (by decide +kernel) (by decide +kernel)
set_option maxRecDepth 20000 in
theorem gL_load_L_has : GoodIn wsL_load (va_wsS RL 22 yL_has wsL_has) := goodIn_app (goodIn_of _ (by decide +kernel)) ggL_load_L_has
set_option maxRecDepth 20000 in
theorem ggL_load_X11_load : GoodIn wsL_load wsX11_load := goodIn_ca (goodIn_ca (goodIn_r _ [40, 16, 17, 18, 19, 41, 10, 42, 43, 44, 45, 11, 46, 47, 48, 49, 50, 51, 52, 53, 54, 55, 56, 57, 58, 59, 60, 61, 62, 63, 64, 65, 66, 67, 68, 69, 29, 70, 71, 72, 73, 74, 75, 76, 77, 78, 79, 80, 81, 82, 83, 84, 85, 86, 87, 88, 89, 90, 91, 92, 93, 94, 95, 96, 97, 98, 99, 100, 101, 102, 103, 104, 105, 106, 107, 108, 109, 110, 111, 112, 113, 114, 115, 116, 117, 118, 119, 120, 121, 122, 123, 124, 125, 126, 127, 128, 129, 130, 131, 132, 133, 134, 135, 136, 137, 138, 139, 140, 141, 142, 143, 144, 145, 146, 147, 148, 149, 150, 151, 152, 153, 154, 155, 156, 157, 158, 159, 160, 161, 162, 163, 164, 165, 166, 167, 168, 169, 170, 171, 172, 173, 174, 175, 176, 177, 178, 179, 180, 181, 182, 183, 184, 185, 186, 187, 188, 189, 190, 191, 192, 193, 194, 195, 196, 197, 198, 199, 200, 201, 202, 203, 204, 205, 206, 207, 208, 209, 210, 28, 30, 211, 212, 213, 214, 215, 216, 217, 218, 219, 220, 221, 222, 223, 224, 225, 226, 227, 228, 229, 230, 231, 232, 233, 234, 235, 236, 237, 238, 239, 240, 241, 242, 243, 244, 247, 248, 245, 246, 249, 250, 251, 252, 253, 254, 255, 256, 257, 258, 259, 260, 261, 262, 263, 264, 265, 266, 267, 268] (by decide +kernel) (by decide +kernel)) (goodIn_sub (fun _ h => List.mem_cons_of_mem _ (List.mem_append_left _ (List.mem_append_right _ h))) (by decide +kernel))) (goodIn_sub (fun _ h => List.mem_cons_of_mem _ (List.mem_append_right _ h)) (by decide +kernel))
set_option maxRecDepth 20000 in
theorem gL_load_X11_load : GoodIn wsL_load (wsV RL 85 RX11 yX11_load wsX11_load) := goodIn_app (goodIn_of _ (by decide +kernel)) ggL_load_X11_load
theorem dL_load_0 : decode cL_load 0 = .ok (.iconst 5, 1) := by decide +kernel
theorem dL_load_1 : decode cL_load 1 = .ok (.aload 5, 2) := by decide +kernel
theorem dL_load_3 : decode cL_load 3 = .ok (.iconst 0, 1) := by decide +kernel
