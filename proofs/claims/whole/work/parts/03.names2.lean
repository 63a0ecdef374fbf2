theorem dX10_isReadAs_51 : decode cX10_isReadAs 51 = .ok (.aload_n 2, 1) := by decide +kernel
theorem dX10_isReadAs_52 : decode cX10_isReadAs 52 = .ok (.iload 6, 2) := by decide +kernel
theorem dX10_isReadAs_54 : decode cX10_isReadAs 54 = .ok (.invokevirtual 46, 3) := by decide +kernel
theorem dX10_isReadAs_57 : decode cX10_isReadAs 57 = .ok (.invokevirtual 50, 3) := by decide +kernel
theorem dX10_isReadAs_60 : decode cX10_isReadAs 60 = .ok (.ifCond .ne 5, 3) := by decide +kernel
theorem dX10_isReadAs_63 : decode cX10_isReadAs 63 = .ok (.iconst 0, 1) := by decide +kernel
theorem dX10_isReadAs_64 : decode cX10_isReadAs 64 = .ok (.ireturn, 1) := by decide +kernel
theorem dX10_isReadAs_65 : decode cX10_isReadAs 65 = .ok (.iload_n 3, 1) := by decide +kernel
theorem dX10_isReadAs_66 : decode cX10_isReadAs 66 = .ok (.aload_n 2, 1) := by decide +kernel
theorem dX10_isReadAs_67 : decode cX10_isReadAs 67 = .ok (.iload 6, 2) := by decide +kernel
theorem dX10_isReadAs_69 : decode cX10_isReadAs 69 = .ok (.invokevirtual 46, 3) := by decide +kernel
theorem dX10_isReadAs_72 : decode cX10_isReadAs 72 = .ok (.invokestatic 54, 3) := by decide +kernel
theorem dX10_isReadAs_75 : decode cX10_isReadAs 75 = .ok (.iadd, 1) := by decide +kernel
theorem dX10_isReadAs_76 : decode cX10_isReadAs 76 = .ok (.istore_n 3, 1) := by decide +kernel
theorem dX10_isReadAs_77 : decode cX10_isReadAs 77 = .ok (.iload 4, 2) := by decide +kernel
theorem dX10_isReadAs_79 : decode cX10_isReadAs 79 = .ok (.aload_n 2, 1) := by decide +kernel
theorem dX10_isReadAs_80 : decode cX10_isReadAs 80 = .ok (.iload 6, 2) := by decide +kernel
theorem dX10_isReadAs_82 : decode cX10_isReadAs 82 = .ok (.invokevirtual 59, 3) := by decide +kernel
theorem dX10_isReadAs_85 : decode cX10_isReadAs 85 = .ok (.invokestatic 62, 3) := by decide +kernel
theorem dX10_isReadAs_88 : decode cX10_isReadAs 88 = .ok (.iadd, 1) := by decide +kernel
theorem dX10_isReadAs_89 : decode cX10_isReadAs 89 = .ok (.istore 4, 2) := by decide +kernel
theorem dX10_isReadAs_91 : decode cX10_isReadAs 91 = .ok (.iinc 5 1, 3) := by decide +kernel
theorem dX10_isReadAs_94 : decode cX10_isReadAs 94 = .ok (.goto (-86), 3) := by decide +kernel
theorem dX10_isReadAs_97 : decode cX10_isReadAs 97 = .ok (.iload_n 3, 1) := by decide +kernel
theorem dX10_isReadAs_98 : decode cX10_isReadAs 98 = .ok (.aload_n 1, 1) := by decide +kernel
theorem dX10_isReadAs_99 : decode cX10_isReadAs 99 = .ok (.getfield 22, 3) := by decide +kernel
theorem dX10_isReadAs_102 : decode cX10_isReadAs 102 = .ok (.if_icmp .ne 7, 3) := by decide +kernel
theorem dX10_isReadAs_105 : decode cX10_isReadAs 105 = .ok (.iconst 1, 1) := by decide +kernel
theorem dX10_isReadAs_106 : decode cX10_isReadAs 106 = .ok (.goto 4, 3) := by decide +kernel
theorem dX10_isReadAs_109 : decode cX10_isReadAs 109 = .ok (.iconst 0, 1) := by decide +kernel
theorem dX10_isReadAs_110 : decode cX10_isReadAs 110 = .ok (.ireturn, 1) := by decide +kernel
set_option maxRecDepth 20000 in
theorem ggX11_init_X8_init : GoodIn wsX11_init wsX8_init := goodIn_r _ [26, 27, 2, 3, 28, 29, 30, 31, 32, 33, 34, 35, 36, 37, 38, 39, 40, 41, 42, 43, 44, 45, 46, 47, 48, 49, 50, 51, 52, 53, 54, 55, 104, 105, 106, 83, 84, 107, 108, 109, 110, 111, 112, 113, 114, 115] (by decide +kernel) (by decide +kernel)
set_option maxRecDepth 20000 in
theorem gX11_init_X8_init_n9 : GoodIn wsX11_init (wsX8_init) := ggX11_init_X8_init
set_option maxRecDepth 20000 in
theorem ggX11_init_X2_init : GoodIn wsX11_init wsX2_init := goodIn_r _ [58, 59, 2, 3, 60, 61, 62, 5, 6, 25, 26, 27, 28, 29, 30, 31, 32, 33, 34, 35, 36, 37, 38, 39, 40, 41, 42, 43, 44, 45, 46, 47, 48, 49, 50, 51, 52, 53, 54, 55, 91, 92, 83, 84, 104, 105, 106, 107, 108, 109, 110, 111, 112, 113, 114, 115] (by decide +kernel) (by decide +kernel)
set_option maxRecDepth 20000 in
theorem gX11_init_X2_init : GoodIn wsX11_init (wsX2_init) := ggX11_init_X2_init
set_option maxRecDepth 20000 in
theorem ggX11_init_X0_init : GoodIn wsX11_init wsX0_init := goodIn_r _ [64, 65, 2, 3, 46, 66, 67, 93, 94] (by decide +kernel) (by decide +kernel)
set_option maxRecDepth 20000 in
theorem gX11_init_X0_init_n28 : GoodIn wsX11_init (wsX0_init) := ggX11_init_X0_init
set_option maxRecDepth 20000 in
theorem ggX11_init_X4_init : GoodIn wsX11_init wsX4_init := goodIn_r _ [69, 70, 2, 3, 71, 72, 73, 74, 75, 76, 95, 96, 97, 98, 99, 100] (by decide +kernel) (by decide +kernel)
set_option maxRecDepth 20000 in
theorem gX11_init_X4_init_n35 : GoodIn wsX11_init (wsX4_init) := ggX11_init_X4_init
set_option maxRecDepth 20000 in
theorem ggX11_init_X10_init : GoodIn wsX11_init wsX10_init := goodIn_r _ [78, 79, 2, 3, 46, 80, 81, 82, 101, 102, 103] (by decide +kernel) (by decide +kernel)
set_option maxRecDepth 20000 in
theorem gX11_init_X10_init_n42 : GoodIn wsX11_init (wsX10_init) := ggX11_init_X10_init
theorem dX11_init_0 : decode cX11_init 0 = .ok (.aload_n 0, 1) := by decide +kernel
theorem dX11_init_1 : decode cX11_init 1 = .ok (.invokespecial 1, 3) := by decide +kernel
theorem dX11_init_4 : decode cX11_init 4 = .ok (.aload_n 0, 1) := by decide +kernel
theorem dX11_init_5 : decode cX11_init 5 = .ok (.new 7, 3) := by decide +kernel
theorem dX11_init_8 : decode cX11_init 8 = .ok (.dup, 1) := by decide +kernel
theorem dX11_init_9 : decode cX11_init 9 = .ok (.invokespecial 9, 3) := by decide +kernel
theorem dX11_init_12 : decode cX11_init 12 = .ok (.putfield 10, 3) := by decide +kernel
theorem dX11_init_15 : decode cX11_init 15 = .ok (.aload_n 0, 1) := by decide +kernel
theorem dX11_init_16 : decode cX11_init 16 = .ok (.new 7, 3) := by decide +kernel
theorem dX11_init_19 : decode cX11_init 19 = .ok (.dup, 1) := by decide +kernel
theorem dX11_init_20 : decode cX11_init 20 = .ok (.invokespecial 9, 3) := by decide +kernel
theorem dX11_init_23 : decode cX11_init 23 = .ok (.putfield 16, 3) := by decide +kernel
theorem dX11_init_26 : decode cX11_init 26 = .ok (.aload_n 0, 1) := by decide +kernel
theorem dX11_init_27 : decode cX11_init 27 = .ok (.new 19, 3) := by decide +kernel
theorem dX11_init_30 : decode cX11_init 30 = .ok (.dup, 1) := by decide +kernel
theorem dX11_init_31 : decode cX11_init 31 = .ok (.invokespecial 21, 3) := by decide +kernel
theorem dX11_init_34 : decode cX11_init 34 = .ok (.putfield 22, 3) := by decide +kernel
theorem dX11_init_37 : decode cX11_init 37 = .ok (.aload_n 0, 1) := by decide +kernel
theorem dX11_init_38 : decode cX11_init 38 = .ok (.new 26, 3) := by decide +kernel
theorem dX11_init_41 : decode cX11_init 41 = .ok (.dup, 1) := by decide +kernel
theorem dX11_init_42 : decode cX11_init 42 = .ok (.invokespecial 28, 3) := by decide +kernel
theorem dX11_init_45 : decode cX11_init 45 = .ok (.putfield 29, 3) := by decide +kernel
theorem dX11_init_48 : decode cX11_init 48 = .ok (.aload_n 0, 1) := by decide +kernel
theorem dX11_init_49 : decode cX11_init 49 = .ok (.new 33, 3) := by decide +kernel
theorem dX11_init_52 : decode cX11_init 52 = .ok (.dup, 1) := by decide +kernel
theorem dX11_init_53 : decode cX11_init 53 = .ok (.invokespecial 35, 3) := by decide +kernel
theorem dX11_init_56 : decode cX11_init 56 = .ok (.putfield 36, 3) := by decide +kernel
theorem dX11_init_59 : decode cX11_init 59 = .ok (.aload_n 0, 1) := by decide +kernel
theorem dX11_init_60 : decode cX11_init 60 = .ok (.new 40, 3) := by decide +kernel
theorem dX11_init_63 : decode cX11_init 63 = .ok (.dup, 1) := by decide +kernel
theorem dX11_init_64 : decode cX11_init 64 = .ok (.invokespecial 42, 3) := by decide +kernel
theorem dX11_init_67 : decode cX11_init 67 = .ok (.putfield 43, 3) := by decide +kernel
theorem dX11_init_70 : decode cX11_init 70 = .ok (.return_, 1) := by decide +kernel
set_option maxRecDepth 20000 in
theorem ggX11_stroke_X11_isStroke : GoodIn wsX11_stroke wsX11_isStroke := goodIn_r _ [13] (by decide +kernel) (by decide +kernel)
set_option maxRecDepth 20000 in
theorem gX11_stroke_X11_isStroke : GoodIn wsX11_stroke (va_wsS RX11 47 yX11_isStroke wsX11_isStroke) := goodIn_app (goodIn_of _ (by decide +kernel)) ggX11_stroke_X11_isStroke
set_option maxRecDepth 20000 in
theorem ggX11_stroke_X2_push : GoodIn wsX11_stroke wsX2_push := goodIn_r _ [18, 19, 20, 21, 22, 23, 17, 24, 25, 26, 27, 28, 29, 30, 31, 32, 33, 34, 35, 36, 37, 38, 39, 40, 41, 42, 43, 44, 45, 46, 47, 48, 49, 50, 51, 52, 53, 54, 55, 56, 57, 58, 59, 60, 61, 62, 63, 64, 65, 66, 67, 68, 69, 70, 71, 72, 73, 165, 166, 154, 155, 167, 168, 169, 156, 157, 158, 159, 160, 161, 162, 163, 164] (by decide +kernel) (by decide +kernel)
set_option maxRecDepth 20000 in
theorem gX11_stroke_X2_push : GoodIn wsX11_stroke (wsV RX11 73 RX2 yX2_push wsX2_push) := goodIn_app (goodIn_of _ (by decide +kernel)) ggX11_stroke_X2_push
set_option maxRecDepth 20000 in
theorem ggX11_stroke_X8_press : GoodIn wsX11_stroke wsX8_press := goodIn_r _ [77, 35, 78, 79, 80, 59, 81, 61, 65, 82, 83, 46, 84, 85, 86, 87, 32, 88, 34, 89, 90, 91, 92, 67, 66, 68, 62, 63, 64, 69, 93, 94, 95, 39, 96, 97, 49, 50, 51, 98, 99, 100, 101, 102, 103, 104, 105, 106, 107, 108, 109, 110, 111, 112, 113, 114, 43, 41, 115, 116, 117, 118, 119, 120, 121, 42, 122, 123, 124, 125, 126, 127, 128, 129, 130, 131, 132, 133, 134, 135, 136, 137, 138, 139, 140, 141, 142, 143, 144, 145, 146, 147, 154, 155, 156, 157, 158, 159, 160, 161, 162, 163, 164, 167, 168, 169] (by decide +kernel) (by decide +kernel)
set_option maxRecDepth 20000 in
theorem gX11_stroke_X8_press : GoodIn wsX11_stroke (wsV RX11 77 RX8 yX8_press wsX8_press) := goodIn_app (goodIn_of _ (by decide +kernel)) ggX11_stroke_X8_press
theorem dX11_stroke_0 : decode cX11_stroke 0 = .ok (.iload_n 1, 1) := by decide +kernel
theorem dX11_stroke_1 : decode cX11_stroke 1 = .ok (.invokestatic 47, 3) := by decide +kernel
theorem dX11_stroke_4 : decode cX11_stroke 4 = .ok (.ifCond .ne 13, 3) := by decide +kernel
theorem dX11_stroke_7 : decode cX11_stroke 7 = .ok (.new 51, 3) := by decide +kernel
theorem dX11_stroke_10 : decode cX11_stroke 10 = .ok (.dup, 1) := by decide +kernel
theorem dX11_stroke_11 : decode cX11_stroke 11 = .ok (.ldc 53, 2) := by decide +kernel
theorem dX11_stroke_13 : decode cX11_stroke 13 = .ok (.invokespecial 55, 3) := by decide +kernel
theorem dX11_stroke_16 : decode cX11_stroke 16 = .ok (.athrow, 1) := by decide +kernel
theorem dX11_stroke_17 : decode cX11_stroke 17 = .ok (.aload_n 0, 1) := by decide +kernel
theorem dX11_stroke_18 : decode cX11_stroke 18 = .ok (.getfield 10, 3) := by decide +kernel
theorem dX11_stroke_21 : decode cX11_stroke 21 = .ok (.getfield 58, 3) := by decide +kernel
theorem dX11_stroke_24 : decode cX11_stroke 24 = .ok (.getfield 62, 3) := by decide +kernel
theorem dX11_stroke_27 : decode cX11_stroke 27 = .ok (.bipush 60, 2) := by decide +kernel
theorem dX11_stroke_29 : decode cX11_stroke 29 = .ok (.if_icmp .lt 13, 3) := by decide +kernel
theorem dX11_stroke_32 : decode cX11_stroke 32 = .ok (.new 68, 3) := by decide +kernel
theorem dX11_stroke_35 : decode cX11_stroke 35 = .ok (.dup, 1) := by decide +kernel
theorem dX11_stroke_36 : decode cX11_stroke 36 = .ok (.ldc 70, 2) := by decide +kernel
theorem dX11_stroke_38 : decode cX11_stroke 38 = .ok (.invokespecial 72, 3) := by decide +kernel
theorem dX11_stroke_41 : decode cX11_stroke 41 = .ok (.athrow, 1) := by decide +kernel
theorem dX11_stroke_42 : decode cX11_stroke 42 = .ok (.aload_n 0, 1) := by decide +kernel
theorem dX11_stroke_43 : decode cX11_stroke 43 = .ok (.getfield 22, 3) := by decide +kernel
theorem dX11_stroke_46 : decode cX11_stroke 46 = .ok (.aload_n 0, 1) := by decide +kernel
theorem dX11_stroke_47 : decode cX11_stroke 47 = .ok (.getfield 10, 3) := by decide +kernel
theorem dX11_stroke_50 : decode cX11_stroke 50 = .ok (.invokevirtual 73, 3) := by decide +kernel
theorem dX11_stroke_53 : decode cX11_stroke 53 = .ok (.aload_n 0, 1) := by decide +kernel
theorem dX11_stroke_54 : decode cX11_stroke 54 = .ok (.getfield 10, 3) := by decide +kernel
theorem dX11_stroke_57 : decode cX11_stroke 57 = .ok (.iload_n 1, 1) := by decide +kernel
theorem dX11_stroke_58 : decode cX11_stroke 58 = .ok (.invokevirtual 77, 3) := by decide +kernel
theorem dX11_stroke_61 : decode cX11_stroke 61 = .ok (.aload_n 0, 1) := by decide +kernel
theorem dX11_stroke_62 : decode cX11_stroke 62 = .ok (.getfield 10, 3) := by decide +kernel
theorem dX11_stroke_65 : decode cX11_stroke 65 = .ok (.getfield 58, 3) := by decide +kernel
theorem dX11_stroke_68 : decode cX11_stroke 68 = .ok (.getfield 81, 3) := by decide +kernel
theorem dX11_stroke_71 : decode cX11_stroke 71 = .ok (.ireturn, 1) := by decide +kernel
set_option maxRecDepth 20000 in
theorem ggX11_takeBack_X2_push : GoodIn wsX11_takeBack wsX2_push := goodIn_r _ [12, 13, 14, 15, 16, 17, 11, 18, 19, 20, 21, 22, 23, 24, 25, 26, 27, 28, 29, 30, 31, 32, 33, 34, 35, 36, 37, 38, 39, 40, 41, 42, 43, 44, 45, 46, 47, 48, 49, 50, 51, 52, 53, 54, 55, 56, 57, 58, 59, 60, 61, 62, 63, 64, 65, 66, 67, 156, 157, 145, 146, 158, 159, 160, 147, 148, 149, 150, 151, 152, 153, 154, 155] (by decide +kernel) (by decide +kernel)
set_option maxRecDepth 20000 in
theorem gX11_takeBack_X2_push : GoodIn wsX11_takeBack (wsV RX11 73 RX2 yX2_push wsX2_push) := goodIn_app (goodIn_of _ (by decide +kernel)) ggX11_takeBack_X2_push
set_option maxRecDepth 20000 in
theorem ggX11_takeBack_X6_at : GoodIn wsX11_takeBack wsX6_at := goodIn_r _ [70] (by decide +kernel) (by decide +kernel)
set_option maxRecDepth 20000 in
theorem gX11_takeBack_X6_at : GoodIn wsX11_takeBack (va_wsS RX11 90 yX6_at wsX6_at) := goodIn_app (goodIn_of _ (by decide +kernel)) ggX11_takeBack_X6_at
set_option maxRecDepth 20000 in
theorem ggX11_takeBack_X7_dropLast : GoodIn wsX11_takeBack wsX7_dropLast := goodIn_r _ [74, 61, 56, 62, 59, 75, 76, 77, 53, 78, 79, 69, 40, 70, 147, 148, 149, 150, 151, 152, 153, 154, 155] (by decide +kernel) (by decide +kernel)
set_option maxRecDepth 20000 in
theorem gX11_takeBack_X7_dropLast : GoodIn wsX11_takeBack (wsV RX11 96 RX7 yX7_dropLast wsX7_dropLast) := goodIn_app (goodIn_of _ (by decide +kernel)) ggX11_takeBack_X7_dropLast
set_option maxRecDepth 20000 in
theorem ggX11_takeBack_X8_translate : GoodIn wsX11_takeBack wsX8_translate := goodIn_r _ [83, 29, 28, 84, 85, 86, 53, 87, 61, 60, 62, 59, 55, 56, 57, 58, 63, 88, 89, 90, 33, 91, 92, 43, 44, 45, 93, 94, 95, 96, 97, 69, 40, 70, 98, 99, 100, 101, 102, 103, 104, 105, 106, 107, 37, 35, 108, 109, 110, 111, 112, 113, 114, 115, 116, 117, 36, 118, 119, 120, 121, 122, 123, 124, 125, 126, 127, 128, 129, 130, 131, 132, 133, 134, 75, 76, 77, 78, 135, 136, 137, 138, 79, 145, 146, 147, 148, 149, 150, 151, 152, 153, 154, 155, 158, 159, 160] (by decide +kernel) (by decide +kernel)
set_option maxRecDepth 20000 in
theorem gX11_takeBack_X8_translate : GoodIn wsX11_takeBack (wsV RX11 99 RX8 yX8_translate wsX8_translate) := goodIn_app (goodIn_of _ (by decide +kernel)) ggX11_takeBack_X8_translate
theorem dX11_takeBack_0 : decode cX11_takeBack 0 = .ok (.aload_n 0, 1) := by decide +kernel
theorem dX11_takeBack_1 : decode cX11_takeBack 1 = .ok (.getfield 10, 3) := by decide +kernel
theorem dX11_takeBack_4 : decode cX11_takeBack 4 = .ok (.getfield 58, 3) := by decide +kernel
theorem dX11_takeBack_7 : decode cX11_takeBack 7 = .ok (.getfield 62, 3) := by decide +kernel
theorem dX11_takeBack_10 : decode cX11_takeBack 10 = .ok (.ifCond .ne 13, 3) := by decide +kernel
theorem dX11_takeBack_13 : decode cX11_takeBack 13 = .ok (.new 68, 3) := by decide +kernel
theorem dX11_takeBack_16 : decode cX11_takeBack 16 = .ok (.dup, 1) := by decide +kernel
theorem dX11_takeBack_17 : decode cX11_takeBack 17 = .ok (.ldc 84, 2) := by decide +kernel
theorem dX11_takeBack_19 : decode cX11_takeBack 19 = .ok (.invokespecial 72, 3) := by decide +kernel
theorem dX11_takeBack_22 : decode cX11_takeBack 22 = .ok (.athrow, 1) := by decide +kernel
theorem dX11_takeBack_23 : decode cX11_takeBack 23 = .ok (.aload_n 0, 1) := by decide +kernel
theorem dX11_takeBack_24 : decode cX11_takeBack 24 = .ok (.getfield 22, 3) := by decide +kernel
theorem dX11_takeBack_27 : decode cX11_takeBack 27 = .ok (.aload_n 0, 1) := by decide +kernel
theorem dX11_takeBack_28 : decode cX11_takeBack 28 = .ok (.getfield 10, 3) := by decide +kernel
theorem dX11_takeBack_31 : decode cX11_takeBack 31 = .ok (.invokevirtual 73, 3) := by decide +kernel
theorem dX11_takeBack_34 : decode cX11_takeBack 34 = .ok (.aload_n 0, 1) := by decide +kernel
theorem dX11_takeBack_35 : decode cX11_takeBack 35 = .ok (.getfield 10, 3) := by decide +kernel
theorem dX11_takeBack_38 : decode cX11_takeBack 38 = .ok (.getfield 58, 3) := by decide +kernel
theorem dX11_takeBack_41 : decode cX11_takeBack 41 = .ok (.getfield 86, 3) := by decide +kernel
theorem dX11_takeBack_44 : decode cX11_takeBack 44 = .ok (.aload_n 0, 1) := by decide +kernel
theorem dX11_takeBack_45 : decode cX11_takeBack 45 = .ok (.getfield 10, 3) := by decide +kernel
theorem dX11_takeBack_48 : decode cX11_takeBack 48 = .ok (.getfield 58, 3) := by decide +kernel
theorem dX11_takeBack_51 : decode cX11_takeBack 51 = .ok (.getfield 62, 3) := by decide +kernel
theorem dX11_takeBack_54 : decode cX11_takeBack 54 = .ok (.iconst 1, 1) := by decide +kernel
theorem dX11_takeBack_55 : decode cX11_takeBack 55 = .ok (.isub, 1) := by decide +kernel
theorem dX11_takeBack_56 : decode cX11_takeBack 56 = .ok (.invokestatic 90, 3) := by decide +kernel
theorem dX11_takeBack_59 : decode cX11_takeBack 59 = .ok (.istore_n 1, 1) := by decide +kernel
theorem dX11_takeBack_60 : decode cX11_takeBack 60 = .ok (.aload_n 0, 1) := by decide +kernel
theorem dX11_takeBack_61 : decode cX11_takeBack 61 = .ok (.getfield 10, 3) := by decide +kernel
theorem dX11_takeBack_64 : decode cX11_takeBack 64 = .ok (.getfield 58, 3) := by decide +kernel
theorem dX11_takeBack_67 : decode cX11_takeBack 67 = .ok (.invokevirtual 96, 3) := by decide +kernel
theorem dX11_takeBack_70 : decode cX11_takeBack 70 = .ok (.aload_n 0, 1) := by decide +kernel
theorem dX11_takeBack_71 : decode cX11_takeBack 71 = .ok (.getfield 10, 3) := by decide +kernel
theorem dX11_takeBack_74 : decode cX11_takeBack 74 = .ok (.invokevirtual 99, 3) := by decide +kernel
theorem dX11_takeBack_77 : decode cX11_takeBack 77 = .ok (.iload_n 1, 1) := by decide +kernel
theorem dX11_takeBack_78 : decode cX11_takeBack 78 = .ok (.ireturn, 1) := by decide +kernel
set_option maxRecDepth 20000 in
theorem ggX11_fixAll_X2_push : GoodIn wsX11_fixAll wsX2_push := goodIn_r _ [8, 9, 10, 11, 12, 13, 7, 14, 15, 16, 17, 18, 19, 20, 21, 22, 23, 24, 25, 26, 27, 28, 29, 30, 31, 32, 33, 34, 35, 36, 37, 38, 39, 40, 41, 42, 43, 44, 45, 46, 47, 48, 49, 50, 51, 52, 53, 54, 55, 56, 57, 58, 59, 60, 61, 62, 63, 94, 95, 92, 93, 96, 97, 98, 99, 100, 101, 102, 103, 104, 105, 106, 107] (by decide +kernel) (by decide +kernel)
set_option maxRecDepth 20000 in
theorem gX11_fixAll_X2_push : GoodIn wsX11_fixAll (wsV RX11 73 RX2 yX2_push wsX2_push) := goodIn_app (goodIn_of _ (by decide +kernel)) ggX11_fixAll_X2_push
set_option maxRecDepth 20000 in
theorem ggX11_fixAll_X7_openItems : GoodIn wsX11_fixAll wsX7_openItems := goodIn_r _ [67, 56, 57, 99, 100, 101, 102, 103, 104, 105, 106, 107] (by decide +kernel) (by decide +kernel)
set_option maxRecDepth 20000 in
theorem gX11_fixAll_X7_openItems : GoodIn wsX11_fixAll (wsV RX11 102 RX7 yX7_openItems wsX7_openItems) := goodIn_app (goodIn_of _ (by decide +kernel)) ggX11_fixAll_X7_openItems
set_option maxRecDepth 20000 in
theorem ggX11_fixAll_X7_fixDownTo : GoodIn wsX11_fixAll wsX7_fixDownTo := goodIn_r _ [71, 53, 57, 58, 72, 73, 74, 49, 75, 55, 76, 77, 36, 78, 79, 80, 81, 82, 56, 52, 83, 84, 85, 99, 100, 101, 102, 103, 104, 105, 106, 107] (by decide +kernel) (by decide +kernel)
set_option maxRecDepth 20000 in
theorem gX11_fixAll_X7_fixDownTo : GoodIn wsX11_fixAll (wsV RX11 106 RX7 yX7_fixDownTo wsX7_fixDownTo) := goodIn_app (goodIn_of _ (by decide +kernel)) ggX11_fixAll_X7_fixDownTo
theorem dX11_fixAll_0 : decode cX11_fixAll 0 = .ok (.aload_n 0, 1) := by decide +kernel
theorem dX11_fixAll_1 : decode cX11_fixAll 1 = .ok (.getfield 22, 3) := by decide +kernel
theorem dX11_fixAll_4 : decode cX11_fixAll 4 = .ok (.aload_n 0, 1) := by decide +kernel
theorem dX11_fixAll_5 : decode cX11_fixAll 5 = .ok (.getfield 10, 3) := by decide +kernel
theorem dX11_fixAll_8 : decode cX11_fixAll 8 = .ok (.invokevirtual 73, 3) := by decide +kernel
theorem dX11_fixAll_11 : decode cX11_fixAll 11 = .ok (.aload_n 0, 1) := by decide +kernel
theorem dX11_fixAll_12 : decode cX11_fixAll 12 = .ok (.getfield 10, 3) := by decide +kernel
theorem dX11_fixAll_15 : decode cX11_fixAll 15 = .ok (.getfield 58, 3) := by decide +kernel
theorem dX11_fixAll_18 : decode cX11_fixAll 18 = .ok (.invokevirtual 102, 3) := by decide +kernel
theorem dX11_fixAll_21 : decode cX11_fixAll 21 = .ok (.istore_n 1, 1) := by decide +kernel
theorem dX11_fixAll_22 : decode cX11_fixAll 22 = .ok (.aload_n 0, 1) := by decide +kernel
theorem dX11_fixAll_23 : decode cX11_fixAll 23 = .ok (.getfield 10, 3) := by decide +kernel
theorem dX11_fixAll_26 : decode cX11_fixAll 26 = .ok (.getfield 58, 3) := by decide +kernel
theorem dX11_fixAll_29 : decode cX11_fixAll 29 = .ok (.iconst 0, 1) := by decide +kernel
theorem dX11_fixAll_30 : decode cX11_fixAll 30 = .ok (.invokevirtual 106, 3) := by decide +kernel
theorem dX11_fixAll_33 : decode cX11_fixAll 33 = .ok (.iload_n 1, 1) := by decide +kernel
theorem dX11_fixAll_34 : decode cX11_fixAll 34 = .ok (.ireturn, 1) := by decide +kernel
set_option maxRecDepth 20000 in
theorem ggX11_setWindow_X2_push : GoodIn wsX11_setWindow wsX2_push := goodIn_r _ [11, 12, 13, 14, 15, 16, 10, 17, 18, 19, 20, 21, 22, 23, 24, 25, 26, 27, 28, 29, 30, 31, 32, 33, 34, 35, 36, 37, 38, 39, 40, 41, 42, 43, 44, 45, 46, 47, 48, 49, 50, 51, 52, 53, 54, 55, 56, 57, 58, 59, 60, 61, 62, 63, 64, 65, 66, 102, 103, 91, 92, 104, 105, 106, 93, 94, 95, 96, 97, 98, 99, 100, 101] (by decide +kernel) (by decide +kernel)
set_option maxRecDepth 20000 in
theorem gX11_setWindow_X2_push : GoodIn wsX11_setWindow (wsV RX11 73 RX2 yX2_push wsX2_push) := goodIn_app (goodIn_of _ (by decide +kernel)) ggX11_setWindow_X2_push
set_option maxRecDepth 20000 in
theorem ggX11_setWindow_X7_fixDownTo : GoodIn wsX11_setWindow wsX7_fixDownTo := goodIn_r _ [70, 56, 60, 61, 71, 72, 73, 52, 74, 58, 75, 76, 39, 77, 78, 79, 80, 81, 59, 55, 82, 83, 84, 93, 94, 95, 96, 97, 98, 99, 100, 101] (by decide +kernel) (by decide +kernel)
set_option maxRecDepth 20000 in
theorem gX11_setWindow_X7_fixDownTo : GoodIn wsX11_setWindow (wsV RX11 106 RX7 yX7_fixDownTo wsX7_fixDownTo) := goodIn_app (goodIn_of _ (by decide +kernel)) ggX11_setWindow_X7_fixDownTo
theorem dX11_setWindow_0 : decode cX11_setWindow 0 = .ok (.iload_n 1, 1) := by decide +kernel
theorem dX11_setWindow_1 : decode cX11_setWindow 1 = .ok (.ifCond .lt 9, 3) := by decide +kernel
theorem dX11_setWindow_4 : decode cX11_setWindow 4 = .ok (.iload_n 1, 1) := by decide +kernel
theorem dX11_setWindow_5 : decode cX11_setWindow 5 = .ok (.bipush 30, 2) := by decide +kernel
theorem dX11_setWindow_7 : decode cX11_setWindow 7 = .ok (.if_icmp .le 13, 3) := by decide +kernel
theorem dX11_setWindow_10 : decode cX11_setWindow 10 = .ok (.new 51, 3) := by decide +kernel
theorem dX11_setWindow_13 : decode cX11_setWindow 13 = .ok (.dup, 1) := by decide +kernel
theorem dX11_setWindow_14 : decode cX11_setWindow 14 = .ok (.ldc 109, 2) := by decide +kernel
theorem dX11_setWindow_16 : decode cX11_setWindow 16 = .ok (.invokespecial 55, 3) := by decide +kernel
theorem dX11_setWindow_19 : decode cX11_setWindow 19 = .ok (.athrow, 1) := by decide +kernel
theorem dX11_setWindow_20 : decode cX11_setWindow 20 = .ok (.aload_n 0, 1) := by decide +kernel
theorem dX11_setWindow_21 : decode cX11_setWindow 21 = .ok (.getfield 22, 3) := by decide +kernel
theorem dX11_setWindow_24 : decode cX11_setWindow 24 = .ok (.aload_n 0, 1) := by decide +kernel
theorem dX11_setWindow_25 : decode cX11_setWindow 25 = .ok (.getfield 10, 3) := by decide +kernel
theorem dX11_setWindow_28 : decode cX11_setWindow 28 = .ok (.invokevirtual 73, 3) := by decide +kernel
theorem dX11_setWindow_31 : decode cX11_setWindow 31 = .ok (.aload_n 0, 1) := by decide +kernel
theorem dX11_setWindow_32 : decode cX11_setWindow 32 = .ok (.getfield 10, 3) := by decide +kernel
theorem dX11_setWindow_35 : decode cX11_setWindow 35 = .ok (.getfield 58, 3) := by decide +kernel
theorem dX11_setWindow_38 : decode cX11_setWindow 38 = .ok (.getfield 111, 3) := by decide +kernel
theorem dX11_setWindow_41 : decode cX11_setWindow 41 = .ok (.istore_n 2, 1) := by decide +kernel
theorem dX11_setWindow_42 : decode cX11_setWindow 42 = .ok (.aload_n 0, 1) := by decide +kernel
theorem dX11_setWindow_43 : decode cX11_setWindow 43 = .ok (.getfield 10, 3) := by decide +kernel
theorem dX11_setWindow_46 : decode cX11_setWindow 46 = .ok (.getfield 58, 3) := by decide +kernel
theorem dX11_setWindow_49 : decode cX11_setWindow 49 = .ok (.iload_n 1, 1) := by decide +kernel
theorem dX11_setWindow_50 : decode cX11_setWindow 50 = .ok (.putfield 111, 3) := by decide +kernel
theorem dX11_setWindow_53 : decode cX11_setWindow 53 = .ok (.aload_n 0, 1) := by decide +kernel
theorem dX11_setWindow_54 : decode cX11_setWindow 54 = .ok (.getfield 10, 3) := by decide +kernel
theorem dX11_setWindow_57 : decode cX11_setWindow 57 = .ok (.getfield 58, 3) := by decide +kernel
theorem dX11_setWindow_60 : decode cX11_setWindow 60 = .ok (.iload_n 1, 1) := by decide +kernel
theorem dX11_setWindow_61 : decode cX11_setWindow 61 = .ok (.invokevirtual 106, 3) := by decide +kernel
theorem dX11_setWindow_64 : decode cX11_setWindow 64 = .ok (.iload_n 2, 1) := by decide +kernel
theorem dX11_setWindow_65 : decode cX11_setWindow 65 = .ok (.ireturn, 1) := by decide +kernel
set_option maxRecDepth 20000 in
theorem ggX11_removeEntry_X11_isEntry : GoodIn wsX11_removeEntry wsX11_isEntry := goodIn_r _ [12, 4, 5, 13, 147, 148, 149, 150, 151, 152, 153, 154, 164, 165, 166] (by decide +kernel) (by decide +kernel)
set_option maxRecDepth 20000 in
theorem gX11_removeEntry_X11_isEntry : GoodIn wsX11_removeEntry (wsV RX11 114 RX11 yX11_isEntry wsX11_isEntry) := goodIn_app (goodIn_of _ (by decide +kernel)) ggX11_removeEntry_X11_isEntry
set_option maxRecDepth 20000 in
theorem ggX11_removeEntry_X2_push : GoodIn wsX11_removeEntry wsX2_push := goodIn_r _ [18, 19, 20, 21, 22, 23, 17, 24, 25, 26, 27, 28, 29, 30, 31, 32, 33, 34, 35, 36, 37, 38, 39, 40, 41, 42, 43, 44, 45, 46, 47, 48, 49, 50, 51, 52, 53, 54, 55, 56, 57, 58, 59, 60, 61, 62, 63, 64, 65, 66, 67, 68, 69, 70, 71, 72, 73, 167, 168, 153, 154, 164, 165, 166, 155, 156, 157, 158, 159, 160, 161, 162, 163] (by decide +kernel) (by decide +kernel)
set_option maxRecDepth 20000 in
theorem gX11_removeEntry_X2_push : GoodIn wsX11_removeEntry (wsV RX11 73 RX2 yX2_push wsX2_push) := goodIn_app (goodIn_of _ (by decide +kernel)) ggX11_removeEntry_X2_push
set_option maxRecDepth 20000 in
theorem ggX11_removeEntry_X1_remove : GoodIn wsX11_removeEntry wsX1_remove := goodIn_r _ [77, 43, 41, 42, 78, 79, 80, 39, 81, 82, 83, 46, 84, 85, 86, 87, 88, 89, 90, 91, 164, 165, 166] (by decide +kernel) (by decide +kernel)
set_option maxRecDepth 20000 in
theorem gX11_removeEntry_X1_remove : GoodIn wsX11_removeEntry (wsV RX11 126 RX1 yX1_remove wsX1_remove) := goodIn_app (goodIn_of _ (by decide +kernel)) ggX11_removeEntry_X1_remove
set_option maxRecDepth 20000 in
theorem ggX11_removeEntry_X8_translate : GoodIn wsX11_removeEntry wsX8_translate := goodIn_r _ [95, 35, 34, 96, 97, 98, 59, 99, 67, 66, 68, 65, 61, 62, 63, 64, 69, 100, 101, 102, 39, 103, 104, 49, 50, 51, 105, 106, 107, 108, 109, 110, 46, 111, 112, 113, 114, 115, 116, 117, 118, 119, 120, 121, 43, 41, 82, 83, 84, 122, 123, 124, 125, 89, 90, 91, 42, 126, 86, 87, 127, 79, 80, 81, 128, 129, 130, 131, 132, 133, 134, 135, 136, 137, 138, 139, 140, 141, 142, 143, 144, 145, 146, 153, 154, 155, 156, 157, 158, 159, 160, 161, 162, 163, 164, 165, 166] (by decide +kernel) (by decide +kernel)
set_option maxRecDepth 20000 in
theorem gX11_removeEntry_X8_translate : GoodIn wsX11_removeEntry (wsV RX11 99 RX8 yX8_translate wsX8_translate) := goodIn_app (goodIn_of _ (by decide +kernel)) ggX11_removeEntry_X8_translate
theorem dX11_removeEntry_0 : decode cX11_removeEntry 0 = .ok (.aload_n 0, 1) := by decide +kernel
theorem dX11_removeEntry_1 : decode cX11_removeEntry 1 = .ok (.iload_n 1, 1) := by decide +kernel
theorem dX11_removeEntry_2 : decode cX11_removeEntry 2 = .ok (.invokevirtual 114, 3) := by decide +kernel
theorem dX11_removeEntry_5 : decode cX11_removeEntry 5 = .ok (.ifCond .ne 13, 3) := by decide +kernel
theorem dX11_removeEntry_8 : decode cX11_removeEntry 8 = .ok (.new 117, 3) := by decide +kernel
theorem dX11_removeEntry_11 : decode cX11_removeEntry 11 = .ok (.dup, 1) := by decide +kernel
theorem dX11_removeEntry_12 : decode cX11_removeEntry 12 = .ok (.ldc 119, 2) := by decide +kernel
theorem dX11_removeEntry_14 : decode cX11_removeEntry 14 = .ok (.invokespecial 121, 3) := by decide +kernel
theorem dX11_removeEntry_17 : decode cX11_removeEntry 17 = .ok (.athrow, 1) := by decide +kernel
theorem dX11_removeEntry_18 : decode cX11_removeEntry 18 = .ok (.aload_n 0, 1) := by decide +kernel
theorem dX11_removeEntry_19 : decode cX11_removeEntry 19 = .ok (.getfield 22, 3) := by decide +kernel
theorem dX11_removeEntry_22 : decode cX11_removeEntry 22 = .ok (.aload_n 0, 1) := by decide +kernel
theorem dX11_removeEntry_23 : decode cX11_removeEntry 23 = .ok (.getfield 10, 3) := by decide +kernel
theorem dX11_removeEntry_26 : decode cX11_removeEntry 26 = .ok (.invokevirtual 73, 3) := by decide +kernel
theorem dX11_removeEntry_29 : decode cX11_removeEntry 29 = .ok (.aload_n 0, 1) := by decide +kernel
theorem dX11_removeEntry_30 : decode cX11_removeEntry 30 = .ok (.getfield 10, 3) := by decide +kernel
theorem dX11_removeEntry_33 : decode cX11_removeEntry 33 = .ok (.getfield 122, 3) := by decide +kernel
theorem dX11_removeEntry_36 : decode cX11_removeEntry 36 = .ok (.iload_n 1, 1) := by decide +kernel
theorem dX11_removeEntry_37 : decode cX11_removeEntry 37 = .ok (.invokevirtual 126, 3) := by decide +kernel
theorem dX11_removeEntry_40 : decode cX11_removeEntry 40 = .ok (.aload_n 0, 1) := by decide +kernel
theorem dX11_removeEntry_41 : decode cX11_removeEntry 41 = .ok (.getfield 10, 3) := by decide +kernel
theorem dX11_removeEntry_44 : decode cX11_removeEntry 44 = .ok (.invokevirtual 99, 3) := by decide +kernel
theorem dX11_removeEntry_47 : decode cX11_removeEntry 47 = .ok (.aload_n 0, 1) := by decide +kernel
theorem dX11_removeEntry_48 : decode cX11_removeEntry 48 = .ok (.getfield 10, 3) := by decide +kernel
theorem dX11_removeEntry_51 : decode cX11_removeEntry 51 = .ok (.getfield 58, 3) := by decide +kernel
theorem dX11_removeEntry_54 : decode cX11_removeEntry 54 = .ok (.getfield 81, 3) := by decide +kernel
theorem dX11_removeEntry_57 : decode cX11_removeEntry 57 = .ok (.ireturn, 1) := by decide +kernel
set_option maxRecDepth 20000 in
theorem ggX11_renameEntry_X11_isEntry : GoodIn wsX11_renameEntry wsX11_isEntry := goodIn_r _ [12, 4, 5, 13, 146, 147, 148, 149, 150, 151, 152, 153, 154, 155, 156] (by decide +kernel) (by decide +kernel)
set_option maxRecDepth 20000 in
theorem gX11_renameEntry_X11_isEntry : GoodIn wsX11_renameEntry (wsV RX11 114 RX11 yX11_isEntry wsX11_isEntry) := goodIn_app (goodIn_of _ (by decide +kernel)) ggX11_renameEntry_X11_isEntry
set_option maxRecDepth 20000 in
theorem ggX11_renameEntry_X2_push : GoodIn wsX11_renameEntry wsX2_push := goodIn_r _ [18, 19, 20, 21, 22, 23, 17, 24, 25, 26, 27, 28, 29, 30, 31, 32, 33, 34, 35, 36, 37, 38, 39, 40, 41, 42, 43, 44, 45, 46, 47, 48, 49, 50, 51, 52, 53, 54, 55, 56, 57, 58, 59, 60, 61, 62, 63, 64, 65, 66, 67, 68, 69, 70, 71, 72, 73, 157, 158, 152, 153, 154, 155, 156, 159, 160, 161, 162, 163, 164, 165, 166, 167] (by decide +kernel) (by decide +kernel)
set_option maxRecDepth 20000 in
theorem gX11_renameEntry_X2_push : GoodIn wsX11_renameEntry (wsV RX11 73 RX2 yX2_push wsX2_push) := goodIn_app (goodIn_of _ (by decide +kernel)) ggX11_renameEntry_X2_push
set_option maxRecDepth 20000 in
theorem ggX11_renameEntry_X1_wordOf : GoodIn wsX11_renameEntry wsX1_wordOf := goodIn_r _ [77, 42, 78, 79, 46, 80, 154, 155, 156] (by decide +kernel) (by decide +kernel)
set_option maxRecDepth 20000 in
theorem gX11_renameEntry_X1_wordOf : GoodIn wsX11_renameEntry (wsV RX11 131 RX1 yX1_wordOf wsX1_wordOf) := goodIn_app (goodIn_of _ (by decide +kernel)) ggX11_renameEntry_X1_wordOf
set_option maxRecDepth 20000 in
theorem ggX11_renameEntry_X6_put_ : GoodIn wsX11_renameEntry wsX6_put_ := goodIn_r _ [83] (by decide +kernel) (by decide +kernel)
set_option maxRecDepth 20000 in
theorem gX11_renameEntry_X6_put_ : GoodIn wsX11_renameEntry (va_wsS RX11 139 yX6_put_ wsX6_put_) := goodIn_app (goodIn_of _ (by decide +kernel)) ggX11_renameEntry_X6_put_
set_option maxRecDepth 20000 in
theorem ggX11_renameEntry_X8_translate : GoodIn wsX11_renameEntry wsX8_translate := goodIn_r _ [87, 35, 34, 88, 89, 90, 59, 91, 67, 66, 68, 65, 61, 62, 63, 64, 69, 92, 93, 94, 39, 95, 96, 49, 50, 51, 97, 98, 99, 100, 101, 102, 46, 103, 104, 105, 106, 107, 108, 109, 110, 111, 112, 113, 43, 41, 78, 79, 80, 114, 115, 116, 117, 75, 76, 77, 42, 118, 82, 83, 119, 120, 121, 122, 123, 124, 125, 126, 127, 128, 129, 130, 131, 132, 133, 134, 135, 136, 137, 138, 139, 140, 141, 152, 153, 159, 160, 161, 162, 163, 164, 165, 166, 167, 154, 155, 156] (by decide +kernel) (by decide +kernel)
set_option maxRecDepth 20000 in
theorem gX11_renameEntry_X8_translate : GoodIn wsX11_renameEntry (wsV RX11 99 RX8 yX8_translate wsX8_translate) := goodIn_app (goodIn_of _ (by decide +kernel)) ggX11_renameEntry_X8_translate
set_option maxRecDepth 20000 in
theorem ggX11_renameEntry_X7_openItemsOf : GoodIn wsX11_renameEntry wsX7_openItemsOf := goodIn_r _ [145, 67, 66, 63, 141, 102, 46, 103, 159, 160, 161, 162, 163, 164, 165, 166, 167] (by decide +kernel) (by decide +kernel)
set_option maxRecDepth 20000 in
theorem gX11_renameEntry_X7_openItemsOf : GoodIn wsX11_renameEntry (wsV RX11 143 RX7 yX7_openItemsOf wsX7_openItemsOf) := goodIn_app (goodIn_of _ (by decide +kernel)) ggX11_renameEntry_X7_openItemsOf
theorem dX11_renameEntry_0 : decode cX11_renameEntry 0 = .ok (.aload_n 0, 1) := by decide +kernel
theorem dX11_renameEntry_1 : decode cX11_renameEntry 1 = .ok (.iload_n 1, 1) := by decide +kernel
theorem dX11_renameEntry_2 : decode cX11_renameEntry 2 = .ok (.invokevirtual 114, 3) := by decide +kernel
theorem dX11_renameEntry_5 : decode cX11_renameEntry 5 = .ok (.ifCond .eq 11, 3) := by decide +kernel
theorem dX11_renameEntry_8 : decode cX11_renameEntry 8 = .ok (.aload_n 0, 1) := by decide +kernel
theorem dX11_renameEntry_9 : decode cX11_renameEntry 9 = .ok (.iload_n 2, 1) := by decide +kernel
theorem dX11_renameEntry_10 : decode cX11_renameEntry 10 = .ok (.invokevirtual 114, 3) := by decide +kernel
theorem dX11_renameEntry_13 : decode cX11_renameEntry 13 = .ok (.ifCond .ne 13, 3) := by decide +kernel
theorem dX11_renameEntry_16 : decode cX11_renameEntry 16 = .ok (.new 117, 3) := by decide +kernel
theorem dX11_renameEntry_19 : decode cX11_renameEntry 19 = .ok (.dup, 1) := by decide +kernel
theorem dX11_renameEntry_20 : decode cX11_renameEntry 20 = .ok (.ldc 119, 2) := by decide +kernel
theorem dX11_renameEntry_22 : decode cX11_renameEntry 22 = .ok (.invokespecial 121, 3) := by decide +kernel
theorem dX11_renameEntry_25 : decode cX11_renameEntry 25 = .ok (.athrow, 1) := by decide +kernel
theorem dX11_renameEntry_26 : decode cX11_renameEntry 26 = .ok (.aload_n 0, 1) := by decide +kernel
theorem dX11_renameEntry_27 : decode cX11_renameEntry 27 = .ok (.getfield 22, 3) := by decide +kernel
theorem dX11_renameEntry_30 : decode cX11_renameEntry 30 = .ok (.aload_n 0, 1) := by decide +kernel
theorem dX11_renameEntry_31 : decode cX11_renameEntry 31 = .ok (.getfield 10, 3) := by decide +kernel
theorem dX11_renameEntry_34 : decode cX11_renameEntry 34 = .ok (.invokevirtual 73, 3) := by decide +kernel
theorem dX11_renameEntry_37 : decode cX11_renameEntry 37 = .ok (.aload_n 0, 1) := by decide +kernel
theorem dX11_renameEntry_38 : decode cX11_renameEntry 38 = .ok (.getfield 10, 3) := by decide +kernel
theorem dX11_renameEntry_41 : decode cX11_renameEntry 41 = .ok (.getfield 122, 3) := by decide +kernel
theorem dX11_renameEntry_44 : decode cX11_renameEntry 44 = .ok (.iload_n 1, 1) := by decide +kernel
theorem dX11_renameEntry_45 : decode cX11_renameEntry 45 = .ok (.invokevirtual 131, 3) := by decide +kernel
theorem dX11_renameEntry_48 : decode cX11_renameEntry 48 = .ok (.lstore_n 3, 1) := by decide +kernel
theorem dX11_renameEntry_49 : decode cX11_renameEntry 49 = .ok (.aload_n 0, 1) := by decide +kernel
theorem dX11_renameEntry_50 : decode cX11_renameEntry 50 = .ok (.getfield 10, 3) := by decide +kernel
theorem dX11_renameEntry_53 : decode cX11_renameEntry 53 = .ok (.getfield 122, 3) := by decide +kernel
theorem dX11_renameEntry_56 : decode cX11_renameEntry 56 = .ok (.iload_n 2, 1) := by decide +kernel
theorem dX11_renameEntry_57 : decode cX11_renameEntry 57 = .ok (.invokevirtual 131, 3) := by decide +kernel
theorem dX11_renameEntry_60 : decode cX11_renameEntry 60 = .ok (.lstore 5, 2) := by decide +kernel
theorem dX11_renameEntry_62 : decode cX11_renameEntry 62 = .ok (.aload_n 0, 1) := by decide +kernel
theorem dX11_renameEntry_63 : decode cX11_renameEntry 63 = .ok (.getfield 10, 3) := by decide +kernel
theorem dX11_renameEntry_66 : decode cX11_renameEntry 66 = .ok (.getfield 122, 3) := by decide +kernel
theorem dX11_renameEntry_69 : decode cX11_renameEntry 69 = .ok (.getfield 135, 3) := by decide +kernel
theorem dX11_renameEntry_72 : decode cX11_renameEntry 72 = .ok (.iload_n 1, 1) := by decide +kernel
theorem dX11_renameEntry_73 : decode cX11_renameEntry 73 = .ok (.lload 5, 2) := by decide +kernel
theorem dX11_renameEntry_75 : decode cX11_renameEntry 75 = .ok (.invokestatic 139, 3) := by decide +kernel
theorem dX11_renameEntry_78 : decode cX11_renameEntry 78 = .ok (.aload_n 0, 1) := by decide +kernel
theorem dX11_renameEntry_79 : decode cX11_renameEntry 79 = .ok (.getfield 10, 3) := by decide +kernel
theorem dX11_renameEntry_82 : decode cX11_renameEntry 82 = .ok (.invokevirtual 99, 3) := by decide +kernel
theorem dX11_renameEntry_85 : decode cX11_renameEntry 85 = .ok (.lload_n 3, 1) := by decide +kernel
theorem dX11_renameEntry_86 : decode cX11_renameEntry 86 = .ok (.lload 5, 2) := by decide +kernel
theorem dX11_renameEntry_88 : decode cX11_renameEntry 88 = .ok (.lcmp, 1) := by decide +kernel
theorem dX11_renameEntry_89 : decode cX11_renameEntry 89 = .ok (.ifCond .ne 7, 3) := by decide +kernel
theorem dX11_renameEntry_92 : decode cX11_renameEntry 92 = .ok (.iconst 0, 1) := by decide +kernel
theorem dX11_renameEntry_93 : decode cX11_renameEntry 93 = .ok (.goto 14, 3) := by decide +kernel
theorem dX11_renameEntry_96 : decode cX11_renameEntry 96 = .ok (.aload_n 0, 1) := by decide +kernel
theorem dX11_renameEntry_97 : decode cX11_renameEntry 97 = .ok (.getfield 10, 3) := by decide +kernel
theorem dX11_renameEntry_100 : decode cX11_renameEntry 100 = .ok (.getfield 58, 3) := by decide +kernel
theorem dX11_renameEntry_103 : decode cX11_renameEntry 103 = .ok (.iload_n 1, 1) := by decide +kernel
theorem dX11_renameEntry_104 : decode cX11_renameEntry 104 = .ok (.invokevirtual 143, 3) := by decide +kernel
theorem dX11_renameEntry_107 : decode cX11_renameEntry 107 = .ok (.ireturn, 1) := by decide +kernel
set_option maxRecDepth 20000 in
theorem ggX11_learn_X11_isItem : GoodIn wsX11_learn wsX11_isItem := goodIn_r _ [17, 7, 8, 18, 197, 198, 199, 200, 201, 202, 203, 204, 205, 206, 207, 208, 209, 210, 211, 212, 213] (by decide +kernel) (by decide +kernel)
set_option maxRecDepth 20000 in
theorem gX11_learn_X11_isItem : GoodIn wsX11_learn (wsV RX11 147 RX11 yX11_isItem wsX11_isItem) := goodIn_app (goodIn_of _ (by decide +kernel)) ggX11_learn_X11_isItem
set_option maxRecDepth 20000 in
theorem ggX11_learn_X7_firstOf : GoodIn wsX11_learn wsX7_firstOf := goodIn_r _ [23, 24, 25, 26, 27, 28, 29, 30, 205, 206, 207, 208, 209, 210, 211, 212, 213] (by decide +kernel) (by decide +kernel)
set_option maxRecDepth 20000 in
theorem gX11_learn_X7_firstOf : GoodIn wsX11_learn (wsV RX11 152 RX7 yX7_firstOf wsX7_firstOf) := goodIn_app (goodIn_of _ (by decide +kernel)) ggX11_learn_X7_firstOf
set_option maxRecDepth 20000 in
theorem ggX11_learn_X5_of : GoodIn wsX11_learn wsX5_of := goodIn_r _ [34, 35, 28, 29, 30, 36, 37, 33, 38] (by decide +kernel) (by decide +kernel)
set_option maxRecDepth 20000 in
theorem gX11_learn_X5_of : GoodIn wsX11_learn (va_wsS RX11 157 yX5_of wsX5_of) := goodIn_app (goodIn_of _ (by decide +kernel)) ggX11_learn_X5_of
set_option maxRecDepth 20000 in
theorem ggX11_learn_X1_hasRoomFor : GoodIn wsX11_learn wsX1_hasRoomFor := goodIn_r _ [43, 44, 45, 46, 47, 42, 48, 49, 50, 51, 29, 52, 214, 215, 216] (by decide +kernel) (by decide +kernel)
set_option maxRecDepth 20000 in
theorem gX11_learn_X1_hasRoomFor : GoodIn wsX11_learn (wsV RX11 163 RX1 yX1_hasRoomFor wsX1_hasRoomFor) := goodIn_app (goodIn_of _ (by decide +kernel)) ggX11_learn_X1_hasRoomFor
set_option maxRecDepth 20000 in
theorem ggX11_learn_X2_push : GoodIn wsX11_learn wsX2_push := goodIn_r _ [57, 58, 59, 60, 61, 62, 56, 63, 64, 65, 66, 67, 68, 69, 70, 71, 72, 73, 74, 75, 76, 77, 42, 78, 49, 79, 44, 80, 81, 29, 82, 83, 84, 85, 86, 87, 88, 89, 90, 91, 92, 93, 22, 94, 95, 25, 96, 97, 26, 24, 98, 99, 100, 101, 102, 103, 104, 217, 218, 203, 204, 214, 215, 216, 205, 206, 207, 208, 209, 210, 211, 212, 213] (by decide +kernel) (by decide +kernel)
set_option maxRecDepth 20000 in
theorem gX11_learn_X2_push : GoodIn wsX11_learn (wsV RX11 73 RX2 yX2_push wsX2_push) := goodIn_app (goodIn_of _ (by decide +kernel)) ggX11_learn_X2_push
set_option maxRecDepth 20000 in
theorem ggX11_learn_X7_wordOf : GoodIn wsX11_learn wsX7_wordOf := goodIn_r _ [108, 24, 109, 110, 111, 22, 112, 97, 95, 113, 51, 29, 52, 114, 20, 21, 23, 25, 26, 27, 28, 30, 115, 116, 117, 118, 119, 120, 121, 122, 123, 124, 125, 126, 127, 128, 129, 130, 131, 132, 133, 134, 135, 136, 137, 138, 139, 140, 141, 142, 143, 144, 145, 146, 205, 206, 207, 208, 209, 210, 211, 212, 213] (by decide +kernel) (by decide +kernel)
set_option maxRecDepth 20000 in
theorem gX11_learn_X7_wordOf : GoodIn wsX11_learn (wsV RX11 169 RX7 yX7_wordOf wsX7_wordOf) := goodIn_app (goodIn_of _ (by decide +kernel)) ggX11_learn_X7_wordOf
set_option maxRecDepth 20000 in
theorem ggX11_learn_X1_add : GoodIn wsX11_learn wsX1_add := goodIn_r _ [150, 49, 44, 79, 151, 152, 29, 153, 214, 215, 216] (by decide +kernel) (by decide +kernel)
set_option maxRecDepth 20000 in
theorem gX11_learn_X1_add : GoodIn wsX11_learn (wsV RX11 172 RX1 yX1_add wsX1_add) := goodIn_app (goodIn_of _ (by decide +kernel)) ggX11_learn_X1_add
set_option maxRecDepth 20000 in
theorem ggX11_learn_X8_translate : GoodIn wsX11_learn wsX8_translate := goodIn_r _ [157, 74, 73, 158, 159, 160, 22, 161, 98, 24, 99, 26, 95, 25, 96, 97, 100, 162, 163, 164, 42, 165, 166, 84, 85, 86, 167, 32, 33, 34, 35, 28, 29, 30, 36, 37, 38, 168, 169, 170, 45, 46, 47, 48, 44, 49, 50, 51, 52, 171, 172, 173, 174, 175, 176, 177, 79, 178, 152, 153, 179, 180, 181, 182, 183, 184, 185, 186, 187, 188, 189, 190, 191, 192, 193, 194, 195, 196, 114, 20, 21, 23, 27, 203, 204, 205, 206, 207, 208, 209, 210, 211, 212, 213, 214, 215, 216] (by decide +kernel) (by decide +kernel)
set_option maxRecDepth 20000 in
theorem gX11_learn_X8_translate : GoodIn wsX11_learn (wsV RX11 99 RX8 yX8_translate wsX8_translate) := goodIn_app (goodIn_of _ (by decide +kernel)) ggX11_learn_X8_translate
theorem dX11_learn_0 : decode cX11_learn 0 = .ok (.aload_n 0, 1) := by decide +kernel
theorem dX11_learn_1 : decode cX11_learn 1 = .ok (.iload_n 1, 1) := by decide +kernel
theorem dX11_learn_2 : decode cX11_learn 2 = .ok (.invokevirtual 147, 3) := by decide +kernel
theorem dX11_learn_5 : decode cX11_learn 5 = .ok (.ifCond .eq 11, 3) := by decide +kernel
theorem dX11_learn_8 : decode cX11_learn 8 = .ok (.aload_n 0, 1) := by decide +kernel
theorem dX11_learn_9 : decode cX11_learn 9 = .ok (.iload_n 2, 1) := by decide +kernel
theorem dX11_learn_10 : decode cX11_learn 10 = .ok (.invokevirtual 147, 3) := by decide +kernel
theorem dX11_learn_13 : decode cX11_learn 13 = .ok (.ifCond .ne 13, 3) := by decide +kernel
theorem dX11_learn_16 : decode cX11_learn 16 = .ok (.new 117, 3) := by decide +kernel
theorem dX11_learn_19 : decode cX11_learn 19 = .ok (.dup, 1) := by decide +kernel
theorem dX11_learn_20 : decode cX11_learn 20 = .ok (.ldc 150, 2) := by decide +kernel
theorem dX11_learn_22 : decode cX11_learn 22 = .ok (.invokespecial 121, 3) := by decide +kernel
theorem dX11_learn_25 : decode cX11_learn 25 = .ok (.athrow, 1) := by decide +kernel
theorem dX11_learn_26 : decode cX11_learn 26 = .ok (.aload_n 0, 1) := by decide +kernel
theorem dX11_learn_27 : decode cX11_learn 27 = .ok (.getfield 10, 3) := by decide +kernel
theorem dX11_learn_30 : decode cX11_learn 30 = .ok (.getfield 58, 3) := by decide +kernel
theorem dX11_learn_33 : decode cX11_learn 33 = .ok (.iload_n 1, 1) := by decide +kernel
theorem dX11_learn_34 : decode cX11_learn 34 = .ok (.invokevirtual 152, 3) := by decide +kernel
theorem dX11_learn_37 : decode cX11_learn 37 = .ok (.istore_n 3, 1) := by decide +kernel
theorem dX11_learn_38 : decode cX11_learn 38 = .ok (.aload_n 0, 1) := by decide +kernel
theorem dX11_learn_39 : decode cX11_learn 39 = .ok (.getfield 10, 3) := by decide +kernel
theorem dX11_learn_42 : decode cX11_learn 42 = .ok (.getfield 58, 3) := by decide +kernel
theorem dX11_learn_45 : decode cX11_learn 45 = .ok (.iload_n 2, 1) := by decide +kernel
theorem dX11_learn_46 : decode cX11_learn 46 = .ok (.iconst 1, 1) := by decide +kernel
theorem dX11_learn_47 : decode cX11_learn 47 = .ok (.iadd, 1) := by decide +kernel
theorem dX11_learn_48 : decode cX11_learn 48 = .ok (.invokevirtual 152, 3) := by decide +kernel
theorem dX11_learn_51 : decode cX11_learn 51 = .ok (.iload_n 3, 1) := by decide +kernel
theorem dX11_learn_52 : decode cX11_learn 52 = .ok (.isub, 1) := by decide +kernel
theorem dX11_learn_53 : decode cX11_learn 53 = .ok (.istore 4, 2) := by decide +kernel
theorem dX11_learn_55 : decode cX11_learn 55 = .ok (.iload_n 1, 1) := by decide +kernel
theorem dX11_learn_56 : decode cX11_learn 56 = .ok (.iload_n 2, 1) := by decide +kernel
theorem dX11_learn_57 : decode cX11_learn 57 = .ok (.if_icmp .gt 9, 3) := by decide +kernel
theorem dX11_learn_60 : decode cX11_learn 60 = .ok (.iload 4, 2) := by decide +kernel
theorem dX11_learn_62 : decode cX11_learn 62 = .ok (.iconst 4, 1) := by decide +kernel
theorem dX11_learn_63 : decode cX11_learn 63 = .ok (.if_icmp .le 13, 3) := by decide +kernel
theorem dX11_learn_66 : decode cX11_learn 66 = .ok (.new 51, 3) := by decide +kernel
theorem dX11_learn_69 : decode cX11_learn 69 = .ok (.dup, 1) := by decide +kernel
theorem dX11_learn_70 : decode cX11_learn 70 = .ok (.ldc 155, 2) := by decide +kernel
theorem dX11_learn_72 : decode cX11_learn 72 = .ok (.invokespecial 55, 3) := by decide +kernel
theorem dX11_learn_75 : decode cX11_learn 75 = .ok (.athrow, 1) := by decide +kernel
theorem dX11_learn_76 : decode cX11_learn 76 = .ok (.aload_n 0, 1) := by decide +kernel
theorem dX11_learn_77 : decode cX11_learn 77 = .ok (.getfield 10, 3) := by decide +kernel
theorem dX11_learn_80 : decode cX11_learn 80 = .ok (.getfield 58, 3) := by decide +kernel
theorem dX11_learn_83 : decode cX11_learn 83 = .ok (.getfield 86, 3) := by decide +kernel
theorem dX11_learn_86 : decode cX11_learn 86 = .ok (.iload_n 3, 1) := by decide +kernel
theorem dX11_learn_87 : decode cX11_learn 87 = .ok (.iload 4, 2) := by decide +kernel
theorem dX11_learn_89 : decode cX11_learn 89 = .ok (.invokestatic 157, 3) := by decide +kernel
theorem dX11_learn_92 : decode cX11_learn 92 = .ok (.lstore 5, 2) := by decide +kernel
theorem dX11_learn_94 : decode cX11_learn 94 = .ok (.aload_n 0, 1) := by decide +kernel
theorem dX11_learn_95 : decode cX11_learn 95 = .ok (.getfield 10, 3) := by decide +kernel
theorem dX11_learn_98 : decode cX11_learn 98 = .ok (.getfield 122, 3) := by decide +kernel
theorem dX11_learn_101 : decode cX11_learn 101 = .ok (.lload 5, 2) := by decide +kernel
theorem dX11_learn_103 : decode cX11_learn 103 = .ok (.invokevirtual 163, 3) := by decide +kernel
theorem dX11_learn_106 : decode cX11_learn 106 = .ok (.ifCond .ne 13, 3) := by decide +kernel
theorem dX11_learn_109 : decode cX11_learn 109 = .ok (.new 68, 3) := by decide +kernel
theorem dX11_learn_112 : decode cX11_learn 112 = .ok (.dup, 1) := by decide +kernel
theorem dX11_learn_113 : decode cX11_learn 113 = .ok (.ldc 167, 2) := by decide +kernel
theorem dX11_learn_115 : decode cX11_learn 115 = .ok (.invokespecial 72, 3) := by decide +kernel
theorem dX11_learn_118 : decode cX11_learn 118 = .ok (.athrow, 1) := by decide +kernel
theorem dX11_learn_119 : decode cX11_learn 119 = .ok (.aload_n 0, 1) := by decide +kernel
theorem dX11_learn_120 : decode cX11_learn 120 = .ok (.getfield 22, 3) := by decide +kernel
theorem dX11_learn_123 : decode cX11_learn 123 = .ok (.aload_n 0, 1) := by decide +kernel
theorem dX11_learn_124 : decode cX11_learn 124 = .ok (.getfield 10, 3) := by decide +kernel
theorem dX11_learn_127 : decode cX11_learn 127 = .ok (.invokevirtual 73, 3) := by decide +kernel
theorem dX11_learn_130 : decode cX11_learn 130 = .ok (.aload_n 0, 1) := by decide +kernel
theorem dX11_learn_131 : decode cX11_learn 131 = .ok (.getfield 10, 3) := by decide +kernel
theorem dX11_learn_134 : decode cX11_learn 134 = .ok (.getfield 122, 3) := by decide +kernel
theorem dX11_learn_137 : decode cX11_learn 137 = .ok (.lload 5, 2) := by decide +kernel
theorem dX11_learn_139 : decode cX11_learn 139 = .ok (.aload_n 0, 1) := by decide +kernel
theorem dX11_learn_140 : decode cX11_learn 140 = .ok (.getfield 10, 3) := by decide +kernel
theorem dX11_learn_143 : decode cX11_learn 143 = .ok (.getfield 58, 3) := by decide +kernel
theorem dX11_learn_146 : decode cX11_learn 146 = .ok (.iload_n 1, 1) := by decide +kernel
theorem dX11_learn_147 : decode cX11_learn 147 = .ok (.iload_n 2, 1) := by decide +kernel
theorem dX11_learn_148 : decode cX11_learn 148 = .ok (.invokevirtual 169, 3) := by decide +kernel
theorem dX11_learn_151 : decode cX11_learn 151 = .ok (.invokevirtual 172, 3) := by decide +kernel
theorem dX11_learn_154 : decode cX11_learn 154 = .ok (.aload_n 0, 1) := by decide +kernel
theorem dX11_learn_155 : decode cX11_learn 155 = .ok (.getfield 10, 3) := by decide +kernel
theorem dX11_learn_158 : decode cX11_learn 158 = .ok (.invokevirtual 99, 3) := by decide +kernel
theorem dX11_learn_161 : decode cX11_learn 161 = .ok (.aload_n 0, 1) := by decide +kernel
theorem dX11_learn_162 : decode cX11_learn 162 = .ok (.getfield 10, 3) := by decide +kernel
theorem dX11_learn_165 : decode cX11_learn 165 = .ok (.getfield 122, 3) := by decide +kernel
theorem dX11_learn_168 : decode cX11_learn 168 = .ok (.getfield 176, 3) := by decide +kernel
theorem dX11_learn_171 : decode cX11_learn 171 = .ok (.iconst 1, 1) := by decide +kernel
theorem dX11_learn_172 : decode cX11_learn 172 = .ok (.isub, 1) := by decide +kernel
theorem dX11_learn_173 : decode cX11_learn 173 = .ok (.ireturn, 1) := by decide +kernel
set_option maxRecDepth 20000 in
theorem ggX11_append_X0_add : GoodIn wsX11_append wsX0_add := goodIn_r _ [11, 12, 13, 14, 15, 16, 17, 24, 25] (by decide +kernel) (by decide +kernel)
set_option maxRecDepth 20000 in
theorem gX11_append_X0_add : GoodIn wsX11_append (wsV RX11 186 RX0 yX0_add wsX0_add) := goodIn_app (goodIn_of _ (by decide +kernel)) ggX11_append_X0_add
theorem dX11_append_0 : decode cX11_append 0 = .ok (.iload_n 1, 1) := by decide +kernel
theorem dX11_append_1 : decode cX11_append 1 = .ok (.bipush 33, 2) := by decide +kernel
theorem dX11_append_3 : decode cX11_append 3 = .ok (.if_icmp .lt 9, 3) := by decide +kernel
theorem dX11_append_6 : decode cX11_append 6 = .ok (.iload_n 1, 1) := by decide +kernel
theorem dX11_append_7 : decode cX11_append 7 = .ok (.bipush 126, 2) := by decide +kernel
theorem dX11_append_9 : decode cX11_append 9 = .ok (.if_icmp .le 13, 3) := by decide +kernel
theorem dX11_append_12 : decode cX11_append 12 = .ok (.new 51, 3) := by decide +kernel
theorem dX11_append_15 : decode cX11_append 15 = .ok (.dup, 1) := by decide +kernel
theorem dX11_append_16 : decode cX11_append 16 = .ok (.ldc 179, 2) := by decide +kernel
theorem dX11_append_18 : decode cX11_append 18 = .ok (.invokespecial 55, 3) := by decide +kernel
theorem dX11_append_21 : decode cX11_append 21 = .ok (.athrow, 1) := by decide +kernel
theorem dX11_append_22 : decode cX11_append 22 = .ok (.aload_n 0, 1) := by decide +kernel
theorem dX11_append_23 : decode cX11_append 23 = .ok (.getfield 29, 3) := by decide +kernel
theorem dX11_append_26 : decode cX11_append 26 = .ok (.getfield 181, 3) := by decide +kernel
theorem dX11_append_29 : decode cX11_append 29 = .ok (.bipush 60, 2) := by decide +kernel
theorem dX11_append_31 : decode cX11_append 31 = .ok (.if_icmp .lt 13, 3) := by decide +kernel
theorem dX11_append_34 : decode cX11_append 34 = .ok (.new 68, 3) := by decide +kernel
theorem dX11_append_37 : decode cX11_append 37 = .ok (.dup, 1) := by decide +kernel
theorem dX11_append_38 : decode cX11_append 38 = .ok (.ldc 184, 2) := by decide +kernel
theorem dX11_append_40 : decode cX11_append 40 = .ok (.invokespecial 72, 3) := by decide +kernel
theorem dX11_append_43 : decode cX11_append 43 = .ok (.athrow, 1) := by decide +kernel
theorem dX11_append_44 : decode cX11_append 44 = .ok (.aload_n 0, 1) := by decide +kernel
theorem dX11_append_45 : decode cX11_append 45 = .ok (.getfield 29, 3) := by decide +kernel
theorem dX11_append_48 : decode cX11_append 48 = .ok (.iload_n 1, 1) := by decide +kernel
theorem dX11_append_49 : decode cX11_append 49 = .ok (.invokevirtual 186, 3) := by decide +kernel
theorem dX11_append_52 : decode cX11_append 52 = .ok (.aload_n 0, 1) := by decide +kernel
theorem dX11_append_53 : decode cX11_append 53 = .ok (.getfield 29, 3) := by decide +kernel
theorem dX11_append_56 : decode cX11_append 56 = .ok (.getfield 181, 3) := by decide +kernel
theorem dX11_append_59 : decode cX11_append 59 = .ok (.ireturn, 1) := by decide +kernel
theorem dX11_clearBuffer_0 : decode cX11_clearBuffer 0 = .ok (.aload_n 0, 1) := by decide +kernel
theorem dX11_clearBuffer_1 : decode cX11_clearBuffer 1 = .ok (.getfield 29, 3) := by decide +kernel
theorem dX11_clearBuffer_4 : decode cX11_clearBuffer 4 = .ok (.getfield 181, 3) := by decide +kernel
theorem dX11_clearBuffer_7 : decode cX11_clearBuffer 7 = .ok (.istore_n 1, 1) := by decide +kernel
theorem dX11_clearBuffer_8 : decode cX11_clearBuffer 8 = .ok (.aload_n 0, 1) := by decide +kernel
theorem dX11_clearBuffer_9 : decode cX11_clearBuffer 9 = .ok (.getfield 29, 3) := by decide +kernel
theorem dX11_clearBuffer_12 : decode cX11_clearBuffer 12 = .ok (.iconst 0, 1) := by decide +kernel
theorem dX11_clearBuffer_13 : decode cX11_clearBuffer 13 = .ok (.putfield 181, 3) := by decide +kernel
theorem dX11_clearBuffer_16 : decode cX11_clearBuffer 16 = .ok (.iload_n 1, 1) := by decide +kernel
theorem dX11_clearBuffer_17 : decode cX11_clearBuffer 17 = .ok (.ireturn, 1) := by decide +kernel
set_option maxRecDepth 20000 in
theorem ggX11_firstError_X4_firstErrorOf : GoodIn wsX11_firstError wsX4_firstErrorOf := goodIn_r _ [7, 8, 9, 10, 11, 12, 6, 13, 14, 15, 16, 17, 18, 19, 20, 21, 22, 23, 24, 25, 26, 27, 28, 29, 30, 31, 32, 33, 34, 35, 36, 37, 38, 39, 40, 41, 42, 43, 44, 45, 46, 47, 48, 49, 50, 51, 52, 53, 54, 55, 56, 57, 58, 65, 66, 67, 68, 69, 70, 71, 72] (by decide +kernel) (by decide +kernel)
set_option maxRecDepth 20000 in
theorem gX11_firstError_X4_firstErrorOf : GoodIn wsX11_firstError (wsV RX11 188 RX4 yX4_firstErrorOf wsX4_firstErrorOf) := goodIn_app (goodIn_of _ (by decide +kernel)) ggX11_firstError_X4_firstErrorOf
theorem dX11_firstError_0 : decode cX11_firstError 0 = .ok (.aload_n 0, 1) := by decide +kernel
theorem dX11_firstError_1 : decode cX11_firstError 1 = .ok (.getfield 36, 3) := by decide +kernel
theorem dX11_firstError_4 : decode cX11_firstError 4 = .ok (.aload_n 0, 1) := by decide +kernel
theorem dX11_firstError_5 : decode cX11_firstError 5 = .ok (.getfield 29, 3) := by decide +kernel
theorem dX11_firstError_8 : decode cX11_firstError 8 = .ok (.invokevirtual 188, 3) := by decide +kernel
theorem dX11_firstError_11 : decode cX11_firstError 11 = .ok (.ireturn, 1) := by decide +kernel
set_option maxRecDepth 20000 in
theorem ggX11_load_X4_isList : GoodIn wsX11_load wsX4_isList := goodIn_r _ [17, 18, 19, 20, 21, 22, 16, 23, 24, 25, 26, 27, 28, 29, 30, 31, 32, 33, 34, 35, 36, 37, 38, 39, 40, 41, 42, 43, 44, 45, 46, 47, 48, 49, 50, 51, 52, 53, 54, 55, 56, 57, 58, 59, 60, 61, 62, 63, 64, 65, 66, 67, 68, 69, 70, 71, 72, 216, 217, 221, 222, 223, 224, 225, 226] (by decide +kernel) (by decide +kernel)
set_option maxRecDepth 20000 in
theorem gX11_load_X4_isList : GoodIn wsX11_load (wsV RX11 192 RX4 yX4_isList wsX4_isList) := goodIn_app (goodIn_of _ (by decide +kernel)) ggX11_load_X4_isList
set_option maxRecDepth 20000 in
theorem ggX11_load_X8_copyFrom : GoodIn wsX11_load wsX8_copyFrom := goodIn_r _ [77, 78, 79, 80, 81, 82, 83, 84, 85, 86, 87, 88, 89, 36, 90, 91, 92, 93, 94, 95, 96, 97, 98, 99, 100, 101, 102, 103, 104, 105, 106, 107, 108, 109, 110, 111, 112, 113, 114, 115, 116, 214, 215, 218, 219, 220, 227, 228, 229, 230, 231, 232, 233, 234, 235] (by decide +kernel) (by decide +kernel)
set_option maxRecDepth 20000 in
theorem gX11_load_X8_copyFrom : GoodIn wsX11_load (wsV RX11 198 RX8 yX8_copyFrom wsX8_copyFrom) := goodIn_app (goodIn_of _ (by decide +kernel)) ggX11_load_X8_copyFrom
set_option maxRecDepth 20000 in
theorem ggX11_load_X4_addEntries : GoodIn wsX11_load wsX4_addEntries := goodIn_r _ [120, 18, 24, 29, 33, 25, 26, 27, 16, 28, 30, 31, 32, 19, 34, 35, 36, 37, 121, 122, 123, 83, 124, 87, 125, 126, 127, 128, 85, 129, 130, 131, 132, 133, 134, 135, 86, 136, 137, 138, 38, 39, 40, 41, 42, 43, 44, 45, 46, 47, 48, 49, 50, 51, 52, 53, 54, 55, 56, 57, 58, 59, 60, 61, 62, 63, 64, 65, 66, 67, 68, 69, 70, 71, 72, 216, 217, 221, 222, 223, 224, 225, 226, 218, 219, 220] (by decide +kernel) (by decide +kernel)
set_option maxRecDepth 20000 in
theorem gX11_load_X4_addEntries : GoodIn wsX11_load (wsV RX11 201 RX4 yX4_addEntries wsX4_addEntries) := goodIn_app (goodIn_of _ (by decide +kernel)) ggX11_load_X4_addEntries
set_option maxRecDepth 20000 in
theorem ggX11_load_X2_push : GoodIn wsX11_load wsX2_push := goodIn_r _ [143, 144, 145, 146, 147, 148, 142, 149, 150, 151, 152, 153, 154, 74, 75, 76, 77, 78, 79, 80, 81, 82, 83, 84, 85, 86, 87, 88, 89, 36, 90, 91, 92, 93, 94, 95, 96, 97, 98, 99, 100, 101, 102, 103, 104, 105, 106, 107, 108, 109, 110, 111, 112, 113, 114, 115, 116, 236, 237, 214, 215, 218, 219, 220, 227, 228, 229, 230, 231, 232, 233, 234, 235] (by decide +kernel) (by decide +kernel)
set_option maxRecDepth 20000 in
theorem gX11_load_X2_push : GoodIn wsX11_load (wsV RX11 73 RX2 yX2_push wsX2_push) := goodIn_app (goodIn_of _ (by decide +kernel)) ggX11_load_X2_push
set_option maxRecDepth 20000 in
theorem ggX11_load_X1_copyFrom : GoodIn wsX11_load wsX1_copyFrom := goodIn_r _ [84, 85, 86, 87, 88, 89, 36, 90, 91, 92, 93, 94, 95, 96, 97, 98, 218, 219, 220] (by decide +kernel) (by decide +kernel)
set_option maxRecDepth 20000 in
theorem gX11_load_X1_copyFrom : GoodIn wsX11_load (wsV RX11 207 RX1 yX1_copyFrom wsX1_copyFrom) := goodIn_app (goodIn_of _ (by decide +kernel)) ggX11_load_X1_copyFrom
set_option maxRecDepth 20000 in
theorem ggX11_load_X8_translate : GoodIn wsX11_load wsX8_translate := goodIn_r _ [159, 79, 78, 160, 161, 162, 102, 163, 110, 109, 111, 108, 104, 105, 106, 107, 112, 164, 165, 166, 83, 167, 168, 92, 93, 94, 169, 170, 71, 171, 172, 35, 36, 37, 173, 70, 72, 174, 175, 176, 125, 126, 127, 128, 87, 85, 129, 130, 131, 177, 178, 179, 180, 181, 182, 183, 86, 184, 137, 138, 185, 186, 187, 188, 189, 190, 191, 192, 193, 194, 195, 196, 197, 198, 199, 200, 201, 202, 203, 204, 205, 206, 207, 214, 215, 227, 228, 229, 230, 231, 232, 233, 234, 235, 218, 219, 220] (by decide +kernel) (by decide +kernel)
set_option maxRecDepth 20000 in
theorem gX11_load_X8_translate : GoodIn wsX11_load (wsV RX11 99 RX8 yX8_translate wsX8_translate) := goodIn_app (goodIn_of _ (by decide +kernel)) ggX11_load_X8_translate
theorem dX11_load_0 : decode cX11_load 0 = .ok (.aload_n 0, 1) := by decide +kernel
theorem dX11_load_1 : decode cX11_load 1 = .ok (.getfield 36, 3) := by decide +kernel
theorem dX11_load_4 : decode cX11_load 4 = .ok (.aload_n 0, 1) := by decide +kernel
theorem dX11_load_5 : decode cX11_load 5 = .ok (.getfield 29, 3) := by decide +kernel
theorem dX11_load_8 : decode cX11_load 8 = .ok (.invokevirtual 192, 3) := by decide +kernel
theorem dX11_load_11 : decode cX11_load 11 = .ok (.ifCond .ne 13, 3) := by decide +kernel
theorem dX11_load_14 : decode cX11_load 14 = .ok (.new 51, 3) := by decide +kernel
theorem dX11_load_17 : decode cX11_load 17 = .ok (.dup, 1) := by decide +kernel
theorem dX11_load_18 : decode cX11_load 18 = .ok (.ldc 196, 2) := by decide +kernel
theorem dX11_load_20 : decode cX11_load 20 = .ok (.invokespecial 55, 3) := by decide +kernel
theorem dX11_load_23 : decode cX11_load 23 = .ok (.athrow, 1) := by decide +kernel
theorem dX11_load_24 : decode cX11_load 24 = .ok (.aload_n 0, 1) := by decide +kernel
theorem dX11_load_25 : decode cX11_load 25 = .ok (.getfield 16, 3) := by decide +kernel
theorem dX11_load_28 : decode cX11_load 28 = .ok (.aload_n 0, 1) := by decide +kernel
theorem dX11_load_29 : decode cX11_load 29 = .ok (.getfield 10, 3) := by decide +kernel
theorem dX11_load_32 : decode cX11_load 32 = .ok (.invokevirtual 198, 3) := by decide +kernel
theorem dX11_load_35 : decode cX11_load 35 = .ok (.aload_n 0, 1) := by decide +kernel
theorem dX11_load_36 : decode cX11_load 36 = .ok (.getfield 36, 3) := by decide +kernel
theorem dX11_load_39 : decode cX11_load 39 = .ok (.aload_n 0, 1) := by decide +kernel
theorem dX11_load_40 : decode cX11_load 40 = .ok (.getfield 29, 3) := by decide +kernel
theorem dX11_load_43 : decode cX11_load 43 = .ok (.aload_n 0, 1) := by decide +kernel
theorem dX11_load_44 : decode cX11_load 44 = .ok (.getfield 16, 3) := by decide +kernel
theorem dX11_load_47 : decode cX11_load 47 = .ok (.getfield 122, 3) := by decide +kernel
theorem dX11_load_50 : decode cX11_load 50 = .ok (.invokevirtual 201, 3) := by decide +kernel
theorem dX11_load_53 : decode cX11_load 53 = .ok (.ifCond .ne 13, 3) := by decide +kernel
theorem dX11_load_56 : decode cX11_load 56 = .ok (.new 68, 3) := by decide +kernel
theorem dX11_load_59 : decode cX11_load 59 = .ok (.dup, 1) := by decide +kernel
theorem dX11_load_60 : decode cX11_load 60 = .ok (.ldc 205, 2) := by decide +kernel
theorem dX11_load_62 : decode cX11_load 62 = .ok (.invokespecial 72, 3) := by decide +kernel
theorem dX11_load_65 : decode cX11_load 65 = .ok (.athrow, 1) := by decide +kernel
theorem dX11_load_66 : decode cX11_load 66 = .ok (.aload_n 0, 1) := by decide +kernel
theorem dX11_load_67 : decode cX11_load 67 = .ok (.getfield 22, 3) := by decide +kernel
theorem dX11_load_70 : decode cX11_load 70 = .ok (.aload_n 0, 1) := by decide +kernel
theorem dX11_load_71 : decode cX11_load 71 = .ok (.getfield 10, 3) := by decide +kernel
theorem dX11_load_74 : decode cX11_load 74 = .ok (.invokevirtual 73, 3) := by decide +kernel
theorem dX11_load_77 : decode cX11_load 77 = .ok (.aload_n 0, 1) := by decide +kernel
theorem dX11_load_78 : decode cX11_load 78 = .ok (.getfield 10, 3) := by decide +kernel
theorem dX11_load_81 : decode cX11_load 81 = .ok (.getfield 122, 3) := by decide +kernel
theorem dX11_load_84 : decode cX11_load 84 = .ok (.aload_n 0, 1) := by decide +kernel
theorem dX11_load_85 : decode cX11_load 85 = .ok (.getfield 16, 3) := by decide +kernel
theorem dX11_load_88 : decode cX11_load 88 = .ok (.getfield 122, 3) := by decide +kernel
theorem dX11_load_91 : decode cX11_load 91 = .ok (.invokevirtual 207, 3) := by decide +kernel
theorem dX11_load_94 : decode cX11_load 94 = .ok (.aload_n 0, 1) := by decide +kernel
theorem dX11_load_95 : decode cX11_load 95 = .ok (.getfield 10, 3) := by decide +kernel
theorem dX11_load_98 : decode cX11_load 98 = .ok (.invokevirtual 99, 3) := by decide +kernel
theorem dX11_load_101 : decode cX11_load 101 = .ok (.aload_n 0, 1) := by decide +kernel
theorem dX11_load_102 : decode cX11_load 102 = .ok (.getfield 29, 3) := by decide +kernel
theorem dX11_load_105 : decode cX11_load 105 = .ok (.iconst 0, 1) := by decide +kernel
theorem dX11_load_106 : decode cX11_load 106 = .ok (.putfield 181, 3) := by decide +kernel
theorem dX11_load_109 : decode cX11_load 109 = .ok (.aload_n 0, 1) := by decide +kernel
theorem dX11_load_110 : decode cX11_load 110 = .ok (.getfield 10, 3) := by decide +kernel
theorem dX11_load_113 : decode cX11_load 113 = .ok (.getfield 122, 3) := by decide +kernel
theorem dX11_load_116 : decode cX11_load 116 = .ok (.getfield 176, 3) := by decide +kernel
theorem dX11_load_119 : decode cX11_load 119 = .ok (.ireturn, 1) := by decide +kernel
set_option maxRecDepth 20000 in
theorem ggX11_undo_X2_pop : GoodIn wsX11_undo wsX2_pop := goodIn_r _ [10, 11, 12, 13, 14, 9, 15, 16, 17, 18, 19, 20, 21, 22, 23, 24, 25, 26, 27, 28, 29, 30, 31, 32, 33, 34, 35, 36, 37, 38, 39, 40, 41, 42, 43, 44, 45, 46, 47, 48, 49, 50, 51, 52, 53, 54, 55, 56, 57, 58, 59, 60, 61, 68, 69, 70, 71, 72, 73, 74, 75, 76, 77, 78, 79, 80, 81, 82, 83] (by decide +kernel) (by decide +kernel)
set_option maxRecDepth 20000 in
theorem gX11_undo_X2_pop : GoodIn wsX11_undo (wsV RX11 213 RX2 yX2_pop wsX2_pop) := goodIn_app (goodIn_of _ (by decide +kernel)) ggX11_undo_X2_pop
theorem dX11_undo_0 : decode cX11_undo 0 = .ok (.aload_n 0, 1) := by decide +kernel
theorem dX11_undo_1 : decode cX11_undo 1 = .ok (.getfield 22, 3) := by decide +kernel
theorem dX11_undo_4 : decode cX11_undo 4 = .ok (.getfield 210, 3) := by decide +kernel
theorem dX11_undo_7 : decode cX11_undo 7 = .ok (.ifCond .ne 13, 3) := by decide +kernel
theorem dX11_undo_10 : decode cX11_undo 10 = .ok (.new 68, 3) := by decide +kernel
theorem dX11_undo_13 : decode cX11_undo 13 = .ok (.dup, 1) := by decide +kernel
theorem dX11_undo_14 : decode cX11_undo 14 = .ok (.ldc 211, 2) := by decide +kernel
theorem dX11_undo_16 : decode cX11_undo 16 = .ok (.invokespecial 72, 3) := by decide +kernel
theorem dX11_undo_19 : decode cX11_undo 19 = .ok (.athrow, 1) := by decide +kernel
theorem dX11_undo_20 : decode cX11_undo 20 = .ok (.aload_n 0, 1) := by decide +kernel
theorem dX11_undo_21 : decode cX11_undo 21 = .ok (.getfield 22, 3) := by decide +kernel
theorem dX11_undo_24 : decode cX11_undo 24 = .ok (.aload_n 0, 1) := by decide +kernel
theorem dX11_undo_25 : decode cX11_undo 25 = .ok (.getfield 10, 3) := by decide +kernel
theorem dX11_undo_28 : decode cX11_undo 28 = .ok (.invokevirtual 213, 3) := by decide +kernel
theorem dX11_undo_31 : decode cX11_undo 31 = .ok (.aload_n 0, 1) := by decide +kernel
theorem dX11_undo_32 : decode cX11_undo 32 = .ok (.getfield 22, 3) := by decide +kernel
theorem dX11_undo_35 : decode cX11_undo 35 = .ok (.getfield 210, 3) := by decide +kernel
theorem dX11_undo_38 : decode cX11_undo 38 = .ok (.ireturn, 1) := by decide +kernel
set_option maxRecDepth 20000 in
theorem ggX11_strokeAt_X6_at : GoodIn wsX11_strokeAt wsX6_at := goodIn_r _ [12] (by decide +kernel) (by decide +kernel)
set_option maxRecDepth 20000 in
theorem gX11_strokeAt_X6_at : GoodIn wsX11_strokeAt (va_wsS RX11 90 yX6_at wsX6_at) := goodIn_app (goodIn_of _ (by decide +kernel)) ggX11_strokeAt_X6_at
set_option maxRecDepth 20000 in
theorem ggX11_strokeAt_J6_bitCount_0f7a4 : GoodIn wsX11_strokeAt wsJ6_bitCount_0f7a4 := goodIn_r _ [16, 17, 18, 19] (by decide +kernel) (by decide +kernel)
set_option maxRecDepth 20000 in
theorem gX11_strokeAt_J6_bitCount_0f7a4 : GoodIn wsX11_strokeAt (va_wsS RX11 220 yJ6_bitCount_0f7a4 wsJ6_bitCount_0f7a4) := goodIn_app (goodIn_of _ (by decide +kernel)) ggX11_strokeAt_J6_bitCount_0f7a4
set_option maxRecDepth 20000 in
theorem ggX11_strokeAt_X7_itemWith : GoodIn wsX11_strokeAt wsX7_itemWith := goodIn_r _ [24, 25, 26, 27, 28, 23, 29, 30, 31, 32, 10, 11, 12, 41, 42, 43, 44, 45, 46, 47, 48, 49] (by decide +kernel) (by decide +kernel)
set_option maxRecDepth 20000 in
theorem gX11_strokeAt_X7_itemWith : GoodIn wsX11_strokeAt (wsV RX11 225 RX7 yX7_itemWith wsX7_itemWith) := goodIn_app (goodIn_of _ (by decide +kernel)) ggX11_strokeAt_X7_itemWith
theorem dX11_strokeAt_0 : decode cX11_strokeAt 0 = .ok (.iload_n 1, 1) := by decide +kernel
theorem dX11_strokeAt_1 : decode cX11_strokeAt 1 = .ok (.ifCond .lt 17, 3) := by decide +kernel
theorem dX11_strokeAt_4 : decode cX11_strokeAt 4 = .ok (.iload_n 1, 1) := by decide +kernel
theorem dX11_strokeAt_5 : decode cX11_strokeAt 5 = .ok (.aload_n 0, 1) := by decide +kernel
theorem dX11_strokeAt_6 : decode cX11_strokeAt 6 = .ok (.getfield 10, 3) := by decide +kernel
theorem dX11_strokeAt_9 : decode cX11_strokeAt 9 = .ok (.getfield 58, 3) := by decide +kernel
theorem dX11_strokeAt_12 : decode cX11_strokeAt 12 = .ok (.getfield 62, 3) := by decide +kernel
theorem dX11_strokeAt_15 : decode cX11_strokeAt 15 = .ok (.if_icmp .lt 13, 3) := by decide +kernel
theorem dX11_strokeAt_18 : decode cX11_strokeAt 18 = .ok (.new 117, 3) := by decide +kernel
theorem dX11_strokeAt_21 : decode cX11_strokeAt 21 = .ok (.dup, 1) := by decide +kernel
theorem dX11_strokeAt_22 : decode cX11_strokeAt 22 = .ok (.ldc 216, 2) := by decide +kernel
theorem dX11_strokeAt_24 : decode cX11_strokeAt 24 = .ok (.invokespecial 121, 3) := by decide +kernel
theorem dX11_strokeAt_27 : decode cX11_strokeAt 27 = .ok (.athrow, 1) := by decide +kernel
theorem dX11_strokeAt_28 : decode cX11_strokeAt 28 = .ok (.iload_n 2, 1) := by decide +kernel
theorem dX11_strokeAt_29 : decode cX11_strokeAt 29 = .ok (.ifCond .lt 8, 3) := by decide +kernel
theorem dX11_strokeAt_32 : decode cX11_strokeAt 32 = .ok (.iload_n 2, 1) := by decide +kernel
theorem dX11_strokeAt_33 : decode cX11_strokeAt 33 = .ok (.iconst 3, 1) := by decide +kernel
theorem dX11_strokeAt_34 : decode cX11_strokeAt 34 = .ok (.if_icmp .lt 13, 3) := by decide +kernel
theorem dX11_strokeAt_37 : decode cX11_strokeAt 37 = .ok (.new 51, 3) := by decide +kernel
theorem dX11_strokeAt_40 : decode cX11_strokeAt 40 = .ok (.dup, 1) := by decide +kernel
theorem dX11_strokeAt_41 : decode cX11_strokeAt 41 = .ok (.ldc 218, 2) := by decide +kernel
theorem dX11_strokeAt_43 : decode cX11_strokeAt 43 = .ok (.invokespecial 55, 3) := by decide +kernel
theorem dX11_strokeAt_46 : decode cX11_strokeAt 46 = .ok (.athrow, 1) := by decide +kernel
theorem dX11_strokeAt_47 : decode cX11_strokeAt 47 = .ok (.aload_n 0, 1) := by decide +kernel
theorem dX11_strokeAt_48 : decode cX11_strokeAt 48 = .ok (.getfield 10, 3) := by decide +kernel
theorem dX11_strokeAt_51 : decode cX11_strokeAt 51 = .ok (.getfield 58, 3) := by decide +kernel
theorem dX11_strokeAt_54 : decode cX11_strokeAt 54 = .ok (.getfield 86, 3) := by decide +kernel
theorem dX11_strokeAt_57 : decode cX11_strokeAt 57 = .ok (.iload_n 1, 1) := by decide +kernel
theorem dX11_strokeAt_58 : decode cX11_strokeAt 58 = .ok (.invokestatic 90, 3) := by decide +kernel
theorem dX11_strokeAt_61 : decode cX11_strokeAt 61 = .ok (.istore_n 3, 1) := by decide +kernel
theorem dX11_strokeAt_62 : decode cX11_strokeAt 62 = .ok (.iload_n 2, 1) := by decide +kernel
theorem dX11_strokeAt_63 : decode cX11_strokeAt 63 = .ok (.lookupswitch 32 #[(0, 25), (1, 27)], 25) := by decide +kernel
theorem dX11_strokeAt_88 : decode cX11_strokeAt 88 = .ok (.iload_n 3, 1) := by decide +kernel
theorem dX11_strokeAt_89 : decode cX11_strokeAt 89 = .ok (.ireturn, 1) := by decide +kernel
theorem dX11_strokeAt_90 : decode cX11_strokeAt 90 = .ok (.iload_n 3, 1) := by decide +kernel
theorem dX11_strokeAt_91 : decode cX11_strokeAt 91 = .ok (.invokestatic 220, 3) := by decide +kernel
theorem dX11_strokeAt_94 : decode cX11_strokeAt 94 = .ok (.ireturn, 1) := by decide +kernel
theorem dX11_strokeAt_95 : decode cX11_strokeAt 95 = .ok (.aload_n 0, 1) := by decide +kernel
theorem dX11_strokeAt_96 : decode cX11_strokeAt 96 = .ok (.getfield 10, 3) := by decide +kernel
theorem dX11_strokeAt_99 : decode cX11_strokeAt 99 = .ok (.getfield 58, 3) := by decide +kernel
theorem dX11_strokeAt_102 : decode cX11_strokeAt 102 = .ok (.iload_n 1, 1) := by decide +kernel
theorem dX11_strokeAt_103 : decode cX11_strokeAt 103 = .ok (.invokevirtual 225, 3) := by decide +kernel
theorem dX11_strokeAt_106 : decode cX11_strokeAt 106 = .ok (.ireturn, 1) := by decide +kernel
set_option maxRecDepth 20000 in
theorem ggX11_item_X11_isItem : GoodIn wsX11_item wsX11_isItem := goodIn_r _ [13, 5, 6, 14, 68, 69, 70, 71, 72, 73, 74, 75, 76, 77, 78, 79, 80, 81, 82, 83, 84] (by decide +kernel) (by decide +kernel)
set_option maxRecDepth 20000 in
theorem gX11_item_X11_isItem : GoodIn wsX11_item (wsV RX11 147 RX11 yX11_isItem wsX11_isItem) := goodIn_app (goodIn_of _ (by decide +kernel)) ggX11_item_X11_isItem
set_option maxRecDepth 20000 in
theorem ggX11_item_X7_lettersOf : GoodIn wsX11_item wsX7_lettersOf := goodIn_r _ [19, 20, 21, 22, 23, 24, 25, 26, 27, 28, 18, 29, 30, 31, 32, 33, 34, 35, 36, 37, 38, 39, 40, 41, 42, 43, 44, 45, 46, 47, 48, 49, 76, 77, 78, 79, 80, 81, 82, 83, 84] (by decide +kernel) (by decide +kernel)
set_option maxRecDepth 20000 in
theorem gX11_item_X7_lettersOf : GoodIn wsX11_item (wsV RX11 228 RX7 yX7_lettersOf wsX7_lettersOf) := goodIn_app (goodIn_of _ (by decide +kernel)) ggX11_item_X7_lettersOf
set_option maxRecDepth 20000 in
theorem ggX11_item_X7_firstOf : GoodIn wsX11_item wsX7_firstOf := goodIn_r _ [29, 30, 31, 32, 33, 34, 24, 35, 76, 77, 78, 79, 80, 81, 82, 83, 84] (by decide +kernel) (by decide +kernel)
set_option maxRecDepth 20000 in
theorem gX11_item_X7_firstOf : GoodIn wsX11_item (wsV RX11 152 RX7 yX7_firstOf wsX7_firstOf) := goodIn_app (goodIn_of _ (by decide +kernel)) ggX11_item_X7_firstOf
set_option maxRecDepth 20000 in
theorem ggX11_item_X7_strokesOf : GoodIn wsX11_item wsX7_strokesOf := goodIn_r _ [54, 26, 27, 28, 18, 29, 30, 31, 32, 33, 34, 24, 35, 76, 77, 78, 79, 80, 81, 82, 83, 84] (by decide +kernel) (by decide +kernel)
set_option maxRecDepth 20000 in
theorem gX11_item_X7_strokesOf : GoodIn wsX11_item (wsV RX11 233 RX7 yX7_strokesOf wsX7_strokesOf) := goodIn_app (goodIn_of _ (by decide +kernel)) ggX11_item_X7_strokesOf
set_option maxRecDepth 20000 in
theorem ggX11_item_X6_at : GoodIn wsX11_item wsX6_at := goodIn_r _ [35] (by decide +kernel) (by decide +kernel)
set_option maxRecDepth 20000 in
theorem gX11_item_X6_at : GoodIn wsX11_item (va_wsS RX11 90 yX6_at wsX6_at) := goodIn_app (goodIn_of _ (by decide +kernel)) ggX11_item_X6_at
set_option maxRecDepth 20000 in
theorem ggX11_item_X7_letterOf : GoodIn wsX11_item wsX7_letterOf := goodIn_r _ [59, 20, 21, 22, 23, 24, 25, 26, 27, 28, 18, 29, 30, 31, 32, 33, 34, 35, 60, 61, 62, 63, 64, 65, 66, 67, 48, 45, 49, 76, 77, 78, 79, 80, 81, 82, 83, 84] (by decide +kernel) (by decide +kernel)
set_option maxRecDepth 20000 in
theorem gX11_item_X7_letterOf : GoodIn wsX11_item (wsV RX11 242 RX7 yX7_letterOf wsX7_letterOf) := goodIn_app (goodIn_of _ (by decide +kernel)) ggX11_item_X7_letterOf
theorem dX11_item_0 : decode cX11_item 0 = .ok (.aload_n 0, 1) := by decide +kernel
theorem dX11_item_1 : decode cX11_item 1 = .ok (.iload_n 1, 1) := by decide +kernel
theorem dX11_item_2 : decode cX11_item 2 = .ok (.invokevirtual 147, 3) := by decide +kernel
theorem dX11_item_5 : decode cX11_item 5 = .ok (.ifCond .ne 13, 3) := by decide +kernel
theorem dX11_item_8 : decode cX11_item 8 = .ok (.new 117, 3) := by decide +kernel
theorem dX11_item_11 : decode cX11_item 11 = .ok (.dup, 1) := by decide +kernel
theorem dX11_item_12 : decode cX11_item 12 = .ok (.ldc 150, 2) := by decide +kernel
theorem dX11_item_14 : decode cX11_item 14 = .ok (.invokespecial 121, 3) := by decide +kernel
theorem dX11_item_17 : decode cX11_item 17 = .ok (.athrow, 1) := by decide +kernel
theorem dX11_item_18 : decode cX11_item 18 = .ok (.aload_n 0, 1) := by decide +kernel
theorem dX11_item_19 : decode cX11_item 19 = .ok (.getfield 10, 3) := by decide +kernel
theorem dX11_item_22 : decode cX11_item 22 = .ok (.getfield 58, 3) := by decide +kernel
theorem dX11_item_25 : decode cX11_item 25 = .ok (.iload_n 1, 1) := by decide +kernel
theorem dX11_item_26 : decode cX11_item 26 = .ok (.invokevirtual 228, 3) := by decide +kernel
theorem dX11_item_29 : decode cX11_item 29 = .ok (.istore_n 3, 1) := by decide +kernel
theorem dX11_item_30 : decode cX11_item 30 = .ok (.iload_n 2, 1) := by decide +kernel
theorem dX11_item_31 : decode cX11_item 31 = .ok (.ifCond .lt 10, 3) := by decide +kernel
theorem dX11_item_34 : decode cX11_item 34 = .ok (.iload_n 2, 1) := by decide +kernel
theorem dX11_item_35 : decode cX11_item 35 = .ok (.iconst 5, 1) := by decide +kernel
theorem dX11_item_36 : decode cX11_item 36 = .ok (.iload_n 3, 1) := by decide +kernel
theorem dX11_item_37 : decode cX11_item 37 = .ok (.iadd, 1) := by decide +kernel
theorem dX11_item_38 : decode cX11_item 38 = .ok (.if_icmp .lt 13, 3) := by decide +kernel
theorem dX11_item_41 : decode cX11_item 41 = .ok (.new 51, 3) := by decide +kernel
theorem dX11_item_44 : decode cX11_item 44 = .ok (.dup, 1) := by decide +kernel
theorem dX11_item_45 : decode cX11_item 45 = .ok (.ldc 231, 2) := by decide +kernel
theorem dX11_item_47 : decode cX11_item 47 = .ok (.invokespecial 55, 3) := by decide +kernel
theorem dX11_item_50 : decode cX11_item 50 = .ok (.athrow, 1) := by decide +kernel
theorem dX11_item_51 : decode cX11_item 51 = .ok (.iload_n 2, 1) := by decide +kernel
theorem dX11_item_52 : decode cX11_item 52 = .ok (.tableswitch 97 0 4 #[36, 48, 60, 75, 95], 36) := by decide +kernel
theorem dX11_item_88 : decode cX11_item 88 = .ok (.aload_n 0, 1) := by decide +kernel
theorem dX11_item_89 : decode cX11_item 89 = .ok (.getfield 10, 3) := by decide +kernel
theorem dX11_item_92 : decode cX11_item 92 = .ok (.getfield 58, 3) := by decide +kernel
theorem dX11_item_95 : decode cX11_item 95 = .ok (.iload_n 1, 1) := by decide +kernel
theorem dX11_item_96 : decode cX11_item 96 = .ok (.invokevirtual 152, 3) := by decide +kernel
theorem dX11_item_99 : decode cX11_item 99 = .ok (.ireturn, 1) := by decide +kernel
theorem dX11_item_100 : decode cX11_item 100 = .ok (.aload_n 0, 1) := by decide +kernel
theorem dX11_item_101 : decode cX11_item 101 = .ok (.getfield 10, 3) := by decide +kernel
theorem dX11_item_104 : decode cX11_item 104 = .ok (.getfield 58, 3) := by decide +kernel
theorem dX11_item_107 : decode cX11_item 107 = .ok (.iload_n 1, 1) := by decide +kernel
theorem dX11_item_108 : decode cX11_item 108 = .ok (.invokevirtual 233, 3) := by decide +kernel
theorem dX11_item_111 : decode cX11_item 111 = .ok (.ireturn, 1) := by decide +kernel
theorem dX11_item_112 : decode cX11_item 112 = .ok (.aload_n 0, 1) := by decide +kernel
theorem dX11_item_113 : decode cX11_item 113 = .ok (.getfield 10, 3) := by decide +kernel
theorem dX11_item_116 : decode cX11_item 116 = .ok (.getfield 58, 3) := by decide +kernel
theorem dX11_item_119 : decode cX11_item 119 = .ok (.getfield 236, 3) := by decide +kernel
theorem dX11_item_122 : decode cX11_item 122 = .ok (.iload_n 1, 1) := by decide +kernel
theorem dX11_item_123 : decode cX11_item 123 = .ok (.invokestatic 90, 3) := by decide +kernel
theorem dX11_item_126 : decode cX11_item 126 = .ok (.ireturn, 1) := by decide +kernel
theorem dX11_item_127 : decode cX11_item 127 = .ok (.iload_n 1, 1) := by decide +kernel
theorem dX11_item_128 : decode cX11_item 128 = .ok (.aload_n 0, 1) := by decide +kernel
theorem dX11_item_129 : decode cX11_item 129 = .ok (.getfield 10, 3) := by decide +kernel
theorem dX11_item_132 : decode cX11_item 132 = .ok (.getfield 58, 3) := by decide +kernel
theorem dX11_item_135 : decode cX11_item 135 = .ok (.getfield 239, 3) := by decide +kernel
theorem dX11_item_138 : decode cX11_item 138 = .ok (.if_icmp .ge 7, 3) := by decide +kernel
theorem dX11_item_141 : decode cX11_item 141 = .ok (.iconst 1, 1) := by decide +kernel
theorem dX11_item_142 : decode cX11_item 142 = .ok (.goto 4, 3) := by decide +kernel
theorem dX11_item_145 : decode cX11_item 145 = .ok (.iconst 0, 1) := by decide +kernel
theorem dX11_item_146 : decode cX11_item 146 = .ok (.ireturn, 1) := by decide +kernel
theorem dX11_item_147 : decode cX11_item 147 = .ok (.iload_n 3, 1) := by decide +kernel
theorem dX11_item_148 : decode cX11_item 148 = .ok (.ireturn, 1) := by decide +kernel
theorem dX11_item_149 : decode cX11_item 149 = .ok (.aload_n 0, 1) := by decide +kernel
theorem dX11_item_150 : decode cX11_item 150 = .ok (.getfield 10, 3) := by decide +kernel
theorem dX11_item_153 : decode cX11_item 153 = .ok (.getfield 58, 3) := by decide +kernel
theorem dX11_item_156 : decode cX11_item 156 = .ok (.iload_n 1, 1) := by decide +kernel
theorem dX11_item_157 : decode cX11_item 157 = .ok (.iload_n 2, 1) := by decide +kernel
theorem dX11_item_158 : decode cX11_item 158 = .ok (.iconst 5, 1) := by decide +kernel
theorem dX11_item_159 : decode cX11_item 159 = .ok (.isub, 1) := by decide +kernel
theorem dX11_item_160 : decode cX11_item 160 = .ok (.invokevirtual 242, 3) := by decide +kernel
theorem dX11_item_163 : decode cX11_item 163 = .ok (.ireturn, 1) := by decide +kernel
set_option maxRecDepth 20000 in
theorem ggX11_entry_X11_isEntry : GoodIn wsX11_entry wsX11_isEntry := goodIn_r _ [12, 5, 6, 13, 93, 94, 95, 96, 97, 98, 99, 100, 101, 102, 103] (by decide +kernel) (by decide +kernel)
set_option maxRecDepth 20000 in
theorem gX11_entry_X11_isEntry : GoodIn wsX11_entry (wsV RX11 114 RX11 yX11_isEntry wsX11_isEntry) := goodIn_app (goodIn_of _ (by decide +kernel)) ggX11_entry_X11_isEntry
set_option maxRecDepth 20000 in
theorem ggX11_entry_X1_outlineOf : GoodIn wsX11_entry wsX1_outlineOf := goodIn_r _ [18, 19, 20, 21, 22, 23, 101, 102, 103] (by decide +kernel) (by decide +kernel)
set_option maxRecDepth 20000 in
theorem gX11_entry_X1_outlineOf : GoodIn wsX11_entry (wsV RX11 248 RX1 yX1_outlineOf wsX1_outlineOf) := goodIn_app (goodIn_of _ (by decide +kernel)) ggX11_entry_X1_outlineOf
set_option maxRecDepth 20000 in
theorem ggX11_entry_X1_wordOf : GoodIn wsX11_entry wsX1_wordOf := goodIn_r _ [27, 28, 20, 21, 22, 23, 101, 102, 103] (by decide +kernel) (by decide +kernel)
set_option maxRecDepth 20000 in
theorem gX11_entry_X1_wordOf : GoodIn wsX11_entry (wsV RX11 131 RX1 yX1_wordOf wsX1_wordOf) := goodIn_app (goodIn_of _ (by decide +kernel)) ggX11_entry_X1_wordOf
set_option maxRecDepth 20000 in
theorem ggX11_entry_X5_length : GoodIn wsX11_entry wsX5_length := goodIn_r _ [32, 33, 34, 31, 35] (by decide +kernel) (by decide +kernel)
set_option maxRecDepth 20000 in
theorem gX11_entry_X5_length : GoodIn wsX11_entry (va_wsS RX11 251 yX5_length wsX5_length) := goodIn_app (goodIn_of _ (by decide +kernel)) ggX11_entry_X5_length
set_option maxRecDepth 20000 in
theorem ggX11_entry_X5_strokeOf : GoodIn wsX11_entry wsX5_strokeOf := goodIn_r _ [35] (by decide +kernel) (by decide +kernel)
set_option maxRecDepth 20000 in
theorem gX11_entry_X5_strokeOf : GoodIn wsX11_entry (va_wsS RX11 254 yX5_strokeOf wsX5_strokeOf) := goodIn_app (goodIn_of _ (by decide +kernel)) ggX11_entry_X5_strokeOf
set_option maxRecDepth 20000 in
theorem ggX11_entry_X11_noneForZero : GoodIn wsX11_entry wsX11_noneForZero := goodIn_r _ [39] (by decide +kernel) (by decide +kernel)
set_option maxRecDepth 20000 in
theorem gX11_entry_X11_noneForZero : GoodIn wsX11_entry (va_wsS RX11 258 yX11_noneForZero wsX11_noneForZero) := goodIn_app (goodIn_of _ (by decide +kernel)) ggX11_entry_X11_noneForZero
set_option maxRecDepth 20000 in
theorem ggX11_entry_X9_length : GoodIn wsX11_entry wsX9_length := goodIn_r _ [43, 44, 45, 42, 46] (by decide +kernel) (by decide +kernel)
set_option maxRecDepth 20000 in
theorem gX11_entry_X9_length : GoodIn wsX11_entry (va_wsS RX11 261 yX9_length wsX9_length) := goodIn_app (goodIn_of _ (by decide +kernel)) ggX11_entry_X9_length
set_option maxRecDepth 20000 in
theorem ggX11_entry_X1_clashOf : GoodIn wsX11_entry wsX1_clashOf := goodIn_r _ [50, 51, 15, 16, 17, 18, 19, 20, 21, 22, 23, 52, 53, 54, 55, 56, 57, 30, 31, 32, 33, 34, 35, 58, 59, 60, 61, 62, 63, 64, 65, 66, 67, 68, 69, 70, 71, 72, 73, 74, 75, 76, 77, 78, 79, 80, 25, 26, 27, 28, 101, 102, 103] (by decide +kernel) (by decide +kernel)
set_option maxRecDepth 20000 in
theorem gX11_entry_X1_clashOf : GoodIn wsX11_entry (wsV RX11 264 RX1 yX1_clashOf wsX1_clashOf) := goodIn_app (goodIn_of _ (by decide +kernel)) ggX11_entry_X1_clashOf
set_option maxRecDepth 20000 in
theorem ggX11_entry_X7_openItemsOf : GoodIn wsX11_entry wsX7_openItemsOf := goodIn_r _ [85, 86, 87, 88, 89, 90, 22, 91, 104, 105, 106, 107, 108, 109, 110, 111, 112] (by decide +kernel) (by decide +kernel)
set_option maxRecDepth 20000 in
theorem gX11_entry_X7_openItemsOf : GoodIn wsX11_entry (wsV RX11 143 RX7 yX7_openItemsOf wsX7_openItemsOf) := goodIn_app (goodIn_of _ (by decide +kernel)) ggX11_entry_X7_openItemsOf
set_option maxRecDepth 20000 in
theorem ggX11_entry_X9_letterOf : GoodIn wsX11_entry wsX9_letterOf := goodIn_r _ [46] (by decide +kernel) (by decide +kernel)
set_option maxRecDepth 20000 in
theorem gX11_entry_X9_letterOf : GoodIn wsX11_entry (va_wsS RX11 267 yX9_letterOf wsX9_letterOf) := goodIn_app (goodIn_of _ (by decide +kernel)) ggX11_entry_X9_letterOf
theorem dX11_entry_0 : decode cX11_entry 0 = .ok (.aload_n 0, 1) := by decide +kernel
theorem dX11_entry_1 : decode cX11_entry 1 = .ok (.iload_n 1, 1) := by decide +kernel
theorem dX11_entry_2 : decode cX11_entry 2 = .ok (.invokevirtual 114, 3) := by decide +kernel
theorem dX11_entry_5 : decode cX11_entry 5 = .ok (.ifCond .ne 13, 3) := by decide +kernel
theorem dX11_entry_8 : decode cX11_entry 8 = .ok (.new 117, 3) := by decide +kernel
theorem dX11_entry_11 : decode cX11_entry 11 = .ok (.dup, 1) := by decide +kernel
theorem dX11_entry_12 : decode cX11_entry 12 = .ok (.ldc 119, 2) := by decide +kernel
theorem dX11_entry_14 : decode cX11_entry 14 = .ok (.invokespecial 121, 3) := by decide +kernel
theorem dX11_entry_17 : decode cX11_entry 17 = .ok (.athrow, 1) := by decide +kernel
theorem dX11_entry_18 : decode cX11_entry 18 = .ok (.iload_n 2, 1) := by decide +kernel
theorem dX11_entry_19 : decode cX11_entry 19 = .ok (.ifCond .lt 9, 3) := by decide +kernel
theorem dX11_entry_22 : decode cX11_entry 22 = .ok (.iload_n 2, 1) := by decide +kernel
theorem dX11_entry_23 : decode cX11_entry 23 = .ok (.bipush 16, 2) := by decide +kernel
theorem dX11_entry_25 : decode cX11_entry 25 = .ok (.if_icmp .lt 13, 3) := by decide +kernel
theorem dX11_entry_28 : decode cX11_entry 28 = .ok (.new 51, 3) := by decide +kernel
theorem dX11_entry_31 : decode cX11_entry 31 = .ok (.dup, 1) := by decide +kernel
theorem dX11_entry_32 : decode cX11_entry 32 = .ok (.ldc 246, 2) := by decide +kernel
theorem dX11_entry_34 : decode cX11_entry 34 = .ok (.invokespecial 55, 3) := by decide +kernel
theorem dX11_entry_37 : decode cX11_entry 37 = .ok (.athrow, 1) := by decide +kernel
theorem dX11_entry_38 : decode cX11_entry 38 = .ok (.aload_n 0, 1) := by decide +kernel
theorem dX11_entry_39 : decode cX11_entry 39 = .ok (.getfield 10, 3) := by decide +kernel
theorem dX11_entry_42 : decode cX11_entry 42 = .ok (.getfield 122, 3) := by decide +kernel
theorem dX11_entry_45 : decode cX11_entry 45 = .ok (.iload_n 1, 1) := by decide +kernel
theorem dX11_entry_46 : decode cX11_entry 46 = .ok (.invokevirtual 248, 3) := by decide +kernel
theorem dX11_entry_49 : decode cX11_entry 49 = .ok (.lstore_n 3, 1) := by decide +kernel
theorem dX11_entry_50 : decode cX11_entry 50 = .ok (.aload_n 0, 1) := by decide +kernel
theorem dX11_entry_51 : decode cX11_entry 51 = .ok (.getfield 10, 3) := by decide +kernel
theorem dX11_entry_54 : decode cX11_entry 54 = .ok (.getfield 122, 3) := by decide +kernel
theorem dX11_entry_57 : decode cX11_entry 57 = .ok (.iload_n 1, 1) := by decide +kernel
theorem dX11_entry_58 : decode cX11_entry 58 = .ok (.invokevirtual 131, 3) := by decide +kernel
theorem dX11_entry_61 : decode cX11_entry 61 = .ok (.lstore 5, 2) := by decide +kernel
theorem dX11_entry_63 : decode cX11_entry 63 = .ok (.iload_n 2, 1) := by decide +kernel
theorem dX11_entry_64 : decode cX11_entry 64 = .ok (.tableswitch 94 0 7 #[48, 53, 53, 53, 53, 64, 70, 82], 48) := by decide +kernel
theorem dX11_entry_112 : decode cX11_entry 112 = .ok (.lload_n 3, 1) := by decide +kernel
theorem dX11_entry_113 : decode cX11_entry 113 = .ok (.invokestatic 251, 3) := by decide +kernel
theorem dX11_entry_116 : decode cX11_entry 116 = .ok (.ireturn, 1) := by decide +kernel
theorem dX11_entry_117 : decode cX11_entry 117 = .ok (.lload_n 3, 1) := by decide +kernel
theorem dX11_entry_118 : decode cX11_entry 118 = .ok (.iload_n 2, 1) := by decide +kernel
theorem dX11_entry_119 : decode cX11_entry 119 = .ok (.iconst 1, 1) := by decide +kernel
theorem dX11_entry_120 : decode cX11_entry 120 = .ok (.isub, 1) := by decide +kernel
theorem dX11_entry_121 : decode cX11_entry 121 = .ok (.invokestatic 254, 3) := by decide +kernel
theorem dX11_entry_124 : decode cX11_entry 124 = .ok (.invokestatic 258, 3) := by decide +kernel
theorem dX11_entry_127 : decode cX11_entry 127 = .ok (.ireturn, 1) := by decide +kernel
theorem dX11_entry_128 : decode cX11_entry 128 = .ok (.lload 5, 2) := by decide +kernel
theorem dX11_entry_130 : decode cX11_entry 130 = .ok (.invokestatic 261, 3) := by decide +kernel
theorem dX11_entry_133 : decode cX11_entry 133 = .ok (.ireturn, 1) := by decide +kernel
theorem dX11_entry_134 : decode cX11_entry 134 = .ok (.aload_n 0, 1) := by decide +kernel
theorem dX11_entry_135 : decode cX11_entry 135 = .ok (.getfield 10, 3) := by decide +kernel
theorem dX11_entry_138 : decode cX11_entry 138 = .ok (.getfield 122, 3) := by decide +kernel
theorem dX11_entry_141 : decode cX11_entry 141 = .ok (.iload_n 1, 1) := by decide +kernel
theorem dX11_entry_142 : decode cX11_entry 142 = .ok (.invokevirtual 264, 3) := by decide +kernel
theorem dX11_entry_145 : decode cX11_entry 145 = .ok (.ireturn, 1) := by decide +kernel
theorem dX11_entry_146 : decode cX11_entry 146 = .ok (.aload_n 0, 1) := by decide +kernel
theorem dX11_entry_147 : decode cX11_entry 147 = .ok (.getfield 10, 3) := by decide +kernel
theorem dX11_entry_150 : decode cX11_entry 150 = .ok (.getfield 58, 3) := by decide +kernel
theorem dX11_entry_153 : decode cX11_entry 153 = .ok (.iload_n 1, 1) := by decide +kernel
theorem dX11_entry_154 : decode cX11_entry 154 = .ok (.invokevirtual 143, 3) := by decide +kernel
theorem dX11_entry_157 : decode cX11_entry 157 = .ok (.ireturn, 1) := by decide +kernel
theorem dX11_entry_158 : decode cX11_entry 158 = .ok (.lload 5, 2) := by decide +kernel
theorem dX11_entry_160 : decode cX11_entry 160 = .ok (.iload_n 2, 1) := by decide +kernel
theorem dX11_entry_161 : decode cX11_entry 161 = .ok (.bipush 8, 2) := by decide +kernel
theorem dX11_entry_163 : decode cX11_entry 163 = .ok (.isub, 1) := by decide +kernel
theorem dX11_entry_164 : decode cX11_entry 164 = .ok (.invokestatic 267, 3) := by decide +kernel
theorem dX11_entry_167 : decode cX11_entry 167 = .ok (.invokestatic 258, 3) := by decide +kernel
theorem dX11_entry_170 : decode cX11_entry 170 = .ok (.ireturn, 1) := by decide +kernel
set_option maxRecDepth 20000 in
theorem ggX11_count_X7_openStrokes : GoodIn wsX11_count wsX7_openStrokes := goodIn_r _ [17, 18, 19, 125, 126, 127, 128, 129, 130, 131, 132, 133] (by decide +kernel) (by decide +kernel)
set_option maxRecDepth 20000 in
theorem gX11_count_X7_openStrokes : GoodIn wsX11_count (wsV RX11 271 RX7 yX7_openStrokes wsX7_openStrokes) := goodIn_app (goodIn_of _ (by decide +kernel)) ggX11_count_X7_openStrokes
set_option maxRecDepth 20000 in
theorem ggX11_count_X7_allLetters : GoodIn wsX11_count wsX7_allLetters := goodIn_r _ [23, 24, 25, 26, 27, 16, 28, 29, 30, 31, 32, 33, 34, 35, 36, 37, 38, 39, 18, 40, 41, 42, 43, 44, 45, 46, 47, 48, 49, 50, 51, 52, 53, 54, 55, 56, 125, 126, 127, 128, 129, 130, 131, 132, 133] (by decide +kernel) (by decide +kernel)
set_option maxRecDepth 20000 in
theorem gX11_count_X7_allLetters : GoodIn wsX11_count (wsV RX11 274 RX7 yX7_allLetters wsX7_allLetters) := goodIn_app (goodIn_of _ (by decide +kernel)) ggX11_count_X7_allLetters
set_option maxRecDepth 20000 in
theorem ggX11_count_X7_openItemsOf : GoodIn wsX11_count wsX7_openItemsOf := goodIn_r _ [60, 61, 24, 62, 40, 41, 33, 42, 125, 126, 127, 128, 129, 130, 131, 132, 133] (by decide +kernel) (by decide +kernel)
set_option maxRecDepth 20000 in
theorem gX11_count_X7_openItemsOf : GoodIn wsX11_count (wsV RX11 143 RX7 yX7_openItemsOf wsX7_openItemsOf) := goodIn_app (goodIn_of _ (by decide +kernel)) ggX11_count_X7_openItemsOf
set_option maxRecDepth 20000 in
theorem ggX11_count_X1_clashes : GoodIn wsX11_count wsX1_clashes := goodIn_r _ [67, 68, 69, 70, 71, 66, 72, 73, 74, 75, 76, 77, 78, 32, 33, 34, 79, 80, 81, 82, 83, 84, 85, 86, 87, 88, 89, 90, 91, 92, 93, 94, 95, 96, 97, 98, 99, 100, 101, 102, 103, 104, 105, 106, 107, 108, 109, 110, 111, 112, 113, 114, 115, 116, 134, 135, 136] (by decide +kernel) (by decide +kernel)
set_option maxRecDepth 20000 in
theorem gX11_count_X1_clashes : GoodIn wsX11_count (wsV RX11 277 RX1 yX1_clashes wsX1_clashes) := goodIn_app (goodIn_of _ (by decide +kernel)) ggX11_count_X1_clashes
theorem dX11_count_0 : decode cX11_count 0 = .ok (.iload_n 1, 1) := by decide +kernel
theorem dX11_count_1 : decode cX11_count 1 = .ok (.ifCond .lt 9, 3) := by decide +kernel
theorem dX11_count_4 : decode cX11_count 4 = .ok (.iload_n 1, 1) := by decide +kernel
theorem dX11_count_5 : decode cX11_count 5 = .ok (.bipush 10, 2) := by decide +kernel
theorem dX11_count_7 : decode cX11_count 7 = .ok (.if_icmp .lt 14, 3) := by decide +kernel
theorem dX11_count_10 : decode cX11_count 10 = .ok (.new 51, 3) := by decide +kernel
theorem dX11_count_13 : decode cX11_count 13 = .ok (.dup, 1) := by decide +kernel
theorem dX11_count_14 : decode cX11_count 14 = .ok (.ldc_w 269, 3) := by decide +kernel
theorem dX11_count_17 : decode cX11_count 17 = .ok (.invokespecial 55, 3) := by decide +kernel
theorem dX11_count_20 : decode cX11_count 20 = .ok (.athrow, 1) := by decide +kernel
theorem dX11_count_21 : decode cX11_count 21 = .ok (.iload_n 1, 1) := by decide +kernel
theorem dX11_count_22 : decode cX11_count 22 = .ok (.tableswitch 150 0 8 #[50, 61, 72, 83, 94, 105, 116, 127, 139], 50) := by decide +kernel
theorem dX11_count_72 : decode cX11_count 72 = .ok (.aload_n 0, 1) := by decide +kernel
theorem dX11_count_73 : decode cX11_count 73 = .ok (.getfield 10, 3) := by decide +kernel
theorem dX11_count_76 : decode cX11_count 76 = .ok (.getfield 58, 3) := by decide +kernel
theorem dX11_count_79 : decode cX11_count 79 = .ok (.getfield 62, 3) := by decide +kernel
theorem dX11_count_82 : decode cX11_count 82 = .ok (.ireturn, 1) := by decide +kernel
theorem dX11_count_83 : decode cX11_count 83 = .ok (.aload_n 0, 1) := by decide +kernel
theorem dX11_count_84 : decode cX11_count 84 = .ok (.getfield 10, 3) := by decide +kernel
theorem dX11_count_87 : decode cX11_count 87 = .ok (.getfield 58, 3) := by decide +kernel
theorem dX11_count_90 : decode cX11_count 90 = .ok (.getfield 81, 3) := by decide +kernel
theorem dX11_count_93 : decode cX11_count 93 = .ok (.ireturn, 1) := by decide +kernel
theorem dX11_count_94 : decode cX11_count 94 = .ok (.aload_n 0, 1) := by decide +kernel
theorem dX11_count_95 : decode cX11_count 95 = .ok (.getfield 10, 3) := by decide +kernel
theorem dX11_count_98 : decode cX11_count 98 = .ok (.getfield 58, 3) := by decide +kernel
theorem dX11_count_101 : decode cX11_count 101 = .ok (.getfield 239, 3) := by decide +kernel
theorem dX11_count_104 : decode cX11_count 104 = .ok (.ireturn, 1) := by decide +kernel
theorem dX11_count_105 : decode cX11_count 105 = .ok (.aload_n 0, 1) := by decide +kernel
theorem dX11_count_106 : decode cX11_count 106 = .ok (.getfield 10, 3) := by decide +kernel
theorem dX11_count_109 : decode cX11_count 109 = .ok (.getfield 58, 3) := by decide +kernel
theorem dX11_count_112 : decode cX11_count 112 = .ok (.invokevirtual 271, 3) := by decide +kernel
theorem dX11_count_115 : decode cX11_count 115 = .ok (.ireturn, 1) := by decide +kernel
theorem dX11_count_116 : decode cX11_count 116 = .ok (.aload_n 0, 1) := by decide +kernel
theorem dX11_count_117 : decode cX11_count 117 = .ok (.getfield 10, 3) := by decide +kernel
theorem dX11_count_120 : decode cX11_count 120 = .ok (.getfield 122, 3) := by decide +kernel
theorem dX11_count_123 : decode cX11_count 123 = .ok (.getfield 176, 3) := by decide +kernel
theorem dX11_count_126 : decode cX11_count 126 = .ok (.ireturn, 1) := by decide +kernel
theorem dX11_count_127 : decode cX11_count 127 = .ok (.aload_n 0, 1) := by decide +kernel
theorem dX11_count_128 : decode cX11_count 128 = .ok (.getfield 10, 3) := by decide +kernel
theorem dX11_count_131 : decode cX11_count 131 = .ok (.getfield 58, 3) := by decide +kernel
theorem dX11_count_134 : decode cX11_count 134 = .ok (.getfield 111, 3) := by decide +kernel
theorem dX11_count_137 : decode cX11_count 137 = .ok (.ireturn, 1) := by decide +kernel
theorem dX11_count_138 : decode cX11_count 138 = .ok (.aload_n 0, 1) := by decide +kernel
theorem dX11_count_139 : decode cX11_count 139 = .ok (.getfield 10, 3) := by decide +kernel
theorem dX11_count_142 : decode cX11_count 142 = .ok (.getfield 58, 3) := by decide +kernel
theorem dX11_count_145 : decode cX11_count 145 = .ok (.invokevirtual 274, 3) := by decide +kernel
theorem dX11_count_148 : decode cX11_count 148 = .ok (.ireturn, 1) := by decide +kernel
theorem dX11_count_149 : decode cX11_count 149 = .ok (.aload_n 0, 1) := by decide +kernel
theorem dX11_count_150 : decode cX11_count 150 = .ok (.getfield 10, 3) := by decide +kernel
theorem dX11_count_153 : decode cX11_count 153 = .ok (.getfield 58, 3) := by decide +kernel
theorem dX11_count_156 : decode cX11_count 156 = .ok (.iconst (-1), 1) := by decide +kernel
theorem dX11_count_157 : decode cX11_count 157 = .ok (.invokevirtual 143, 3) := by decide +kernel
theorem dX11_count_160 : decode cX11_count 160 = .ok (.ireturn, 1) := by decide +kernel
theorem dX11_count_161 : decode cX11_count 161 = .ok (.aload_n 0, 1) := by decide +kernel
theorem dX11_count_162 : decode cX11_count 162 = .ok (.getfield 10, 3) := by decide +kernel
theorem dX11_count_165 : decode cX11_count 165 = .ok (.getfield 122, 3) := by decide +kernel
theorem dX11_count_168 : decode cX11_count 168 = .ok (.invokevirtual 277, 3) := by decide +kernel
theorem dX11_count_171 : decode cX11_count 171 = .ok (.ireturn, 1) := by decide +kernel
theorem dX11_count_172 : decode cX11_count 172 = .ok (.aload_n 0, 1) := by decide +kernel
theorem dX11_count_173 : decode cX11_count 173 = .ok (.getfield 22, 3) := by decide +kernel
theorem dX11_count_176 : decode cX11_count 176 = .ok (.getfield 210, 3) := by decide +kernel
theorem dX11_count_179 : decode cX11_count 179 = .ok (.ireturn, 1) := by decide +kernel
set_option maxRecDepth 20000 in
theorem ggX11_ifStroke_X11_isStroke : GoodIn wsX11_ifStroke wsX11_isStroke := goodIn_r _ [11] (by decide +kernel) (by decide +kernel)
set_option maxRecDepth 20000 in
theorem gX11_ifStroke_X11_isStroke : GoodIn wsX11_ifStroke (va_wsS RX11 47 yX11_isStroke wsX11_isStroke) := goodIn_app (goodIn_of _ (by decide +kernel)) ggX11_ifStroke_X11_isStroke
set_option maxRecDepth 20000 in
theorem ggX11_ifStroke_X8_copyFrom : GoodIn wsX11_ifStroke wsX8_copyFrom := goodIn_r _ [16, 17, 18, 19, 20, 21, 22, 23, 24, 25, 26, 27, 28, 29, 30, 31, 32, 33, 34, 35, 36, 37, 38, 39, 40, 41, 42, 43, 44, 45, 46, 47, 48, 49, 50, 51, 52, 53, 54, 55, 56, 164, 165, 175, 176, 177, 166, 167, 168, 169, 170, 171, 172, 173, 174] (by decide +kernel) (by decide +kernel)
set_option maxRecDepth 20000 in
theorem gX11_ifStroke_X8_copyFrom : GoodIn wsX11_ifStroke (wsV RX11 198 RX8 yX8_copyFrom wsX8_copyFrom) := goodIn_app (goodIn_of _ (by decide +kernel)) ggX11_ifStroke_X8_copyFrom
set_option maxRecDepth 20000 in
theorem ggX11_ifStroke_X8_press : GoodIn wsX11_ifStroke wsX8_press := goodIn_r _ [60, 18, 61, 62, 63, 42, 64, 44, 48, 65, 66, 29, 67, 68, 69, 70, 15, 71, 17, 72, 73, 74, 75, 50, 49, 51, 45, 46, 47, 52, 76, 77, 78, 22, 79, 80, 32, 33, 34, 81, 82, 83, 84, 85, 86, 87, 88, 89, 90, 91, 92, 93, 94, 95, 96, 97, 26, 24, 98, 99, 100, 101, 102, 103, 104, 25, 105, 106, 107, 108, 109, 110, 111, 112, 113, 114, 115, 116, 117, 118, 119, 120, 121, 122, 123, 124, 125, 126, 127, 128, 129, 130, 164, 165, 166, 167, 168, 169, 170, 171, 172, 173, 174, 175, 176, 177] (by decide +kernel) (by decide +kernel)
set_option maxRecDepth 20000 in
theorem gX11_ifStroke_X8_press : GoodIn wsX11_ifStroke (wsV RX11 77 RX8 yX8_press wsX8_press) := goodIn_app (goodIn_of _ (by decide +kernel)) ggX11_ifStroke_X8_press
set_option maxRecDepth 20000 in
theorem ggX11_ifStroke_X7_allLetters : GoodIn wsX11_ifStroke wsX7_allLetters := goodIn_r _ [134, 49, 135, 136, 137, 42, 138, 47, 44, 139, 99, 29, 100, 126, 127, 128, 129, 45, 48, 130, 86, 87, 140, 141, 142, 143, 144, 145, 146, 147, 148, 149, 150, 151, 152, 153, 166, 167, 168, 169, 170, 171, 172, 173, 174] (by decide +kernel) (by decide +kernel)
set_option maxRecDepth 20000 in
theorem gX11_ifStroke_X7_allLetters : GoodIn wsX11_ifStroke (wsV RX11 274 RX7 yX7_allLetters wsX7_allLetters) := goodIn_app (goodIn_of _ (by decide +kernel)) ggX11_ifStroke_X7_allLetters
set_option maxRecDepth 20000 in
theorem ggX11_ifStroke_X7_strokesOf : GoodIn wsX11_ifStroke wsX7_strokesOf := goodIn_r _ [157, 126, 127, 128, 42, 129, 49, 45, 48, 130, 86, 29, 87, 166, 167, 168, 169, 170, 171, 172, 173, 174] (by decide +kernel) (by decide +kernel)
set_option maxRecDepth 20000 in
theorem gX11_ifStroke_X7_strokesOf : GoodIn wsX11_ifStroke (wsV RX11 233 RX7 yX7_strokesOf wsX7_strokesOf) := goodIn_app (goodIn_of _ (by decide +kernel)) ggX11_ifStroke_X7_strokesOf
theorem dX11_ifStroke_0 : decode cX11_ifStroke 0 = .ok (.iload_n 1, 1) := by decide +kernel
theorem dX11_ifStroke_1 : decode cX11_ifStroke 1 = .ok (.invokestatic 47, 3) := by decide +kernel
theorem dX11_ifStroke_4 : decode cX11_ifStroke 4 = .ok (.ifCond .eq 12, 3) := by decide +kernel
theorem dX11_ifStroke_7 : decode cX11_ifStroke 7 = .ok (.iload_n 2, 1) := by decide +kernel
theorem dX11_ifStroke_8 : decode cX11_ifStroke 8 = .ok (.ifCond .lt 8, 3) := by decide +kernel
theorem dX11_ifStroke_11 : decode cX11_ifStroke 11 = .ok (.iload_n 2, 1) := by decide +kernel
theorem dX11_ifStroke_12 : decode cX11_ifStroke 12 = .ok (.iconst 4, 1) := by decide +kernel
theorem dX11_ifStroke_13 : decode cX11_ifStroke 13 = .ok (.if_icmp .lt 14, 3) := by decide +kernel
theorem dX11_ifStroke_16 : decode cX11_ifStroke 16 = .ok (.new 51, 3) := by decide +kernel
theorem dX11_ifStroke_19 : decode cX11_ifStroke 19 = .ok (.dup, 1) := by decide +kernel
theorem dX11_ifStroke_20 : decode cX11_ifStroke 20 = .ok (.ldc_w 280, 3) := by decide +kernel
theorem dX11_ifStroke_23 : decode cX11_ifStroke 23 = .ok (.invokespecial 55, 3) := by decide +kernel
theorem dX11_ifStroke_26 : decode cX11_ifStroke 26 = .ok (.athrow, 1) := by decide +kernel
theorem dX11_ifStroke_27 : decode cX11_ifStroke 27 = .ok (.aload_n 0, 1) := by decide +kernel
theorem dX11_ifStroke_28 : decode cX11_ifStroke 28 = .ok (.getfield 16, 3) := by decide +kernel
theorem dX11_ifStroke_31 : decode cX11_ifStroke 31 = .ok (.aload_n 0, 1) := by decide +kernel
theorem dX11_ifStroke_32 : decode cX11_ifStroke 32 = .ok (.getfield 10, 3) := by decide +kernel
theorem dX11_ifStroke_35 : decode cX11_ifStroke 35 = .ok (.invokevirtual 198, 3) := by decide +kernel
theorem dX11_ifStroke_38 : decode cX11_ifStroke 38 = .ok (.aload_n 0, 1) := by decide +kernel
theorem dX11_ifStroke_39 : decode cX11_ifStroke 39 = .ok (.getfield 16, 3) := by decide +kernel
theorem dX11_ifStroke_42 : decode cX11_ifStroke 42 = .ok (.iload_n 1, 1) := by decide +kernel
theorem dX11_ifStroke_43 : decode cX11_ifStroke 43 = .ok (.invokevirtual 77, 3) := by decide +kernel
theorem dX11_ifStroke_46 : decode cX11_ifStroke 46 = .ok (.iload_n 2, 1) := by decide +kernel
theorem dX11_ifStroke_47 : decode cX11_ifStroke 47 = .ok (.tableswitch 58 0 2 #[25, 36, 47], 25) := by decide +kernel
theorem dX11_ifStroke_72 : decode cX11_ifStroke 72 = .ok (.aload_n 0, 1) := by decide +kernel
theorem dX11_ifStroke_73 : decode cX11_ifStroke 73 = .ok (.getfield 16, 3) := by decide +kernel
theorem dX11_ifStroke_76 : decode cX11_ifStroke 76 = .ok (.getfield 58, 3) := by decide +kernel
theorem dX11_ifStroke_79 : decode cX11_ifStroke 79 = .ok (.getfield 81, 3) := by decide +kernel
theorem dX11_ifStroke_82 : decode cX11_ifStroke 82 = .ok (.ireturn, 1) := by decide +kernel
theorem dX11_ifStroke_83 : decode cX11_ifStroke 83 = .ok (.aload_n 0, 1) := by decide +kernel
theorem dX11_ifStroke_84 : decode cX11_ifStroke 84 = .ok (.getfield 16, 3) := by decide +kernel
theorem dX11_ifStroke_87 : decode cX11_ifStroke 87 = .ok (.getfield 58, 3) := by decide +kernel
theorem dX11_ifStroke_90 : decode cX11_ifStroke 90 = .ok (.getfield 239, 3) := by decide +kernel
theorem dX11_ifStroke_93 : decode cX11_ifStroke 93 = .ok (.ireturn, 1) := by decide +kernel
theorem dX11_ifStroke_94 : decode cX11_ifStroke 94 = .ok (.aload_n 0, 1) := by decide +kernel
theorem dX11_ifStroke_95 : decode cX11_ifStroke 95 = .ok (.getfield 16, 3) := by decide +kernel
theorem dX11_ifStroke_98 : decode cX11_ifStroke 98 = .ok (.getfield 58, 3) := by decide +kernel
theorem dX11_ifStroke_101 : decode cX11_ifStroke 101 = .ok (.invokevirtual 274, 3) := by decide +kernel
theorem dX11_ifStroke_104 : decode cX11_ifStroke 104 = .ok (.ireturn, 1) := by decide +kernel
theorem dX11_ifStroke_105 : decode cX11_ifStroke 105 = .ok (.aload_n 0, 1) := by decide +kernel
theorem dX11_ifStroke_106 : decode cX11_ifStroke 106 = .ok (.getfield 16, 3) := by decide +kernel
theorem dX11_ifStroke_109 : decode cX11_ifStroke 109 = .ok (.getfield 58, 3) := by decide +kernel
theorem dX11_ifStroke_112 : decode cX11_ifStroke 112 = .ok (.aload_n 0, 1) := by decide +kernel
theorem dX11_ifStroke_113 : decode cX11_ifStroke 113 = .ok (.getfield 16, 3) := by decide +kernel
theorem dX11_ifStroke_116 : decode cX11_ifStroke 116 = .ok (.getfield 58, 3) := by decide +kernel
theorem dX11_ifStroke_119 : decode cX11_ifStroke 119 = .ok (.getfield 81, 3) := by decide +kernel
theorem dX11_ifStroke_122 : decode cX11_ifStroke 122 = .ok (.iconst 1, 1) := by decide +kernel
theorem dX11_ifStroke_123 : decode cX11_ifStroke 123 = .ok (.isub, 1) := by decide +kernel
theorem dX11_ifStroke_124 : decode cX11_ifStroke 124 = .ok (.invokevirtual 233, 3) := by decide +kernel
theorem dX11_ifStroke_127 : decode cX11_ifStroke 127 = .ok (.ireturn, 1) := by decide +kernel
set_option maxRecDepth 20000 in
theorem ggX11_ifRemoved_X11_isEntry : GoodIn wsX11_ifRemoved wsX11_isEntry := goodIn_r _ [11, 4, 5, 12, 135, 136, 137, 138, 139, 140, 141, 142, 143, 144, 145] (by decide +kernel) (by decide +kernel)
set_option maxRecDepth 20000 in
theorem gX11_ifRemoved_X11_isEntry : GoodIn wsX11_ifRemoved (wsV RX11 114 RX11 yX11_isEntry wsX11_isEntry) := goodIn_app (goodIn_of _ (by decide +kernel)) ggX11_ifRemoved_X11_isEntry
set_option maxRecDepth 20000 in
theorem ggX11_ifRemoved_X8_copyFrom : GoodIn wsX11_ifRemoved wsX8_copyFrom := goodIn_r _ [17, 18, 19, 20, 21, 22, 23, 24, 25, 26, 27, 28, 29, 30, 31, 32, 33, 34, 35, 36, 37, 38, 39, 40, 41, 42, 43, 44, 45, 46, 47, 48, 49, 50, 51, 52, 53, 54, 55, 56, 57, 141, 142, 143, 144, 145, 146, 147, 148, 149, 150, 151, 152, 153, 154] (by decide +kernel) (by decide +kernel)
set_option maxRecDepth 20000 in
theorem gX11_ifRemoved_X8_copyFrom : GoodIn wsX11_ifRemoved (wsV RX11 198 RX8 yX8_copyFrom wsX8_copyFrom) := goodIn_app (goodIn_of _ (by decide +kernel)) ggX11_ifRemoved_X8_copyFrom
set_option maxRecDepth 20000 in
theorem ggX11_ifRemoved_X1_remove : GoodIn wsX11_ifRemoved wsX1_remove := goodIn_r _ [61, 27, 25, 26, 62, 63, 64, 23, 65, 66, 67, 30, 68, 69, 70, 71, 72, 73, 74, 75, 143, 144, 145] (by decide +kernel) (by decide +kernel)
set_option maxRecDepth 20000 in
theorem gX11_ifRemoved_X1_remove : GoodIn wsX11_ifRemoved (wsV RX11 126 RX1 yX1_remove wsX1_remove) := goodIn_app (goodIn_of _ (by decide +kernel)) ggX11_ifRemoved_X1_remove
set_option maxRecDepth 20000 in
theorem ggX11_ifRemoved_X8_translate : GoodIn wsX11_ifRemoved wsX8_translate := goodIn_r _ [79, 19, 18, 80, 81, 82, 43, 83, 51, 50, 52, 49, 45, 46, 47, 48, 53, 84, 85, 86, 23, 87, 88, 33, 34, 35, 89, 90, 91, 92, 93, 94, 30, 95, 96, 97, 98, 99, 100, 101, 102, 103, 104, 105, 27, 25, 66, 67, 68, 106, 107, 108, 109, 73, 74, 75, 26, 110, 70, 71, 111, 63, 64, 65, 112, 113, 114, 115, 116, 117, 118, 119, 120, 121, 122, 123, 124, 125, 126, 127, 128, 129, 130, 141, 142, 146, 147, 148, 149, 150, 151, 152, 153, 154, 143, 144, 145] (by decide +kernel) (by decide +kernel)
set_option maxRecDepth 20000 in
theorem gX11_ifRemoved_X8_translate : GoodIn wsX11_ifRemoved (wsV RX11 99 RX8 yX8_translate wsX8_translate) := goodIn_app (goodIn_of _ (by decide +kernel)) ggX11_ifRemoved_X8_translate
set_option maxRecDepth 20000 in
theorem ggX11_ifRemoved_X7_openItems : GoodIn wsX11_ifRemoved wsX7_openItems := goodIn_r _ [134, 50, 51, 146, 147, 148, 149, 150, 151, 152, 153, 154] (by decide +kernel) (by decide +kernel)
set_option maxRecDepth 20000 in
theorem gX11_ifRemoved_X7_openItems : GoodIn wsX11_ifRemoved (wsV RX11 102 RX7 yX7_openItems wsX7_openItems) := goodIn_app (goodIn_of _ (by decide +kernel)) ggX11_ifRemoved_X7_openItems
theorem dX11_ifRemoved_0 : decode cX11_ifRemoved 0 = .ok (.aload_n 0, 1) := by decide +kernel
theorem dX11_ifRemoved_1 : decode cX11_ifRemoved 1 = .ok (.iload_n 1, 1) := by decide +kernel
theorem dX11_ifRemoved_2 : decode cX11_ifRemoved 2 = .ok (.invokevirtual 114, 3) := by decide +kernel
theorem dX11_ifRemoved_5 : decode cX11_ifRemoved 5 = .ok (.ifCond .ne 13, 3) := by decide +kernel
theorem dX11_ifRemoved_8 : decode cX11_ifRemoved 8 = .ok (.new 117, 3) := by decide +kernel
theorem dX11_ifRemoved_11 : decode cX11_ifRemoved 11 = .ok (.dup, 1) := by decide +kernel
theorem dX11_ifRemoved_12 : decode cX11_ifRemoved 12 = .ok (.ldc 119, 2) := by decide +kernel
theorem dX11_ifRemoved_14 : decode cX11_ifRemoved 14 = .ok (.invokespecial 121, 3) := by decide +kernel
theorem dX11_ifRemoved_17 : decode cX11_ifRemoved 17 = .ok (.athrow, 1) := by decide +kernel
theorem dX11_ifRemoved_18 : decode cX11_ifRemoved 18 = .ok (.aload_n 0, 1) := by decide +kernel
theorem dX11_ifRemoved_19 : decode cX11_ifRemoved 19 = .ok (.getfield 16, 3) := by decide +kernel
theorem dX11_ifRemoved_22 : decode cX11_ifRemoved 22 = .ok (.aload_n 0, 1) := by decide +kernel
theorem dX11_ifRemoved_23 : decode cX11_ifRemoved 23 = .ok (.getfield 10, 3) := by decide +kernel
theorem dX11_ifRemoved_26 : decode cX11_ifRemoved 26 = .ok (.invokevirtual 198, 3) := by decide +kernel
theorem dX11_ifRemoved_29 : decode cX11_ifRemoved 29 = .ok (.aload_n 0, 1) := by decide +kernel
theorem dX11_ifRemoved_30 : decode cX11_ifRemoved 30 = .ok (.getfield 16, 3) := by decide +kernel
theorem dX11_ifRemoved_33 : decode cX11_ifRemoved 33 = .ok (.getfield 122, 3) := by decide +kernel
theorem dX11_ifRemoved_36 : decode cX11_ifRemoved 36 = .ok (.iload_n 1, 1) := by decide +kernel
theorem dX11_ifRemoved_37 : decode cX11_ifRemoved 37 = .ok (.invokevirtual 126, 3) := by decide +kernel
theorem dX11_ifRemoved_40 : decode cX11_ifRemoved 40 = .ok (.aload_n 0, 1) := by decide +kernel
theorem dX11_ifRemoved_41 : decode cX11_ifRemoved 41 = .ok (.getfield 16, 3) := by decide +kernel
theorem dX11_ifRemoved_44 : decode cX11_ifRemoved 44 = .ok (.invokevirtual 99, 3) := by decide +kernel
theorem dX11_ifRemoved_47 : decode cX11_ifRemoved 47 = .ok (.aload_n 0, 1) := by decide +kernel
theorem dX11_ifRemoved_48 : decode cX11_ifRemoved 48 = .ok (.getfield 16, 3) := by decide +kernel
theorem dX11_ifRemoved_51 : decode cX11_ifRemoved 51 = .ok (.getfield 58, 3) := by decide +kernel
theorem dX11_ifRemoved_54 : decode cX11_ifRemoved 54 = .ok (.invokevirtual 102, 3) := by decide +kernel
theorem dX11_ifRemoved_57 : decode cX11_ifRemoved 57 = .ok (.ireturn, 1) := by decide +kernel
set_option maxRecDepth 20000 in
theorem ggX11_fewestStrokes_X10_fewestFor : GoodIn wsX11_fewestStrokes wsX10_fewestFor := goodIn_r _ [9, 10, 11, 12, 13, 14, 15, 16, 17, 18, 19, 8, 20, 21, 22, 23, 24, 25, 26, 27, 28, 29, 30, 31, 32, 33, 34, 35, 36, 37, 38, 39, 40, 41, 42, 43, 44, 45, 46, 47, 48, 49, 50, 51, 52, 53, 54, 55, 56, 57, 58, 59, 60, 61, 70, 71, 72, 73, 74, 75, 76, 77] (by decide +kernel) (by decide +kernel)
set_option maxRecDepth 20000 in
theorem gX11_fewestStrokes_X10_fewestFor : GoodIn wsX11_fewestStrokes (wsV RX11 282 RX10 yX10_fewestFor wsX10_fewestFor) := goodIn_app (goodIn_of _ (by decide +kernel)) ggX11_fewestStrokes_X10_fewestFor
theorem dX11_fewestStrokes_0 : decode cX11_fewestStrokes 0 = .ok (.aload_n 0, 1) := by decide +kernel
theorem dX11_fewestStrokes_1 : decode cX11_fewestStrokes 1 = .ok (.getfield 43, 3) := by decide +kernel
theorem dX11_fewestStrokes_4 : decode cX11_fewestStrokes 4 = .ok (.aload_n 0, 1) := by decide +kernel
theorem dX11_fewestStrokes_5 : decode cX11_fewestStrokes 5 = .ok (.getfield 29, 3) := by decide +kernel
theorem dX11_fewestStrokes_8 : decode cX11_fewestStrokes 8 = .ok (.aload_n 0, 1) := by decide +kernel
theorem dX11_fewestStrokes_9 : decode cX11_fewestStrokes 9 = .ok (.getfield 10, 3) := by decide +kernel
theorem dX11_fewestStrokes_12 : decode cX11_fewestStrokes 12 = .ok (.getfield 122, 3) := by decide +kernel
theorem dX11_fewestStrokes_15 : decode cX11_fewestStrokes 15 = .ok (.invokevirtual 282, 3) := by decide +kernel
theorem dX11_fewestStrokes_18 : decode cX11_fewestStrokes 18 = .ok (.ireturn, 1) := by decide +kernel
set_option maxRecDepth 20000 in
theorem ggX11_readsBack_X10_fewestFor : GoodIn wsX11_readsBack wsX10_fewestFor := goodIn_r _ [9, 10, 11, 12, 13, 14, 15, 16, 17, 18, 19, 8, 20, 21, 22, 23, 24, 25, 26, 27, 28, 29, 30, 31, 32, 33, 34, 35, 36, 37, 38, 39, 40, 41, 42, 43, 44, 45, 46, 47, 48, 49, 50, 51, 52, 53, 54, 55, 56, 57, 58, 59, 60, 61, 112, 113, 114, 115, 116, 117, 118, 119] (by decide +kernel) (by decide +kernel)
set_option maxRecDepth 20000 in
theorem gX11_readsBack_X10_fewestFor : GoodIn wsX11_readsBack (wsV RX11 282 RX10 yX10_fewestFor wsX10_fewestFor) := goodIn_app (goodIn_of _ (by decide +kernel)) ggX11_readsBack_X10_fewestFor
set_option maxRecDepth 20000 in
theorem ggX11_readsBack_X10_write : GoodIn wsX11_readsBack wsX10_write := goodIn_r _ [65, 66, 11, 67, 68, 69, 8, 70, 12, 10, 17, 18, 19, 20, 21, 22, 23, 24, 25, 26, 27, 28, 15, 29, 30, 31, 32, 33, 34, 35, 36, 37, 38, 39, 40, 41, 42, 43, 44, 45, 46, 47, 48, 49, 50, 51, 52, 53, 54, 55, 56, 57, 58, 59, 60, 61, 71, 72, 73, 74, 75, 76, 13, 14, 16, 112, 113, 114, 115, 116, 117, 118, 119] (by decide +kernel) (by decide +kernel)
set_option maxRecDepth 20000 in
theorem gX11_readsBack_X10_write : GoodIn wsX11_readsBack (wsV RX11 286 RX10 yX10_write wsX10_write) := goodIn_app (goodIn_of _ (by decide +kernel)) ggX11_readsBack_X10_write
set_option maxRecDepth 20000 in
theorem ggX11_readsBack_X10_isReadAs : GoodIn wsX11_readsBack wsX10_isReadAs := goodIn_r _ [80, 75, 66, 11, 81, 82, 83, 24, 84, 85, 86, 87, 88, 89, 90, 57, 91, 92, 45, 15, 46, 93, 94, 95, 96, 97, 98, 99, 100, 101, 102, 103, 54, 27, 28, 29, 21, 22, 23, 25, 26, 30, 31, 32, 33, 34, 35, 36, 37, 38, 39, 40, 41, 42, 43, 44, 47, 48, 50, 51, 52, 53, 55, 56, 58, 59, 60, 61, 112, 113, 114, 115, 116, 117, 118, 119] (by decide +kernel) (by decide +kernel)
set_option maxRecDepth 20000 in
theorem gX11_readsBack_X10_isReadAs : GoodIn wsX11_readsBack (wsV RX11 290 RX10 yX10_isReadAs wsX10_isReadAs) := goodIn_app (goodIn_of _ (by decide +kernel)) ggX11_readsBack_X10_isReadAs
theorem dX11_readsBack_0 : decode cX11_readsBack 0 = .ok (.aload_n 0, 1) := by decide +kernel
theorem dX11_readsBack_1 : decode cX11_readsBack 1 = .ok (.getfield 43, 3) := by decide +kernel
theorem dX11_readsBack_4 : decode cX11_readsBack 4 = .ok (.aload_n 0, 1) := by decide +kernel
theorem dX11_readsBack_5 : decode cX11_readsBack 5 = .ok (.getfield 29, 3) := by decide +kernel
theorem dX11_readsBack_8 : decode cX11_readsBack 8 = .ok (.aload_n 0, 1) := by decide +kernel
theorem dX11_readsBack_9 : decode cX11_readsBack 9 = .ok (.getfield 10, 3) := by decide +kernel
theorem dX11_readsBack_12 : decode cX11_readsBack 12 = .ok (.getfield 122, 3) := by decide +kernel
theorem dX11_readsBack_15 : decode cX11_readsBack 15 = .ok (.invokevirtual 282, 3) := by decide +kernel
theorem dX11_readsBack_18 : decode cX11_readsBack 18 = .ok (.iconst (-1), 1) := by decide +kernel
theorem dX11_readsBack_19 : decode cX11_readsBack 19 = .ok (.if_icmp .ne 5, 3) := by decide +kernel
theorem dX11_readsBack_22 : decode cX11_readsBack 22 = .ok (.iconst (-1), 1) := by decide +kernel
theorem dX11_readsBack_23 : decode cX11_readsBack 23 = .ok (.ireturn, 1) := by decide +kernel
theorem dX11_readsBack_24 : decode cX11_readsBack 24 = .ok (.aload_n 0, 1) := by decide +kernel
theorem dX11_readsBack_25 : decode cX11_readsBack 25 = .ok (.getfield 43, 3) := by decide +kernel
theorem dX11_readsBack_28 : decode cX11_readsBack 28 = .ok (.aload_n 0, 1) := by decide +kernel
theorem dX11_readsBack_29 : decode cX11_readsBack 29 = .ok (.getfield 29, 3) := by decide +kernel
theorem dX11_readsBack_32 : decode cX11_readsBack 32 = .ok (.aload_n 0, 1) := by decide +kernel
theorem dX11_readsBack_33 : decode cX11_readsBack 33 = .ok (.getfield 10, 3) := by decide +kernel
theorem dX11_readsBack_36 : decode cX11_readsBack 36 = .ok (.getfield 122, 3) := by decide +kernel
theorem dX11_readsBack_39 : decode cX11_readsBack 39 = .ok (.invokevirtual 286, 3) := by decide +kernel
theorem dX11_readsBack_42 : decode cX11_readsBack 42 = .ok (.aload_n 0, 1) := by decide +kernel
theorem dX11_readsBack_43 : decode cX11_readsBack 43 = .ok (.getfield 43, 3) := by decide +kernel
theorem dX11_readsBack_46 : decode cX11_readsBack 46 = .ok (.aload_n 0, 1) := by decide +kernel
theorem dX11_readsBack_47 : decode cX11_readsBack 47 = .ok (.getfield 29, 3) := by decide +kernel
theorem dX11_readsBack_50 : decode cX11_readsBack 50 = .ok (.aload_n 0, 1) := by decide +kernel
theorem dX11_readsBack_51 : decode cX11_readsBack 51 = .ok (.getfield 10, 3) := by decide +kernel
theorem dX11_readsBack_54 : decode cX11_readsBack 54 = .ok (.getfield 122, 3) := by decide +kernel
theorem dX11_readsBack_57 : decode cX11_readsBack 57 = .ok (.invokevirtual 290, 3) := by decide +kernel
theorem dX11_readsBack_60 : decode cX11_readsBack 60 = .ok (.ifCond .eq 7, 3) := by decide +kernel
theorem dX11_readsBack_63 : decode cX11_readsBack 63 = .ok (.iconst 1, 1) := by decide +kernel
theorem dX11_readsBack_64 : decode cX11_readsBack 64 = .ok (.goto 4, 3) := by decide +kernel
theorem dX11_readsBack_67 : decode cX11_readsBack 67 = .ok (.iconst 0, 1) := by decide +kernel
theorem dX11_readsBack_68 : decode cX11_readsBack 68 = .ok (.ireturn, 1) := by decide +kernel
set_option maxRecDepth 20000 in
theorem ggX11_shortest_X11_isEntry : GoodIn wsX11_shortest wsX11_isEntry := goodIn_r _ [9, 3, 4, 10, 49, 50, 51, 52, 53, 54, 55, 56, 57, 58, 59] (by decide +kernel) (by decide +kernel)
set_option maxRecDepth 20000 in
theorem gX11_shortest_X11_isEntry : GoodIn wsX11_shortest (wsV RX11 114 RX11 yX11_isEntry wsX11_isEntry) := goodIn_app (goodIn_of _ (by decide +kernel)) ggX11_shortest_X11_isEntry
set_option maxRecDepth 20000 in
theorem ggX11_shortest_X1_shortestLike : GoodIn wsX11_shortest wsX1_shortestLike := goodIn_r _ [15, 16, 17, 18, 19, 14, 20, 21, 22, 23, 24, 25, 26, 27, 28, 29, 30, 31, 32, 33, 34, 35, 36, 37, 38, 39, 40, 41, 42, 43, 44, 45, 46, 47, 48, 57, 58, 59] (by decide +kernel) (by decide +kernel)
set_option maxRecDepth 20000 in
theorem gX11_shortest_X1_shortestLike : GoodIn wsX11_shortest (wsV RX11 293 RX1 yX1_shortestLike wsX1_shortestLike) := goodIn_app (goodIn_of _ (by decide +kernel)) ggX11_shortest_X1_shortestLike
theorem dX11_shortest_0 : decode cX11_shortest 0 = .ok (.aload_n 0, 1) := by decide +kernel
theorem dX11_shortest_1 : decode cX11_shortest 1 = .ok (.iload_n 1, 1) := by decide +kernel
theorem dX11_shortest_2 : decode cX11_shortest 2 = .ok (.invokevirtual 114, 3) := by decide +kernel
theorem dX11_shortest_5 : decode cX11_shortest 5 = .ok (.ifCond .ne 13, 3) := by decide +kernel
theorem dX11_shortest_8 : decode cX11_shortest 8 = .ok (.new 117, 3) := by decide +kernel
theorem dX11_shortest_11 : decode cX11_shortest 11 = .ok (.dup, 1) := by decide +kernel
theorem dX11_shortest_12 : decode cX11_shortest 12 = .ok (.ldc 119, 2) := by decide +kernel
theorem dX11_shortest_14 : decode cX11_shortest 14 = .ok (.invokespecial 121, 3) := by decide +kernel
theorem dX11_shortest_17 : decode cX11_shortest 17 = .ok (.athrow, 1) := by decide +kernel
theorem dX11_shortest_18 : decode cX11_shortest 18 = .ok (.aload_n 0, 1) := by decide +kernel
theorem dX11_shortest_19 : decode cX11_shortest 19 = .ok (.getfield 10, 3) := by decide +kernel
theorem dX11_shortest_22 : decode cX11_shortest 22 = .ok (.getfield 122, 3) := by decide +kernel
theorem dX11_shortest_25 : decode cX11_shortest 25 = .ok (.iload_n 1, 1) := by decide +kernel
theorem dX11_shortest_26 : decode cX11_shortest 26 = .ok (.invokevirtual 293, 3) := by decide +kernel
theorem dX11_shortest_29 : decode cX11_shortest 29 = .ok (.ireturn, 1) := by decide +kernel
set_option maxRecDepth 20000 in
theorem ggX11_lettersPerStroke_X7_allLetters : GoodIn wsX11_lettersPerStroke wsX7_allLetters := goodIn_r _ [8, 9, 10, 11, 12, 7, 13, 14, 15, 16, 17, 18, 19, 20, 21, 22, 23, 24, 25, 26, 27, 28, 29, 30, 31, 32, 33, 34, 35, 36, 37, 38, 39, 40, 41, 42, 51, 52, 53, 54, 55, 56, 57, 58, 59] (by decide +kernel) (by decide +kernel)
set_option maxRecDepth 20000 in
theorem gX11_lettersPerStroke_X7_allLetters : GoodIn wsX11_lettersPerStroke (wsV RX11 274 RX7 yX7_allLetters wsX7_allLetters) := goodIn_app (goodIn_of _ (by decide +kernel)) ggX11_lettersPerStroke_X7_allLetters
theorem dX11_lettersPerStroke_0 : decode cX11_lettersPerStroke 0 = .ok (.aload_n 0, 1) := by decide +kernel
theorem dX11_lettersPerStroke_1 : decode cX11_lettersPerStroke 1 = .ok (.getfield 10, 3) := by decide +kernel
theorem dX11_lettersPerStroke_4 : decode cX11_lettersPerStroke 4 = .ok (.getfield 58, 3) := by decide +kernel
theorem dX11_lettersPerStroke_7 : decode cX11_lettersPerStroke 7 = .ok (.getfield 62, 3) := by decide +kernel
theorem dX11_lettersPerStroke_10 : decode cX11_lettersPerStroke 10 = .ok (.istore_n 1, 1) := by decide +kernel
theorem dX11_lettersPerStroke_11 : decode cX11_lettersPerStroke 11 = .ok (.iload_n 1, 1) := by decide +kernel
theorem dX11_lettersPerStroke_12 : decode cX11_lettersPerStroke 12 = .ok (.ifCond .ne 7, 3) := by decide +kernel
theorem dX11_lettersPerStroke_15 : decode cX11_lettersPerStroke 15 = .ok (.dconst 0, 1) := by decide +kernel
theorem dX11_lettersPerStroke_16 : decode cX11_lettersPerStroke 16 = .ok (.goto 17, 3) := by decide +kernel
theorem dX11_lettersPerStroke_19 : decode cX11_lettersPerStroke 19 = .ok (.aload_n 0, 1) := by decide +kernel
theorem dX11_lettersPerStroke_20 : decode cX11_lettersPerStroke 20 = .ok (.getfield 10, 3) := by decide +kernel
theorem dX11_lettersPerStroke_23 : decode cX11_lettersPerStroke 23 = .ok (.getfield 58, 3) := by decide +kernel
theorem dX11_lettersPerStroke_26 : decode cX11_lettersPerStroke 26 = .ok (.invokevirtual 274, 3) := by decide +kernel
theorem dX11_lettersPerStroke_29 : decode cX11_lettersPerStroke 29 = .ok (.i2d, 1) := by decide +kernel
theorem dX11_lettersPerStroke_30 : decode cX11_lettersPerStroke 30 = .ok (.iload_n 1, 1) := by decide +kernel
theorem dX11_lettersPerStroke_31 : decode cX11_lettersPerStroke 31 = .ok (.i2d, 1) := by decide +kernel
theorem dX11_lettersPerStroke_32 : decode cX11_lettersPerStroke 32 = .ok (.ddiv, 1) := by decide +kernel
theorem dX11_lettersPerStroke_33 : decode cX11_lettersPerStroke 33 = .ok (.dreturn, 1) := by decide +kernel
set_option maxRecDepth 20000 in
theorem ggX11_digest_X11_count : GoodIn wsX11_digest wsX11_count := goodIn_ca (goodIn_r _ [9, 10, 11, 12, 13, 14, 15, 16, 17, 18, 19, 20, 21, 22, 23, 24, 25, 26, 27, 28, 29, 30, 31, 32, 33, 34, 35, 36, 37, 38, 39, 40, 41, 42, 43, 44, 45, 46, 47, 48, 49, 50, 51, 52, 53, 54, 55, 56, 57, 58, 59, 60, 61, 62, 63, 64, 65, 66, 67, 68, 69, 70, 71, 72, 73, 74, 75, 76, 77, 78, 79, 80, 81, 82, 83, 84, 85, 86, 87, 88, 89, 90, 91, 92, 93, 94, 95, 96, 97, 98, 99, 100, 101, 102, 103, 104, 105, 106, 107, 108, 109, 110, 111, 112, 113, 114, 115, 116, 117, 118, 119, 120, 121, 122, 123, 124, 125, 298, 299, 300, 301, 302, 303, 306, 307, 308, 309, 310, 311, 312, 313, 314, 315, 316, 317, 318, 319, 320, 321] (by decide +kernel) (by decide +kernel)) (goodIn_sub (fun _ h => List.mem_cons_of_mem _ (List.mem_append_left _ (List.mem_append_right _ h))) (by decide +kernel))
set_option maxRecDepth 20000 in
theorem gX11_digest_X11_count : GoodIn wsX11_digest (wsV RX11 298 RX11 yX11_count wsX11_count) := goodIn_app (goodIn_of _ (by decide +kernel)) ggX11_digest_X11_count
set_option maxRecDepth 20000 in
theorem ggX11_digest_X11_mix : GoodIn wsX11_digest wsX11_mix := goodIn_r _ [128, 129] (by decide +kernel) (by decide +kernel)
set_option maxRecDepth 20000 in
theorem gX11_digest_X11_mix : GoodIn wsX11_digest (va_wsS RX11 301 yX11_mix wsX11_mix) := goodIn_app (goodIn_of _ (by decide +kernel)) ggX11_digest_X11_mix
set_option maxRecDepth 20000 in
theorem ggX11_digest_X11_mixSession : GoodIn wsX11_digest wsX11_mixSession := goodIn_ca (goodIn_ca (goodIn_r _ [133, 12, 13, 14, 15, 134, 135, 136, 8, 137, 138, 139, 10, 11, 140, 141, 50, 42, 51, 142, 53, 54, 55, 56, 57, 58, 143, 144, 145, 25, 146, 33, 44, 45, 46, 47, 48, 27, 49, 126, 127, 128, 129, 147, 35, 36, 37, 38, 39, 40, 41, 43, 52, 59, 60, 61, 62, 63, 64, 65, 148, 149, 150, 151, 152, 16, 153, 154, 155, 156, 157, 158, 159, 160, 161, 162, 163, 164, 165, 166, 167, 168, 169, 170, 171, 172, 173, 298, 299, 300, 301, 302, 303, 306, 307, 308, 309, 310, 311, 312, 313, 314, 315, 316] (by decide +kernel) (by decide +kernel)) (goodIn_sub (fun _ h => List.mem_cons_of_mem _ (List.mem_append_right _ h)) (by decide +kernel))) (goodIn_sub (fun _ h => List.mem_cons_of_mem _ (List.mem_append_left _ (List.mem_append_right _ h))) (by decide +kernel))
set_option maxRecDepth 20000 in
theorem gX11_digest_X11_mixSession : GoodIn wsX11_digest (wsV RX11 305 RX11 yX11_mixSession wsX11_mixSession) := goodIn_app (goodIn_of _ (by decide +kernel)) ggX11_digest_X11_mixSession
set_option maxRecDepth 20000 in
theorem ggX11_digest_X11_mixDictionary : GoodIn wsX11_digest wsX11_mixDictionary := goodIn_ca (goodIn_ca (goodIn_r _ [177, 12, 17, 18, 178, 179, 180, 8, 181, 138, 139, 10, 11, 13, 182, 183, 184, 185, 186, 83, 84, 75, 85, 86, 87, 41, 42, 43, 187, 122, 123, 124, 125, 188, 93, 94, 95, 96, 97, 98, 189, 190, 191, 192, 193, 60, 61, 62, 63, 64, 65, 194, 79, 80, 81, 82, 88, 89, 90, 91, 77, 92, 99, 100, 101, 102, 103, 104, 105, 106, 107, 108, 109, 110, 111, 112, 113, 114, 115, 116, 117, 118, 119, 120, 121, 66, 67, 68, 25, 69, 70, 33, 71, 49, 50, 51, 195, 126, 127, 128, 129, 196, 197, 198, 199, 200, 201, 202, 203, 204, 205, 206, 207, 208, 209, 210, 211, 212, 213, 214, 298, 299, 300, 301, 302, 303, 306, 307, 317, 318, 319, 308, 309, 310, 311, 312, 313, 314, 315, 316] (by decide +kernel) (by decide +kernel)) (goodIn_sub (fun _ h => List.mem_cons_of_mem _ (List.mem_append_right _ h)) (by decide +kernel))) (goodIn_sub (fun _ h => List.mem_cons_of_mem _ (List.mem_append_left _ (List.mem_append_right _ h))) (by decide +kernel))
set_option maxRecDepth 20000 in
theorem gX11_digest_X11_mixDictionary : GoodIn wsX11_digest (wsV RX11 309 RX11 yX11_mixDictionary wsX11_mixDictionary) := goodIn_app (goodIn_of _ (by decide +kernel)) ggX11_digest_X11_mixDictionary
set_option maxRecDepth 20000 in
theorem ggX11_digest_X11_fewestStrokes : GoodIn wsX11_digest wsX11_fewestStrokes := goodIn_r _ [218, 219, 2, 12, 17, 220, 221, 222, 223, 224, 225, 226, 227, 228, 229, 42, 230, 231, 232, 233, 234, 235, 122, 123, 75, 124, 125, 87, 41, 43, 236, 237, 238, 239, 240, 241, 242, 243, 60, 61, 62, 63, 64, 65, 244, 50, 51, 245, 246, 247, 248, 83, 84, 85, 86, 249, 93, 94, 95, 96, 97, 98, 298, 299, 300, 301, 302, 303, 306, 307, 322, 323, 324, 304, 305, 317, 318, 319] (by decide +kernel) (by decide +kernel)
set_option maxRecDepth 20000 in
theorem gX11_digest_X11_fewestStrokes : GoodIn wsX11_digest (wsV RX11 312 RX11 yX11_fewestStrokes wsX11_fewestStrokes) := goodIn_app (goodIn_of _ (by decide +kernel)) ggX11_digest_X11_fewestStrokes
set_option maxRecDepth 20000 in
theorem ggX11_digest_X11_readsBack : GoodIn wsX11_digest wsX11_readsBack := goodIn_r _ [253, 219, 2, 12, 17, 220, 221, 222, 223, 224, 225, 226, 227, 228, 229, 42, 230, 231, 232, 233, 234, 235, 122, 123, 75, 124, 125, 87, 41, 43, 236, 237, 238, 239, 240, 241, 242, 243, 60, 61, 62, 63, 64, 65, 244, 50, 51, 245, 246, 247, 248, 83, 84, 85, 86, 249, 93, 94, 95, 96, 97, 98, 254, 255, 256, 257, 258, 259, 260, 261, 262, 263, 264, 265, 266, 267, 268, 269, 270, 271, 272, 273, 274, 275, 276, 277, 278, 279, 280, 281, 282, 283, 284, 285, 286, 287, 99, 100, 101, 106, 107, 108, 109, 77, 298, 299, 300, 301, 302, 303, 306, 307, 322, 323, 324, 304, 305, 317, 318, 319] (by decide +kernel) (by decide +kernel)
set_option maxRecDepth 20000 in
theorem gX11_digest_X11_readsBack : GoodIn wsX11_digest (wsV RX11 315 RX11 yX11_readsBack wsX11_readsBack) := goodIn_app (goodIn_of _ (by decide +kernel)) ggX11_digest_X11_readsBack
set_option maxRecDepth 20000 in
theorem ggX11_digest_X11_lettersPerStroke : GoodIn wsX11_digest wsX11_lettersPerStroke := goodIn_r _ [291, 12, 13, 14, 29, 30, 31, 25, 32, 33, 34, 35, 36, 37, 38, 39, 40, 41, 42, 43, 44, 45, 46, 47, 48, 27, 49, 50, 51, 52, 53, 54, 55, 56, 57, 58, 59, 60, 61, 62, 63, 64, 65, 298, 299, 300, 301, 302, 303, 306, 307, 308, 309, 310, 311, 312, 313, 314, 315, 316] (by decide +kernel) (by decide +kernel)
set_option maxRecDepth 20000 in
theorem gX11_digest_X11_lettersPerStroke : GoodIn wsX11_digest (wsV RX11 318 RX11 yX11_lettersPerStroke wsX11_lettersPerStroke) := goodIn_app (goodIn_of _ (by decide +kernel)) ggX11_digest_X11_lettersPerStroke
set_option maxRecDepth 20000 in
theorem ggX11_digest_X11_bitsOf : GoodIn wsX11_digest wsX11_bitsOf := goodIn_r _ [294, 295, 296, 297] (by decide +kernel) (by decide +kernel)
set_option maxRecDepth 20000 in
theorem gX11_digest_X11_bitsOf : GoodIn wsX11_digest (va_wsS RX11 322 yX11_bitsOf wsX11_bitsOf) := goodIn_app (goodIn_of _ (by decide +kernel)) ggX11_digest_X11_bitsOf
set_option maxRecDepth 20000 in
theorem ggX11_digest_X6_at : GoodIn wsX11_digest wsX6_at := goodIn_r _ [51] (by decide +kernel) (by decide +kernel)
set_option maxRecDepth 20000 in
theorem gX11_digest_X6_at : GoodIn wsX11_digest (va_wsS RX11 90 yX6_at wsX6_at) := goodIn_app (goodIn_of _ (by decide +kernel)) ggX11_digest_X6_at
theorem dX11_digest_0 : decode cX11_digest 0 = .ok (.ldc2_w 296, 3) := by decide +kernel
theorem dX11_digest_3 : decode cX11_digest 3 = .ok (.lstore_n 1, 1) := by decide +kernel
theorem dX11_digest_4 : decode cX11_digest 4 = .ok (.iconst 0, 1) := by decide +kernel
theorem dX11_digest_5 : decode cX11_digest 5 = .ok (.istore_n 3, 1) := by decide +kernel
theorem dX11_digest_6 : decode cX11_digest 6 = .ok (.iload_n 3, 1) := by decide +kernel
theorem dX11_digest_7 : decode cX11_digest 7 = .ok (.bipush 10, 2) := by decide +kernel
theorem dX11_digest_9 : decode cX11_digest 9 = .ok (.if_icmp .ge 20, 3) := by decide +kernel
theorem dX11_digest_12 : decode cX11_digest 12 = .ok (.lload_n 1, 1) := by decide +kernel
theorem dX11_digest_13 : decode cX11_digest 13 = .ok (.aload_n 0, 1) := by decide +kernel
theorem dX11_digest_14 : decode cX11_digest 14 = .ok (.iload_n 3, 1) := by decide +kernel
theorem dX11_digest_15 : decode cX11_digest 15 = .ok (.invokevirtual 298, 3) := by decide +kernel
theorem dX11_digest_18 : decode cX11_digest 18 = .ok (.i2l, 1) := by decide +kernel
theorem dX11_digest_19 : decode cX11_digest 19 = .ok (.invokestatic 301, 3) := by decide +kernel
theorem dX11_digest_22 : decode cX11_digest 22 = .ok (.lstore_n 1, 1) := by decide +kernel
theorem dX11_digest_23 : decode cX11_digest 23 = .ok (.iinc 3 1, 3) := by decide +kernel
theorem dX11_digest_26 : decode cX11_digest 26 = .ok (.goto (-20), 3) := by decide +kernel
theorem dX11_digest_29 : decode cX11_digest 29 = .ok (.aload_n 0, 1) := by decide +kernel
theorem dX11_digest_30 : decode cX11_digest 30 = .ok (.lload_n 1, 1) := by decide +kernel
theorem dX11_digest_31 : decode cX11_digest 31 = .ok (.invokevirtual 305, 3) := by decide +kernel
theorem dX11_digest_34 : decode cX11_digest 34 = .ok (.lstore_n 1, 1) := by decide +kernel
theorem dX11_digest_35 : decode cX11_digest 35 = .ok (.aload_n 0, 1) := by decide +kernel
theorem dX11_digest_36 : decode cX11_digest 36 = .ok (.lload_n 1, 1) := by decide +kernel
theorem dX11_digest_37 : decode cX11_digest 37 = .ok (.invokevirtual 309, 3) := by decide +kernel
theorem dX11_digest_40 : decode cX11_digest 40 = .ok (.lstore_n 1, 1) := by decide +kernel
theorem dX11_digest_41 : decode cX11_digest 41 = .ok (.lload_n 1, 1) := by decide +kernel
theorem dX11_digest_42 : decode cX11_digest 42 = .ok (.aload_n 0, 1) := by decide +kernel
theorem dX11_digest_43 : decode cX11_digest 43 = .ok (.invokevirtual 312, 3) := by decide +kernel
theorem dX11_digest_46 : decode cX11_digest 46 = .ok (.i2l, 1) := by decide +kernel
theorem dX11_digest_47 : decode cX11_digest 47 = .ok (.invokestatic 301, 3) := by decide +kernel
theorem dX11_digest_50 : decode cX11_digest 50 = .ok (.lstore_n 1, 1) := by decide +kernel
theorem dX11_digest_51 : decode cX11_digest 51 = .ok (.lload_n 1, 1) := by decide +kernel
theorem dX11_digest_52 : decode cX11_digest 52 = .ok (.aload_n 0, 1) := by decide +kernel
theorem dX11_digest_53 : decode cX11_digest 53 = .ok (.invokevirtual 315, 3) := by decide +kernel
theorem dX11_digest_56 : decode cX11_digest 56 = .ok (.i2l, 1) := by decide +kernel
theorem dX11_digest_57 : decode cX11_digest 57 = .ok (.invokestatic 301, 3) := by decide +kernel
theorem dX11_digest_60 : decode cX11_digest 60 = .ok (.lstore_n 1, 1) := by decide +kernel
theorem dX11_digest_61 : decode cX11_digest 61 = .ok (.lload_n 1, 1) := by decide +kernel
theorem dX11_digest_62 : decode cX11_digest 62 = .ok (.aload_n 0, 1) := by decide +kernel
theorem dX11_digest_63 : decode cX11_digest 63 = .ok (.invokevirtual 318, 3) := by decide +kernel
theorem dX11_digest_66 : decode cX11_digest 66 = .ok (.invokestatic 322, 3) := by decide +kernel
theorem dX11_digest_69 : decode cX11_digest 69 = .ok (.invokestatic 301, 3) := by decide +kernel
theorem dX11_digest_72 : decode cX11_digest 72 = .ok (.lstore_n 1, 1) := by decide +kernel
theorem dX11_digest_73 : decode cX11_digest 73 = .ok (.lload_n 1, 1) := by decide +kernel
theorem dX11_digest_74 : decode cX11_digest 74 = .ok (.aload_n 0, 1) := by decide +kernel
theorem dX11_digest_75 : decode cX11_digest 75 = .ok (.getfield 29, 3) := by decide +kernel
theorem dX11_digest_78 : decode cX11_digest 78 = .ok (.getfield 181, 3) := by decide +kernel
theorem dX11_digest_81 : decode cX11_digest 81 = .ok (.i2l, 1) := by decide +kernel
theorem dX11_digest_82 : decode cX11_digest 82 = .ok (.invokestatic 301, 3) := by decide +kernel
theorem dX11_digest_85 : decode cX11_digest 85 = .ok (.lstore_n 1, 1) := by decide +kernel
theorem dX11_digest_86 : decode cX11_digest 86 = .ok (.iconst 0, 1) := by decide +kernel
theorem dX11_digest_87 : decode cX11_digest 87 = .ok (.istore_n 3, 1) := by decide +kernel
theorem dX11_digest_88 : decode cX11_digest 88 = .ok (.iload_n 3, 1) := by decide +kernel
theorem dX11_digest_89 : decode cX11_digest 89 = .ok (.aload_n 0, 1) := by decide +kernel
theorem dX11_digest_90 : decode cX11_digest 90 = .ok (.getfield 29, 3) := by decide +kernel
theorem dX11_digest_93 : decode cX11_digest 93 = .ok (.getfield 181, 3) := by decide +kernel
theorem dX11_digest_96 : decode cX11_digest 96 = .ok (.if_icmp .ge 26, 3) := by decide +kernel
theorem dX11_digest_99 : decode cX11_digest 99 = .ok (.lload_n 1, 1) := by decide +kernel
theorem dX11_digest_100 : decode cX11_digest 100 = .ok (.aload_n 0, 1) := by decide +kernel
theorem dX11_digest_101 : decode cX11_digest 101 = .ok (.getfield 29, 3) := by decide +kernel
theorem dX11_digest_104 : decode cX11_digest 104 = .ok (.getfield 326, 3) := by decide +kernel
theorem dX11_digest_107 : decode cX11_digest 107 = .ok (.iload_n 3, 1) := by decide +kernel
theorem dX11_digest_108 : decode cX11_digest 108 = .ok (.invokestatic 90, 3) := by decide +kernel
theorem dX11_digest_111 : decode cX11_digest 111 = .ok (.i2l, 1) := by decide +kernel
theorem dX11_digest_112 : decode cX11_digest 112 = .ok (.invokestatic 301, 3) := by decide +kernel
theorem dX11_digest_115 : decode cX11_digest 115 = .ok (.lstore_n 1, 1) := by decide +kernel
theorem dX11_digest_116 : decode cX11_digest 116 = .ok (.iinc 3 1, 3) := by decide +kernel
theorem dX11_digest_119 : decode cX11_digest 119 = .ok (.goto (-31), 3) := by decide +kernel
theorem dX11_digest_122 : decode cX11_digest 122 = .ok (.lload_n 1, 1) := by decide +kernel
theorem dX11_digest_123 : decode cX11_digest 123 = .ok (.lreturn, 1) := by decide +kernel
set_option maxRecDepth 20000 in
theorem ggX11_mixSession_X11_strokeAt : GoodIn wsX11_mixSession wsX11_strokeAt := goodIn_ca (goodIn_ca (goodIn_r _ [9, 10, 11, 12, 13, 1, 2, 3, 14, 15, 16, 17, 18, 19, 20, 21, 22, 23, 24, 25, 26, 27, 28, 29, 30, 31, 32, 33, 34, 35, 36, 37, 38, 87, 88, 89, 90, 91, 92, 93, 94, 95, 96, 97, 98, 99, 100, 101, 102, 103] (by decide +kernel) (by decide +kernel)) (goodIn_sub (fun _ h => List.mem_cons_of_mem _ (List.mem_append_left _ (List.mem_append_right _ h))) (by decide +kernel))) (goodIn_sub (fun _ h => List.mem_cons_of_mem _ (List.mem_append_right _ h)) (by decide +kernel))
set_option maxRecDepth 20000 in
theorem gX11_mixSession_X11_strokeAt : GoodIn wsX11_mixSession (wsV RX11 329 RX11 yX11_strokeAt wsX11_strokeAt) := goodIn_app (goodIn_of _ (by decide +kernel)) ggX11_mixSession_X11_strokeAt
set_option maxRecDepth 20000 in
theorem ggX11_mixSession_X11_mix : GoodIn wsX11_mixSession wsX11_mix := goodIn_r _ [41, 42] (by decide +kernel) (by decide +kernel)
set_option maxRecDepth 20000 in
theorem gX11_mixSession_X11_mix : GoodIn wsX11_mixSession (va_wsS RX11 301 yX11_mix wsX11_mix) := goodIn_app (goodIn_of _ (by decide +kernel)) ggX11_mixSession_X11_mix
set_option maxRecDepth 20000 in
theorem ggX11_mixSession_X7_lettersOf : GoodIn wsX11_mixSession wsX7_lettersOf := goodIn_r _ [46, 47, 48, 49, 50, 17, 51, 32, 33, 34, 29, 35, 31, 36, 37, 38, 16, 18, 52, 20, 21, 22, 23, 24, 25, 53, 54, 55, 56, 57, 58, 59, 95, 96, 97, 98, 99, 100, 101, 102, 103] (by decide +kernel) (by decide +kernel)
set_option maxRecDepth 20000 in
theorem gX11_mixSession_X7_lettersOf : GoodIn wsX11_mixSession (wsV RX11 228 RX7 yX7_lettersOf wsX7_lettersOf) := goodIn_app (goodIn_of _ (by decide +kernel)) ggX11_mixSession_X7_lettersOf
set_option maxRecDepth 20000 in
theorem ggX11_mixSession_X11_item : GoodIn wsX11_mixSession wsX11_item := goodIn_ca (goodIn_ca (goodIn_r _ [63, 10, 11, 12, 13, 1, 2, 64, 65, 66, 67, 68, 8, 69, 4, 43, 44, 45, 29, 46, 47, 48, 49, 50, 17, 51, 32, 33, 34, 35, 31, 36, 37, 38, 16, 18, 52, 20, 21, 22, 23, 24, 25, 53, 54, 55, 56, 57, 58, 59, 70, 71, 72, 73, 74, 15, 75, 76, 77, 78, 79, 80, 81, 82, 83, 84, 85, 86, 87, 88, 89, 90, 91, 92, 93, 94, 95, 96, 97, 98, 99, 100, 101, 102, 103] (by decide +kernel) (by decide +kernel)) (goodIn_sub (fun _ h => List.mem_cons_of_mem _ (List.mem_append_left _ (List.mem_append_right _ h))) (by decide +kernel))) (goodIn_sub (fun _ h => List.mem_cons_of_mem _ (List.mem_append_right _ h)) (by decide +kernel))
set_option maxRecDepth 20000 in
theorem gX11_mixSession_X11_item : GoodIn wsX11_mixSession (wsV RX11 332 RX11 yX11_item wsX11_item) := goodIn_app (goodIn_of _ (by decide +kernel)) ggX11_mixSession_X11_item
theorem dX11_mixSession_0 : decode cX11_mixSession 0 = .ok (.lload_n 1, 1) := by decide +kernel
theorem dX11_mixSession_1 : decode cX11_mixSession 1 = .ok (.lstore_n 3, 1) := by decide +kernel
theorem dX11_mixSession_2 : decode cX11_mixSession 2 = .ok (.iconst 0, 1) := by decide +kernel
theorem dX11_mixSession_3 : decode cX11_mixSession 3 = .ok (.istore 5, 2) := by decide +kernel
theorem dX11_mixSession_5 : decode cX11_mixSession 5 = .ok (.iload 5, 2) := by decide +kernel
theorem dX11_mixSession_7 : decode cX11_mixSession 7 = .ok (.aload_n 0, 1) := by decide +kernel
theorem dX11_mixSession_8 : decode cX11_mixSession 8 = .ok (.getfield 10, 3) := by decide +kernel
theorem dX11_mixSession_11 : decode cX11_mixSession 11 = .ok (.getfield 58, 3) := by decide +kernel
theorem dX11_mixSession_14 : decode cX11_mixSession 14 = .ok (.getfield 62, 3) := by decide +kernel
theorem dX11_mixSession_17 : decode cX11_mixSession 17 = .ok (.if_icmp .ge 38, 3) := by decide +kernel
theorem dX11_mixSession_20 : decode cX11_mixSession 20 = .ok (.iconst 0, 1) := by decide +kernel
theorem dX11_mixSession_21 : decode cX11_mixSession 21 = .ok (.istore 6, 2) := by decide +kernel
theorem dX11_mixSession_23 : decode cX11_mixSession 23 = .ok (.iload 6, 2) := by decide +kernel
theorem dX11_mixSession_25 : decode cX11_mixSession 25 = .ok (.iconst 3, 1) := by decide +kernel
theorem dX11_mixSession_26 : decode cX11_mixSession 26 = .ok (.if_icmp .ge 23, 3) := by decide +kernel
theorem dX11_mixSession_29 : decode cX11_mixSession 29 = .ok (.lload_n 3, 1) := by decide +kernel
theorem dX11_mixSession_30 : decode cX11_mixSession 30 = .ok (.aload_n 0, 1) := by decide +kernel
theorem dX11_mixSession_31 : decode cX11_mixSession 31 = .ok (.iload 5, 2) := by decide +kernel
theorem dX11_mixSession_33 : decode cX11_mixSession 33 = .ok (.iload 6, 2) := by decide +kernel
theorem dX11_mixSession_35 : decode cX11_mixSession 35 = .ok (.invokevirtual 329, 3) := by decide +kernel
theorem dX11_mixSession_38 : decode cX11_mixSession 38 = .ok (.i2l, 1) := by decide +kernel
theorem dX11_mixSession_39 : decode cX11_mixSession 39 = .ok (.invokestatic 301, 3) := by decide +kernel
theorem dX11_mixSession_42 : decode cX11_mixSession 42 = .ok (.lstore_n 3, 1) := by decide +kernel
theorem dX11_mixSession_43 : decode cX11_mixSession 43 = .ok (.iinc 6 1, 3) := by decide +kernel
theorem dX11_mixSession_46 : decode cX11_mixSession 46 = .ok (.goto (-23), 3) := by decide +kernel
theorem dX11_mixSession_49 : decode cX11_mixSession 49 = .ok (.iinc 5 1, 3) := by decide +kernel
theorem dX11_mixSession_52 : decode cX11_mixSession 52 = .ok (.goto (-47), 3) := by decide +kernel
theorem dX11_mixSession_55 : decode cX11_mixSession 55 = .ok (.iconst 0, 1) := by decide +kernel
theorem dX11_mixSession_56 : decode cX11_mixSession 56 = .ok (.istore 5, 2) := by decide +kernel
theorem dX11_mixSession_58 : decode cX11_mixSession 58 = .ok (.iload 5, 2) := by decide +kernel
theorem dX11_mixSession_60 : decode cX11_mixSession 60 = .ok (.aload_n 0, 1) := by decide +kernel
theorem dX11_mixSession_61 : decode cX11_mixSession 61 = .ok (.getfield 10, 3) := by decide +kernel
theorem dX11_mixSession_64 : decode cX11_mixSession 64 = .ok (.getfield 58, 3) := by decide +kernel
theorem dX11_mixSession_67 : decode cX11_mixSession 67 = .ok (.getfield 81, 3) := by decide +kernel
theorem dX11_mixSession_70 : decode cX11_mixSession 70 = .ok (.if_icmp .ge 55, 3) := by decide +kernel
theorem dX11_mixSession_73 : decode cX11_mixSession 73 = .ok (.iconst 5, 1) := by decide +kernel
theorem dX11_mixSession_74 : decode cX11_mixSession 74 = .ok (.aload_n 0, 1) := by decide +kernel
theorem dX11_mixSession_75 : decode cX11_mixSession 75 = .ok (.getfield 10, 3) := by decide +kernel
theorem dX11_mixSession_78 : decode cX11_mixSession 78 = .ok (.getfield 58, 3) := by decide +kernel
theorem dX11_mixSession_81 : decode cX11_mixSession 81 = .ok (.iload 5, 2) := by decide +kernel
theorem dX11_mixSession_83 : decode cX11_mixSession 83 = .ok (.invokevirtual 228, 3) := by decide +kernel
theorem dX11_mixSession_86 : decode cX11_mixSession 86 = .ok (.iadd, 1) := by decide +kernel
theorem dX11_mixSession_87 : decode cX11_mixSession 87 = .ok (.istore 6, 2) := by decide +kernel
theorem dX11_mixSession_89 : decode cX11_mixSession 89 = .ok (.iconst 0, 1) := by decide +kernel
theorem dX11_mixSession_90 : decode cX11_mixSession 90 = .ok (.istore 7, 2) := by decide +kernel
theorem dX11_mixSession_92 : decode cX11_mixSession 92 = .ok (.iload 7, 2) := by decide +kernel
theorem dX11_mixSession_94 : decode cX11_mixSession 94 = .ok (.iload 6, 2) := by decide +kernel
theorem dX11_mixSession_96 : decode cX11_mixSession 96 = .ok (.if_icmp .ge 23, 3) := by decide +kernel
theorem dX11_mixSession_99 : decode cX11_mixSession 99 = .ok (.lload_n 3, 1) := by decide +kernel
theorem dX11_mixSession_100 : decode cX11_mixSession 100 = .ok (.aload_n 0, 1) := by decide +kernel
theorem dX11_mixSession_101 : decode cX11_mixSession 101 = .ok (.iload 5, 2) := by decide +kernel
theorem dX11_mixSession_103 : decode cX11_mixSession 103 = .ok (.iload 7, 2) := by decide +kernel
theorem dX11_mixSession_105 : decode cX11_mixSession 105 = .ok (.invokevirtual 332, 3) := by decide +kernel
theorem dX11_mixSession_108 : decode cX11_mixSession 108 = .ok (.i2l, 1) := by decide +kernel
theorem dX11_mixSession_109 : decode cX11_mixSession 109 = .ok (.invokestatic 301, 3) := by decide +kernel
theorem dX11_mixSession_112 : decode cX11_mixSession 112 = .ok (.lstore_n 3, 1) := by decide +kernel
theorem dX11_mixSession_113 : decode cX11_mixSession 113 = .ok (.iinc 7 1, 3) := by decide +kernel
theorem dX11_mixSession_116 : decode cX11_mixSession 116 = .ok (.goto (-24), 3) := by decide +kernel
theorem dX11_mixSession_119 : decode cX11_mixSession 119 = .ok (.iinc 5 1, 3) := by decide +kernel
theorem dX11_mixSession_122 : decode cX11_mixSession 122 = .ok (.goto (-64), 3) := by decide +kernel
theorem dX11_mixSession_125 : decode cX11_mixSession 125 = .ok (.lload_n 3, 1) := by decide +kernel
theorem dX11_mixSession_126 : decode cX11_mixSession 126 = .ok (.lreturn, 1) := by decide +kernel
set_option maxRecDepth 20000 in
theorem ggX11_mixDictionary_X11_entry : GoodIn wsX11_mixDictionary wsX11_entry := goodIn_ca (goodIn_ca (goodIn_r _ [8, 9, 10, 11, 12, 1, 2, 13, 14, 15, 16, 7, 17, 3, 18, 19, 20, 21, 22, 23, 24, 25, 26, 27, 28, 29, 30, 31, 32, 33, 34, 35, 36, 37, 38, 39, 40, 41, 42, 43, 44, 45, 46, 47, 48, 49, 50, 51, 52, 53, 54, 55, 56, 57, 58, 59, 60, 61, 62, 63, 64, 65, 66, 67, 68, 69, 70, 71, 72, 73, 74, 75, 76, 77, 78, 79, 80, 81, 82, 83, 84, 85, 86, 87, 88, 89, 90, 91, 92, 93, 94, 95, 96, 120, 121, 122, 123, 124, 125, 126, 127, 128, 129, 130, 131, 132, 133, 134, 135, 136, 137, 138, 139] (by decide +kernel) (by decide +kernel)) (goodIn_sub (fun _ h => List.mem_cons_of_mem _ (List.mem_append_left _ (List.mem_append_right _ h))) (by decide +kernel))) (goodIn_sub (fun _ h => List.mem_cons_of_mem _ (List.mem_append_right _ h)) (by decide +kernel))
set_option maxRecDepth 20000 in
theorem gX11_mixDictionary_X11_entry : GoodIn wsX11_mixDictionary (wsV RX11 335 RX11 yX11_entry wsX11_entry) := goodIn_app (goodIn_of _ (by decide +kernel)) ggX11_mixDictionary_X11_entry
set_option maxRecDepth 20000 in
theorem ggX11_mixDictionary_X11_mix : GoodIn wsX11_mixDictionary wsX11_mix := goodIn_r _ [99, 100] (by decide +kernel) (by decide +kernel)
set_option maxRecDepth 20000 in
theorem gX11_mixDictionary_X11_mix : GoodIn wsX11_mixDictionary (va_wsS RX11 301 yX11_mix wsX11_mix) := goodIn_app (goodIn_of _ (by decide +kernel)) ggX11_mixDictionary_X11_mix
set_option maxRecDepth 20000 in
theorem ggX11_mixDictionary_X11_shortest : GoodIn wsX11_mixDictionary wsX11_shortest := goodIn_ca (goodIn_r _ [104, 9, 10, 1, 2, 14, 15, 16, 7, 17, 3, 105, 106, 107, 21, 108, 60, 84, 29, 30, 31, 32, 24, 25, 26, 27, 109, 110, 111, 112, 55, 19, 20, 22, 23, 61, 34, 35, 36, 37, 38, 39, 113, 114, 115, 116, 117, 118, 119, 120, 121, 122, 123, 124, 125, 126, 127, 128, 129, 130] (by decide +kernel) (by decide +kernel)) (goodIn_sub (fun _ h => List.mem_cons_of_mem _ (List.mem_append_left _ (List.mem_append_right _ h))) (by decide +kernel))
set_option maxRecDepth 20000 in
theorem gX11_mixDictionary_X11_shortest : GoodIn wsX11_mixDictionary (wsV RX11 338 RX11 yX11_shortest wsX11_shortest) := goodIn_app (goodIn_of _ (by decide +kernel)) ggX11_mixDictionary_X11_shortest
theorem dX11_mixDictionary_0 : decode cX11_mixDictionary 0 = .ok (.lload_n 1, 1) := by decide +kernel
theorem dX11_mixDictionary_1 : decode cX11_mixDictionary 1 = .ok (.lstore_n 3, 1) := by decide +kernel
theorem dX11_mixDictionary_2 : decode cX11_mixDictionary 2 = .ok (.iconst 0, 1) := by decide +kernel
theorem dX11_mixDictionary_3 : decode cX11_mixDictionary 3 = .ok (.istore 5, 2) := by decide +kernel
theorem dX11_mixDictionary_5 : decode cX11_mixDictionary 5 = .ok (.iload 5, 2) := by decide +kernel
theorem dX11_mixDictionary_7 : decode cX11_mixDictionary 7 = .ok (.aload_n 0, 1) := by decide +kernel
theorem dX11_mixDictionary_8 : decode cX11_mixDictionary 8 = .ok (.getfield 10, 3) := by decide +kernel
theorem dX11_mixDictionary_11 : decode cX11_mixDictionary 11 = .ok (.getfield 122, 3) := by decide +kernel
theorem dX11_mixDictionary_14 : decode cX11_mixDictionary 14 = .ok (.getfield 176, 3) := by decide +kernel
theorem dX11_mixDictionary_17 : decode cX11_mixDictionary 17 = .ok (.if_icmp .ge 51, 3) := by decide +kernel
theorem dX11_mixDictionary_20 : decode cX11_mixDictionary 20 = .ok (.iconst 0, 1) := by decide +kernel
theorem dX11_mixDictionary_21 : decode cX11_mixDictionary 21 = .ok (.istore 6, 2) := by decide +kernel
theorem dX11_mixDictionary_23 : decode cX11_mixDictionary 23 = .ok (.iload 6, 2) := by decide +kernel
theorem dX11_mixDictionary_25 : decode cX11_mixDictionary 25 = .ok (.bipush 16, 2) := by decide +kernel
theorem dX11_mixDictionary_27 : decode cX11_mixDictionary 27 = .ok (.if_icmp .ge 23, 3) := by decide +kernel
theorem dX11_mixDictionary_30 : decode cX11_mixDictionary 30 = .ok (.lload_n 3, 1) := by decide +kernel
theorem dX11_mixDictionary_31 : decode cX11_mixDictionary 31 = .ok (.aload_n 0, 1) := by decide +kernel
theorem dX11_mixDictionary_32 : decode cX11_mixDictionary 32 = .ok (.iload 5, 2) := by decide +kernel
theorem dX11_mixDictionary_34 : decode cX11_mixDictionary 34 = .ok (.iload 6, 2) := by decide +kernel
theorem dX11_mixDictionary_36 : decode cX11_mixDictionary 36 = .ok (.invokevirtual 335, 3) := by decide +kernel
theorem dX11_mixDictionary_39 : decode cX11_mixDictionary 39 = .ok (.i2l, 1) := by decide +kernel
theorem dX11_mixDictionary_40 : decode cX11_mixDictionary 40 = .ok (.invokestatic 301, 3) := by decide +kernel
theorem dX11_mixDictionary_43 : decode cX11_mixDictionary 43 = .ok (.lstore_n 3, 1) := by decide +kernel
theorem dX11_mixDictionary_44 : decode cX11_mixDictionary 44 = .ok (.iinc 6 1, 3) := by decide +kernel
theorem dX11_mixDictionary_47 : decode cX11_mixDictionary 47 = .ok (.goto (-24), 3) := by decide +kernel
theorem dX11_mixDictionary_50 : decode cX11_mixDictionary 50 = .ok (.lload_n 3, 1) := by decide +kernel
theorem dX11_mixDictionary_51 : decode cX11_mixDictionary 51 = .ok (.aload_n 0, 1) := by decide +kernel
theorem dX11_mixDictionary_52 : decode cX11_mixDictionary 52 = .ok (.iload 5, 2) := by decide +kernel
theorem dX11_mixDictionary_54 : decode cX11_mixDictionary 54 = .ok (.invokevirtual 338, 3) := by decide +kernel
theorem dX11_mixDictionary_57 : decode cX11_mixDictionary 57 = .ok (.i2l, 1) := by decide +kernel
theorem dX11_mixDictionary_58 : decode cX11_mixDictionary 58 = .ok (.invokestatic 301, 3) := by decide +kernel
theorem dX11_mixDictionary_61 : decode cX11_mixDictionary 61 = .ok (.lstore_n 3, 1) := by decide +kernel
theorem dX11_mixDictionary_62 : decode cX11_mixDictionary 62 = .ok (.iinc 5 1, 3) := by decide +kernel
theorem dX11_mixDictionary_65 : decode cX11_mixDictionary 65 = .ok (.goto (-60), 3) := by decide +kernel
theorem dX11_mixDictionary_68 : decode cX11_mixDictionary 68 = .ok (.lload_n 3, 1) := by decide +kernel
theorem dX11_mixDictionary_69 : decode cX11_mixDictionary 69 = .ok (.lreturn, 1) := by decide +kernel
theorem dX11_mix_0 : decode cX11_mix 0 = .ok (.ldc2_w 341, 3) := by decide +kernel
theorem dX11_mix_3 : decode cX11_mix 3 = .ok (.lload_n 0, 1) := by decide +kernel
theorem dX11_mix_4 : decode cX11_mix 4 = .ok (.lmul, 1) := by decide +kernel
theorem dX11_mix_5 : decode cX11_mix 5 = .ok (.lload_n 2, 1) := by decide +kernel
theorem dX11_mix_6 : decode cX11_mix 6 = .ok (.ladd, 1) := by decide +kernel
theorem dX11_mix_7 : decode cX11_mix 7 = .ok (.lreturn, 1) := by decide +kernel
theorem dX11_bitsOf_0 : decode cX11_bitsOf 0 = .ok (.dload_n 0, 1) := by decide +kernel
theorem dX11_bitsOf_1 : decode cX11_bitsOf 1 = .ok (.dconst 0, 1) := by decide +kernel
theorem dX11_bitsOf_2 : decode cX11_bitsOf 2 = .ok (.dcmp .l, 1) := by decide +kernel
theorem dX11_bitsOf_3 : decode cX11_bitsOf 3 = .ok (.ifCond .gt 5, 3) := by decide +kernel
theorem dX11_bitsOf_6 : decode cX11_bitsOf 6 = .ok (.lconst 0, 1) := by decide +kernel
theorem dX11_bitsOf_7 : decode cX11_bitsOf 7 = .ok (.lreturn, 1) := by decide +kernel
theorem dX11_bitsOf_8 : decode cX11_bitsOf 8 = .ok (.dload_n 0, 1) := by decide +kernel
theorem dX11_bitsOf_9 : decode cX11_bitsOf 9 = .ok (.dstore_n 2, 1) := by decide +kernel
theorem dX11_bitsOf_10 : decode cX11_bitsOf 10 = .ok (.ldc2_w 343, 3) := by decide +kernel
theorem dX11_bitsOf_13 : decode cX11_bitsOf 13 = .ok (.lstore 4, 2) := by decide +kernel
theorem dX11_bitsOf_15 : decode cX11_bitsOf 15 = .ok (.iconst 0, 1) := by decide +kernel
theorem dX11_bitsOf_16 : decode cX11_bitsOf 16 = .ok (.istore 6, 2) := by decide +kernel
theorem dX11_bitsOf_18 : decode cX11_bitsOf 18 = .ok (.iload 6, 2) := by decide +kernel
theorem dX11_bitsOf_20 : decode cX11_bitsOf 20 = .ok (.sipush 1100, 3) := by decide +kernel
theorem dX11_bitsOf_23 : decode cX11_bitsOf 23 = .ok (.if_icmp .ge 29, 3) := by decide +kernel
theorem dX11_bitsOf_26 : decode cX11_bitsOf 26 = .ok (.dload_n 2, 1) := by decide +kernel
theorem dX11_bitsOf_27 : decode cX11_bitsOf 27 = .ok (.ldc2_w 345, 3) := by decide +kernel
theorem dX11_bitsOf_30 : decode cX11_bitsOf 30 = .ok (.dcmp .l, 1) := by decide +kernel
theorem dX11_bitsOf_31 : decode cX11_bitsOf 31 = .ok (.ifCond .lt 21, 3) := by decide +kernel
theorem dX11_bitsOf_34 : decode cX11_bitsOf 34 = .ok (.dload_n 2, 1) := by decide +kernel
theorem dX11_bitsOf_35 : decode cX11_bitsOf 35 = .ok (.ldc2_w 345, 3) := by decide +kernel
theorem dX11_bitsOf_38 : decode cX11_bitsOf 38 = .ok (.ddiv, 1) := by decide +kernel
theorem dX11_bitsOf_39 : decode cX11_bitsOf 39 = .ok (.dstore_n 2, 1) := by decide +kernel
theorem dX11_bitsOf_40 : decode cX11_bitsOf 40 = .ok (.lload 4, 2) := by decide +kernel
theorem dX11_bitsOf_42 : decode cX11_bitsOf 42 = .ok (.lconst 1, 1) := by decide +kernel
theorem dX11_bitsOf_43 : decode cX11_bitsOf 43 = .ok (.ladd, 1) := by decide +kernel
theorem dX11_bitsOf_44 : decode cX11_bitsOf 44 = .ok (.lstore 4, 2) := by decide +kernel
theorem dX11_bitsOf_46 : decode cX11_bitsOf 46 = .ok (.iinc 6 1, 3) := by decide +kernel
theorem dX11_bitsOf_49 : decode cX11_bitsOf 49 = .ok (.goto (-31), 3) := by decide +kernel
theorem dX11_bitsOf_52 : decode cX11_bitsOf 52 = .ok (.iconst 0, 1) := by decide +kernel
theorem dX11_bitsOf_53 : decode cX11_bitsOf 53 = .ok (.istore 6, 2) := by decide +kernel
theorem dX11_bitsOf_55 : decode cX11_bitsOf 55 = .ok (.iload 6, 2) := by decide +kernel
theorem dX11_bitsOf_57 : decode cX11_bitsOf 57 = .ok (.sipush 1100, 3) := by decide +kernel
theorem dX11_bitsOf_60 : decode cX11_bitsOf 60 = .ok (.if_icmp .ge 27, 3) := by decide +kernel
theorem dX11_bitsOf_63 : decode cX11_bitsOf 63 = .ok (.dload_n 2, 1) := by decide +kernel
theorem dX11_bitsOf_64 : decode cX11_bitsOf 64 = .ok (.dconst 1, 1) := by decide +kernel
theorem dX11_bitsOf_65 : decode cX11_bitsOf 65 = .ok (.dcmp .g, 1) := by decide +kernel
theorem dX11_bitsOf_66 : decode cX11_bitsOf 66 = .ok (.ifCond .ge 21, 3) := by decide +kernel
theorem dX11_bitsOf_69 : decode cX11_bitsOf 69 = .ok (.dload_n 2, 1) := by decide +kernel
theorem dX11_bitsOf_70 : decode cX11_bitsOf 70 = .ok (.ldc2_w 345, 3) := by decide +kernel
theorem dX11_bitsOf_73 : decode cX11_bitsOf 73 = .ok (.dmul, 1) := by decide +kernel
theorem dX11_bitsOf_74 : decode cX11_bitsOf 74 = .ok (.dstore_n 2, 1) := by decide +kernel
theorem dX11_bitsOf_75 : decode cX11_bitsOf 75 = .ok (.lload 4, 2) := by decide +kernel
theorem dX11_bitsOf_77 : decode cX11_bitsOf 77 = .ok (.lconst 1, 1) := by decide +kernel
theorem dX11_bitsOf_78 : decode cX11_bitsOf 78 = .ok (.lsub, 1) := by decide +kernel
theorem dX11_bitsOf_79 : decode cX11_bitsOf 79 = .ok (.lstore 4, 2) := by decide +kernel
theorem dX11_bitsOf_81 : decode cX11_bitsOf 81 = .ok (.iinc 6 1, 3) := by decide +kernel
theorem dX11_bitsOf_84 : decode cX11_bitsOf 84 = .ok (.goto (-29), 3) := by decide +kernel
theorem dX11_bitsOf_87 : decode cX11_bitsOf 87 = .ok (.ldc2_w 347, 3) := by decide +kernel
theorem dX11_bitsOf_90 : decode cX11_bitsOf 90 = .ok (.lstore 6, 2) := by decide +kernel
theorem dX11_bitsOf_92 : decode cX11_bitsOf 92 = .ok (.lload 4, 2) := by decide +kernel
theorem dX11_bitsOf_94 : decode cX11_bitsOf 94 = .ok (.bipush 52, 2) := by decide +kernel
theorem dX11_bitsOf_96 : decode cX11_bitsOf 96 = .ok (.lshl, 1) := by decide +kernel
theorem dX11_bitsOf_97 : decode cX11_bitsOf 97 = .ok (.dload_n 2, 1) := by decide +kernel
theorem dX11_bitsOf_98 : decode cX11_bitsOf 98 = .ok (.lload 6, 2) := by decide +kernel
theorem dX11_bitsOf_100 : decode cX11_bitsOf 100 = .ok (.l2d, 1) := by decide +kernel
theorem dX11_bitsOf_101 : decode cX11_bitsOf 101 = .ok (.dmul, 1) := by decide +kernel
theorem dX11_bitsOf_102 : decode cX11_bitsOf 102 = .ok (.d2l, 1) := by decide +kernel
theorem dX11_bitsOf_103 : decode cX11_bitsOf 103 = .ok (.lload 6, 2) := by decide +kernel
theorem dX11_bitsOf_105 : decode cX11_bitsOf 105 = .ok (.lsub, 1) := by decide +kernel
theorem dX11_bitsOf_106 : decode cX11_bitsOf 106 = .ok (.ladd, 1) := by decide +kernel
theorem dX11_bitsOf_107 : decode cX11_bitsOf 107 = .ok (.lreturn, 1) := by decide +kernel
theorem dX11_isStroke_0 : decode cX11_isStroke 0 = .ok (.iload_n 0, 1) := by decide +kernel
theorem dX11_isStroke_1 : decode cX11_isStroke 1 = .ok (.iconst 1, 1) := by decide +kernel
theorem dX11_isStroke_2 : decode cX11_isStroke 2 = .ok (.if_icmp .lt 14, 3) := by decide +kernel
theorem dX11_isStroke_5 : decode cX11_isStroke 5 = .ok (.iload_n 0, 1) := by decide +kernel
theorem dX11_isStroke_6 : decode cX11_isStroke 6 = .ok (.sipush 4095, 3) := by decide +kernel
theorem dX11_isStroke_9 : decode cX11_isStroke 9 = .ok (.if_icmp .gt 7, 3) := by decide +kernel
theorem dX11_isStroke_12 : decode cX11_isStroke 12 = .ok (.iconst 1, 1) := by decide +kernel
theorem dX11_isStroke_13 : decode cX11_isStroke 13 = .ok (.goto 4, 3) := by decide +kernel
theorem dX11_isStroke_16 : decode cX11_isStroke 16 = .ok (.iconst 0, 1) := by decide +kernel
theorem dX11_isStroke_17 : decode cX11_isStroke 17 = .ok (.ireturn, 1) := by decide +kernel
theorem dX11_isItem_0 : decode cX11_isItem 0 = .ok (.iload_n 1, 1) := by decide +kernel
theorem dX11_isItem_1 : decode cX11_isItem 1 = .ok (.ifCond .lt 21, 3) := by decide +kernel
theorem dX11_isItem_4 : decode cX11_isItem 4 = .ok (.iload_n 1, 1) := by decide +kernel
theorem dX11_isItem_5 : decode cX11_isItem 5 = .ok (.aload_n 0, 1) := by decide +kernel
theorem dX11_isItem_6 : decode cX11_isItem 6 = .ok (.getfield 10, 3) := by decide +kernel
theorem dX11_isItem_9 : decode cX11_isItem 9 = .ok (.getfield 58, 3) := by decide +kernel
theorem dX11_isItem_12 : decode cX11_isItem 12 = .ok (.getfield 81, 3) := by decide +kernel
theorem dX11_isItem_15 : decode cX11_isItem 15 = .ok (.if_icmp .ge 7, 3) := by decide +kernel
theorem dX11_isItem_18 : decode cX11_isItem 18 = .ok (.iconst 1, 1) := by decide +kernel
theorem dX11_isItem_19 : decode cX11_isItem 19 = .ok (.goto 4, 3) := by decide +kernel
theorem dX11_isItem_22 : decode cX11_isItem 22 = .ok (.iconst 0, 1) := by decide +kernel
theorem dX11_isItem_23 : decode cX11_isItem 23 = .ok (.ireturn, 1) := by decide +kernel
theorem dX11_isEntry_0 : decode cX11_isEntry 0 = .ok (.iload_n 1, 1) := by decide +kernel
theorem dX11_isEntry_1 : decode cX11_isEntry 1 = .ok (.ifCond .lt 21, 3) := by decide +kernel
theorem dX11_isEntry_4 : decode cX11_isEntry 4 = .ok (.iload_n 1, 1) := by decide +kernel
theorem dX11_isEntry_5 : decode cX11_isEntry 5 = .ok (.aload_n 0, 1) := by decide +kernel
theorem dX11_isEntry_6 : decode cX11_isEntry 6 = .ok (.getfield 10, 3) := by decide +kernel
theorem dX11_isEntry_9 : decode cX11_isEntry 9 = .ok (.getfield 122, 3) := by decide +kernel
theorem dX11_isEntry_12 : decode cX11_isEntry 12 = .ok (.getfield 176, 3) := by decide +kernel
theorem dX11_isEntry_15 : decode cX11_isEntry 15 = .ok (.if_icmp .ge 7, 3) := by decide +kernel
theorem dX11_isEntry_18 : decode cX11_isEntry 18 = .ok (.iconst 1, 1) := by decide +kernel
theorem dX11_isEntry_19 : decode cX11_isEntry 19 = .ok (.goto 4, 3) := by decide +kernel
theorem dX11_isEntry_22 : decode cX11_isEntry 22 = .ok (.iconst 0, 1) := by decide +kernel
theorem dX11_isEntry_23 : decode cX11_isEntry 23 = .ok (.ireturn, 1) := by decide +kernel
theorem dX11_noneForZero_0 : decode cX11_noneForZero 0 = .ok (.iload_n 0, 1) := by decide +kernel
theorem dX11_noneForZero_1 : decode cX11_noneForZero 1 = .ok (.ifCond .ne 7, 3) := by decide +kernel
theorem dX11_noneForZero_4 : decode cX11_noneForZero 4 = .ok (.iconst (-1), 1) := by decide +kernel
theorem dX11_noneForZero_5 : decode cX11_noneForZero 5 = .ok (.goto 4, 3) := by decide +kernel
theorem dX11_noneForZero_8 : decode cX11_noneForZero 8 = .ok (.iload_n 0, 1) := by decide +kernel
theorem dX11_noneForZero_9 : decode cX11_noneForZero 9 = .ok (.ireturn, 1) := by decide +kernel
theorem dX12_init_0 : decode cX12_init 0 = .ok (.aload_n 0, 1) := by decide +kernel
theorem dX12_init_1 : decode cX12_init 1 = .ok (.invokespecial 1, 3) := by decide +kernel
theorem dX12_init_4 : decode cX12_init 4 = .ok (.aload_n 0, 1) := by decide +kernel
theorem dX12_init_5 : decode cX12_init 5 = .ok (.sipush 1317, 3) := by decide +kernel
theorem dX12_init_8 : decode cX12_init 8 = .ok (.newarray .int, 2) := by decide +kernel
theorem dX12_init_10 : decode cX12_init 10 = .ok (.putfield 7, 3) := by decide +kernel
theorem dX12_init_13 : decode cX12_init 13 = .ok (.aload_n 0, 1) := by decide +kernel
theorem dX12_init_14 : decode cX12_init 14 = .ok (.sipush 10536, 3) := by decide +kernel
theorem dX12_init_17 : decode cX12_init 17 = .ok (.newarray .int, 2) := by decide +kernel
theorem dX12_init_19 : decode cX12_init 19 = .ok (.putfield 13, 3) := by decide +kernel
theorem dX12_init_22 : decode cX12_init 22 = .ok (.aload_n 0, 1) := by decide +kernel
theorem dX12_init_23 : decode cX12_init 23 = .ok (.bipush 60, 2) := by decide +kernel
theorem dX12_init_25 : decode cX12_init 25 = .ok (.newarray .int, 2) := by decide +kernel
theorem dX12_init_27 : decode cX12_init 27 = .ok (.putfield 16, 3) := by decide +kernel
theorem dX12_init_30 : decode cX12_init 30 = .ok (.aload_n 0, 1) := by decide +kernel
theorem dX12_init_31 : decode cX12_init 31 = .ok (.sipush 240, 3) := by decide +kernel
theorem dX12_init_34 : decode cX12_init 34 = .ok (.newarray .int, 2) := by decide +kernel
theorem dX12_init_36 : decode cX12_init 36 = .ok (.putfield 19, 3) := by decide +kernel
theorem dX12_init_39 : decode cX12_init 39 = .ok (.aload_n 0, 1) := by decide +kernel
theorem dX12_init_40 : decode cX12_init 40 = .ok (.sipush 1317, 3) := by decide +kernel
theorem dX12_init_43 : decode cX12_init 43 = .ok (.newarray .int, 2) := by decide +kernel
theorem dX12_init_45 : decode cX12_init 45 = .ok (.putfield 22, 3) := by decide +kernel
theorem dX12_init_48 : decode cX12_init 48 = .ok (.aload_n 0, 1) := by decide +kernel
theorem dX12_init_49 : decode cX12_init 49 = .ok (.sipush 308, 3) := by decide +kernel
theorem dX12_init_52 : decode cX12_init 52 = .ok (.newarray .int, 2) := by decide +kernel
theorem dX12_init_54 : decode cX12_init 54 = .ok (.putfield 25, 3) := by decide +kernel
theorem dX12_init_57 : decode cX12_init 57 = .ok (.aload_n 0, 1) := by decide +kernel
theorem dX12_init_58 : decode cX12_init 58 = .ok (.bipush 61, 2) := by decide +kernel
theorem dX12_init_60 : decode cX12_init 60 = .ok (.newarray .int, 2) := by decide +kernel
theorem dX12_init_62 : decode cX12_init 62 = .ok (.putfield 28, 3) := by decide +kernel
theorem dX12_init_65 : decode cX12_init 65 = .ok (.aload_n 0, 1) := by decide +kernel
theorem dX12_init_66 : decode cX12_init 66 = .ok (.getfield 7, 3) := by decide +kernel
theorem dX12_init_69 : decode cX12_init 69 = .ok (.sipush 1316, 3) := by decide +kernel
theorem dX12_init_72 : decode cX12_init 72 = .ok (.bipush 8, 2) := by decide +kernel
theorem dX12_init_74 : decode cX12_init 74 = .ok (.iastore, 1) := by decide +kernel
theorem dX12_init_75 : decode cX12_init 75 = .ok (.return_, 1) := by decide +kernel
theorem dX12_thrown_0 : decode cX12_thrown 0 = .ok (.aload_n 0, 1) := by decide +kernel
theorem dX12_thrown_1 : decode cX12_thrown 1 = .ok (.getfield 31, 3) := by decide +kernel
theorem dX12_thrown_4 : decode cX12_thrown 4 = .ok (.ireturn, 1) := by decide +kernel
theorem dX12_within_0 : decode cX12_within 0 = .ok (.iload_n 0, 1) := by decide +kernel
theorem dX12_within_1 : decode cX12_within 1 = .ok (.iload_n 1, 1) := by decide +kernel
theorem dX12_within_2 : decode cX12_within 2 = .ok (.if_icmp .lt 12, 3) := by decide +kernel
theorem dX12_within_5 : decode cX12_within 5 = .ok (.iload_n 0, 1) := by decide +kernel
theorem dX12_within_6 : decode cX12_within 6 = .ok (.iload_n 2, 1) := by decide +kernel
theorem dX12_within_7 : decode cX12_within 7 = .ok (.if_icmp .gt 7, 3) := by decide +kernel
theorem dX12_within_10 : decode cX12_within 10 = .ok (.iconst 1, 1) := by decide +kernel
theorem dX12_within_11 : decode cX12_within 11 = .ok (.goto 4, 3) := by decide +kernel
theorem dX12_within_14 : decode cX12_within 14 = .ok (.iconst 0, 1) := by decide +kernel
theorem dX12_within_15 : decode cX12_within 15 = .ok (.ireturn, 1) := by decide +kernel
theorem dX12_entryAt_0 : decode cX12_entryAt 0 = .ok (.iconst 1, 1) := by decide +kernel
theorem dX12_entryAt_1 : decode cX12_entryAt 1 = .ok (.bipush 14, 2) := by decide +kernel
theorem dX12_entryAt_3 : decode cX12_entryAt 3 = .ok (.iload_n 0, 1) := by decide +kernel
theorem dX12_entryAt_4 : decode cX12_entryAt 4 = .ok (.imul, 1) := by decide +kernel
theorem dX12_entryAt_5 : decode cX12_entryAt 5 = .ok (.iadd, 1) := by decide +kernel
theorem dX12_entryAt_6 : decode cX12_entryAt 6 = .ok (.ireturn, 1) := by decide +kernel
theorem dX12_itemAt_0 : decode cX12_itemAt 0 = .ok (.sipush 400, 3) := by decide +kernel
theorem dX12_itemAt_3 : decode cX12_itemAt 3 = .ok (.bipush 15, 2) := by decide +kernel
theorem dX12_itemAt_5 : decode cX12_itemAt 5 = .ok (.iload_n 0, 1) := by decide +kernel
theorem dX12_itemAt_6 : decode cX12_itemAt 6 = .ok (.imul, 1) := by decide +kernel
theorem dX12_itemAt_7 : decode cX12_itemAt 7 = .ok (.iadd, 1) := by decide +kernel
theorem dX12_itemAt_8 : decode cX12_itemAt 8 = .ok (.ireturn, 1) := by decide +kernel
set_option maxRecDepth 20000 in
theorem ggX12_isEntry_X12_within : GoodIn wsX12_isEntry wsX12_within := goodIn_r _ [5] (by decide +kernel) (by decide +kernel)
set_option maxRecDepth 20000 in
theorem gX12_isEntry_X12_within : GoodIn wsX12_isEntry (va_wsS RX12 35 yX12_within wsX12_within) := goodIn_app (goodIn_of _ (by decide +kernel)) ggX12_isEntry_X12_within
theorem dX12_isEntry_0 : decode cX12_isEntry 0 = .ok (.iload_n 1, 1) := by decide +kernel
theorem dX12_isEntry_1 : decode cX12_isEntry 1 = .ok (.iconst 0, 1) := by decide +kernel
theorem dX12_isEntry_2 : decode cX12_isEntry 2 = .ok (.aload_n 0, 1) := by decide +kernel
theorem dX12_isEntry_3 : decode cX12_isEntry 3 = .ok (.getfield 7, 3) := by decide +kernel
theorem dX12_isEntry_6 : decode cX12_isEntry 6 = .ok (.iconst 0, 1) := by decide +kernel
theorem dX12_isEntry_7 : decode cX12_isEntry 7 = .ok (.iaload, 1) := by decide +kernel
theorem dX12_isEntry_8 : decode cX12_isEntry 8 = .ok (.iconst 1, 1) := by decide +kernel
theorem dX12_isEntry_9 : decode cX12_isEntry 9 = .ok (.isub, 1) := by decide +kernel
theorem dX12_isEntry_10 : decode cX12_isEntry 10 = .ok (.invokestatic 35, 3) := by decide +kernel
theorem dX12_isEntry_13 : decode cX12_isEntry 13 = .ok (.ireturn, 1) := by decide +kernel
set_option maxRecDepth 20000 in
theorem ggX12_isItem_X12_within : GoodIn wsX12_isItem wsX12_within := goodIn_r _ [5] (by decide +kernel) (by decide +kernel)
set_option maxRecDepth 20000 in
theorem gX12_isItem_X12_within : GoodIn wsX12_isItem (va_wsS RX12 35 yX12_within wsX12_within) := goodIn_app (goodIn_of _ (by decide +kernel)) ggX12_isItem_X12_within
theorem dX12_isItem_0 : decode cX12_isItem 0 = .ok (.iload_n 1, 1) := by decide +kernel
theorem dX12_isItem_1 : decode cX12_isItem 1 = .ok (.iconst 0, 1) := by decide +kernel
theorem dX12_isItem_2 : decode cX12_isItem 2 = .ok (.aload_n 0, 1) := by decide +kernel
theorem dX12_isItem_3 : decode cX12_isItem 3 = .ok (.getfield 7, 3) := by decide +kernel
theorem dX12_isItem_6 : decode cX12_isItem 6 = .ok (.sipush 399, 3) := by decide +kernel
theorem dX12_isItem_9 : decode cX12_isItem 9 = .ok (.iaload, 1) := by decide +kernel
theorem dX12_isItem_10 : decode cX12_isItem 10 = .ok (.iconst 1, 1) := by decide +kernel
theorem dX12_isItem_11 : decode cX12_isItem 11 = .ok (.isub, 1) := by decide +kernel
theorem dX12_isItem_12 : decode cX12_isItem 12 = .ok (.invokestatic 35, 3) := by decide +kernel
theorem dX12_isItem_15 : decode cX12_isItem 15 = .ok (.ireturn, 1) := by decide +kernel
theorem dX12_keyLetter_0 : decode cX12_keyLetter 0 = .ok (.iload_n 0, 1) := by decide +kernel
theorem dX12_keyLetter_1 : decode cX12_keyLetter 1 = .ok (.tableswitch 92 0 10 #[59, 62, 65, 68, 71, 74, 77, 80, 83, 86, 89], 59) := by decide +kernel
theorem dX12_keyLetter_60 : decode cX12_keyLetter 60 = .ok (.bipush 83, 2) := by decide +kernel
theorem dX12_keyLetter_62 : decode cX12_keyLetter 62 = .ok (.ireturn, 1) := by decide +kernel
theorem dX12_keyLetter_63 : decode cX12_keyLetter 63 = .ok (.bipush 84, 2) := by decide +kernel
theorem dX12_keyLetter_65 : decode cX12_keyLetter 65 = .ok (.ireturn, 1) := by decide +kernel
theorem dX12_keyLetter_66 : decode cX12_keyLetter 66 = .ok (.bipush 80, 2) := by decide +kernel
theorem dX12_keyLetter_68 : decode cX12_keyLetter 68 = .ok (.ireturn, 1) := by decide +kernel
theorem dX12_keyLetter_69 : decode cX12_keyLetter 69 = .ok (.bipush 72, 2) := by decide +kernel
theorem dX12_keyLetter_71 : decode cX12_keyLetter 71 = .ok (.ireturn, 1) := by decide +kernel
theorem dX12_keyLetter_72 : decode cX12_keyLetter 72 = .ok (.bipush 65, 2) := by decide +kernel
theorem dX12_keyLetter_74 : decode cX12_keyLetter 74 = .ok (.ireturn, 1) := by decide +kernel
theorem dX12_keyLetter_75 : decode cX12_keyLetter 75 = .ok (.bipush 79, 2) := by decide +kernel
theorem dX12_keyLetter_77 : decode cX12_keyLetter 77 = .ok (.ireturn, 1) := by decide +kernel
theorem dX12_keyLetter_78 : decode cX12_keyLetter 78 = .ok (.bipush 69, 2) := by decide +kernel
theorem dX12_keyLetter_80 : decode cX12_keyLetter 80 = .ok (.ireturn, 1) := by decide +kernel
theorem dX12_keyLetter_81 : decode cX12_keyLetter 81 = .ok (.bipush 85, 2) := by decide +kernel
theorem dX12_keyLetter_83 : decode cX12_keyLetter 83 = .ok (.ireturn, 1) := by decide +kernel
theorem dX12_keyLetter_84 : decode cX12_keyLetter 84 = .ok (.bipush 70, 2) := by decide +kernel
theorem dX12_keyLetter_86 : decode cX12_keyLetter 86 = .ok (.ireturn, 1) := by decide +kernel
theorem dX12_keyLetter_87 : decode cX12_keyLetter 87 = .ok (.bipush 82, 2) := by decide +kernel
theorem dX12_keyLetter_89 : decode cX12_keyLetter 89 = .ok (.ireturn, 1) := by decide +kernel
theorem dX12_keyLetter_90 : decode cX12_keyLetter 90 = .ok (.bipush 66, 2) := by decide +kernel
theorem dX12_keyLetter_92 : decode cX12_keyLetter 92 = .ok (.ireturn, 1) := by decide +kernel
theorem dX12_keyLetter_93 : decode cX12_keyLetter 93 = .ok (.bipush 71, 2) := by decide +kernel
theorem dX12_keyLetter_95 : decode cX12_keyLetter 95 = .ok (.ireturn, 1) := by decide +kernel
theorem dX12_keysOf_0 : decode cX12_keysOf 0 = .ok (.iconst 0, 1) := by decide +kernel
theorem dX12_keysOf_1 : decode cX12_keysOf 1 = .ok (.istore_n 1, 1) := by decide +kernel
theorem dX12_keysOf_2 : decode cX12_keysOf 2 = .ok (.iconst 0, 1) := by decide +kernel
theorem dX12_keysOf_3 : decode cX12_keysOf 3 = .ok (.istore_n 2, 1) := by decide +kernel
theorem dX12_keysOf_4 : decode cX12_keysOf 4 = .ok (.iload_n 2, 1) := by decide +kernel
theorem dX12_keysOf_5 : decode cX12_keysOf 5 = .ok (.bipush 12, 2) := by decide +kernel
theorem dX12_keysOf_7 : decode cX12_keysOf 7 = .ok (.if_icmp .ge 17, 3) := by decide +kernel
theorem dX12_keysOf_10 : decode cX12_keysOf 10 = .ok (.iload_n 1, 1) := by decide +kernel
theorem dX12_keysOf_11 : decode cX12_keysOf 11 = .ok (.iload_n 0, 1) := by decide +kernel
theorem dX12_keysOf_12 : decode cX12_keysOf 12 = .ok (.iload_n 2, 1) := by decide +kernel
theorem dX12_keysOf_13 : decode cX12_keysOf 13 = .ok (.ishr, 1) := by decide +kernel
theorem dX12_keysOf_14 : decode cX12_keysOf 14 = .ok (.iconst 1, 1) := by decide +kernel
theorem dX12_keysOf_15 : decode cX12_keysOf 15 = .ok (.iand, 1) := by decide +kernel
theorem dX12_keysOf_16 : decode cX12_keysOf 16 = .ok (.iadd, 1) := by decide +kernel
theorem dX12_keysOf_17 : decode cX12_keysOf 17 = .ok (.istore_n 1, 1) := by decide +kernel
theorem dX12_keysOf_18 : decode cX12_keysOf 18 = .ok (.iinc 2 1, 3) := by decide +kernel
theorem dX12_keysOf_21 : decode cX12_keysOf 21 = .ok (.goto (-17), 3) := by decide +kernel
theorem dX12_keysOf_24 : decode cX12_keysOf 24 = .ok (.iload_n 1, 1) := by decide +kernel
theorem dX12_keysOf_25 : decode cX12_keysOf 25 = .ok (.ireturn, 1) := by decide +kernel
set_option maxRecDepth 20000 in
theorem ggX12_isIn_X12_entryAt : GoodIn wsX12_isIn wsX12_entryAt := goodIn_r _ [5] (by decide +kernel) (by decide +kernel)
set_option maxRecDepth 20000 in
theorem gX12_isIn_X12_entryAt : GoodIn wsX12_isIn (va_wsS RX12 39 yX12_entryAt wsX12_entryAt) := goodIn_app (goodIn_of _ (by decide +kernel)) ggX12_isIn_X12_entryAt
theorem dX12_isIn_0 : decode cX12_isIn 0 = .ok (.iload_n 2, 1) := by decide +kernel
theorem dX12_isIn_1 : decode cX12_isIn 1 = .ok (.aload_n 0, 1) := by decide +kernel
theorem dX12_isIn_2 : decode cX12_isIn 2 = .ok (.getfield 7, 3) := by decide +kernel
theorem dX12_isIn_5 : decode cX12_isIn 5 = .ok (.iload_n 3, 1) := by decide +kernel
theorem dX12_isIn_6 : decode cX12_isIn 6 = .ok (.invokestatic 39, 3) := by decide +kernel
theorem dX12_isIn_9 : decode cX12_isIn 9 = .ok (.iaload, 1) := by decide +kernel
theorem dX12_isIn_10 : decode cX12_isIn 10 = .ok (.iadd, 1) := by decide +kernel
theorem dX12_isIn_11 : decode cX12_isIn 11 = .ok (.aload_n 0, 1) := by decide +kernel
theorem dX12_isIn_12 : decode cX12_isIn 12 = .ok (.getfield 7, 3) := by decide +kernel
theorem dX12_isIn_15 : decode cX12_isIn 15 = .ok (.iload_n 1, 1) := by decide +kernel
theorem dX12_isIn_16 : decode cX12_isIn 16 = .ok (.invokestatic 39, 3) := by decide +kernel
theorem dX12_isIn_19 : decode cX12_isIn 19 = .ok (.iaload, 1) := by decide +kernel
theorem dX12_isIn_20 : decode cX12_isIn 20 = .ok (.if_icmp .gt 7, 3) := by decide +kernel
theorem dX12_isIn_23 : decode cX12_isIn 23 = .ok (.iconst 1, 1) := by decide +kernel
theorem dX12_isIn_24 : decode cX12_isIn 24 = .ok (.goto 4, 3) := by decide +kernel
theorem dX12_isIn_27 : decode cX12_isIn 27 = .ok (.iconst 0, 1) := by decide +kernel
theorem dX12_isIn_28 : decode cX12_isIn 28 = .ok (.istore 4, 2) := by decide +kernel
theorem dX12_isIn_30 : decode cX12_isIn 30 = .ok (.iconst 0, 1) := by decide +kernel
theorem dX12_isIn_31 : decode cX12_isIn 31 = .ok (.istore 5, 2) := by decide +kernel
theorem dX12_isIn_33 : decode cX12_isIn 33 = .ok (.iload 5, 2) := by decide +kernel
theorem dX12_isIn_35 : decode cX12_isIn 35 = .ok (.aload_n 0, 1) := by decide +kernel
theorem dX12_isIn_36 : decode cX12_isIn 36 = .ok (.getfield 7, 3) := by decide +kernel
theorem dX12_isIn_39 : decode cX12_isIn 39 = .ok (.iload_n 3, 1) := by decide +kernel
theorem dX12_isIn_40 : decode cX12_isIn 40 = .ok (.invokestatic 39, 3) := by decide +kernel
theorem dX12_isIn_43 : decode cX12_isIn 43 = .ok (.iaload, 1) := by decide +kernel
theorem dX12_isIn_44 : decode cX12_isIn 44 = .ok (.if_icmp .ge 54, 3) := by decide +kernel
theorem dX12_isIn_47 : decode cX12_isIn 47 = .ok (.iload 4, 2) := by decide +kernel
theorem dX12_isIn_49 : decode cX12_isIn 49 = .ok (.ifCond .eq 49, 3) := by decide +kernel
theorem dX12_isIn_52 : decode cX12_isIn 52 = .ok (.aload_n 0, 1) := by decide +kernel
theorem dX12_isIn_53 : decode cX12_isIn 53 = .ok (.getfield 7, 3) := by decide +kernel
theorem dX12_isIn_56 : decode cX12_isIn 56 = .ok (.iload_n 1, 1) := by decide +kernel
theorem dX12_isIn_57 : decode cX12_isIn 57 = .ok (.invokestatic 39, 3) := by decide +kernel
theorem dX12_isIn_60 : decode cX12_isIn 60 = .ok (.iconst 1, 1) := by decide +kernel
theorem dX12_isIn_61 : decode cX12_isIn 61 = .ok (.iadd, 1) := by decide +kernel
theorem dX12_isIn_62 : decode cX12_isIn 62 = .ok (.iload_n 2, 1) := by decide +kernel
theorem dX12_isIn_63 : decode cX12_isIn 63 = .ok (.iadd, 1) := by decide +kernel
theorem dX12_isIn_64 : decode cX12_isIn 64 = .ok (.iload 5, 2) := by decide +kernel
theorem dX12_isIn_66 : decode cX12_isIn 66 = .ok (.iadd, 1) := by decide +kernel
theorem dX12_isIn_67 : decode cX12_isIn 67 = .ok (.iaload, 1) := by decide +kernel
theorem dX12_isIn_68 : decode cX12_isIn 68 = .ok (.aload_n 0, 1) := by decide +kernel
theorem dX12_isIn_69 : decode cX12_isIn 69 = .ok (.getfield 7, 3) := by decide +kernel
theorem dX12_isIn_72 : decode cX12_isIn 72 = .ok (.iload_n 3, 1) := by decide +kernel
theorem dX12_isIn_73 : decode cX12_isIn 73 = .ok (.invokestatic 39, 3) := by decide +kernel
theorem dX12_isIn_76 : decode cX12_isIn 76 = .ok (.iconst 1, 1) := by decide +kernel
theorem dX12_isIn_77 : decode cX12_isIn 77 = .ok (.iadd, 1) := by decide +kernel
theorem dX12_isIn_78 : decode cX12_isIn 78 = .ok (.iload 5, 2) := by decide +kernel
theorem dX12_isIn_80 : decode cX12_isIn 80 = .ok (.iadd, 1) := by decide +kernel
theorem dX12_isIn_81 : decode cX12_isIn 81 = .ok (.iaload, 1) := by decide +kernel
theorem dX12_isIn_82 : decode cX12_isIn 82 = .ok (.if_icmp .ne 7, 3) := by decide +kernel
theorem dX12_isIn_85 : decode cX12_isIn 85 = .ok (.iconst 1, 1) := by decide +kernel
theorem dX12_isIn_86 : decode cX12_isIn 86 = .ok (.goto 4, 3) := by decide +kernel
theorem dX12_isIn_89 : decode cX12_isIn 89 = .ok (.iconst 0, 1) := by decide +kernel
theorem dX12_isIn_90 : decode cX12_isIn 90 = .ok (.istore 4, 2) := by decide +kernel
theorem dX12_isIn_92 : decode cX12_isIn 92 = .ok (.iinc 5 1, 3) := by decide +kernel
theorem dX12_isIn_95 : decode cX12_isIn 95 = .ok (.goto (-62), 3) := by decide +kernel
theorem dX12_isIn_98 : decode cX12_isIn 98 = .ok (.iload 4, 2) := by decide +kernel
theorem dX12_isIn_100 : decode cX12_isIn 100 = .ok (.ireturn, 1) := by decide +kernel
set_option maxRecDepth 20000 in
theorem ggX12_isSameWord_X12_entryAt : GoodIn wsX12_isSameWord wsX12_entryAt := goodIn_r _ [5] (by decide +kernel) (by decide +kernel)
set_option maxRecDepth 20000 in
theorem gX12_isSameWord_X12_entryAt : GoodIn wsX12_isSameWord (va_wsS RX12 39 yX12_entryAt wsX12_entryAt) := goodIn_app (goodIn_of _ (by decide +kernel)) ggX12_isSameWord_X12_entryAt
theorem dX12_isSameWord_0 : decode cX12_isSameWord 0 = .ok (.aload_n 0, 1) := by decide +kernel
theorem dX12_isSameWord_1 : decode cX12_isSameWord 1 = .ok (.getfield 7, 3) := by decide +kernel
theorem dX12_isSameWord_4 : decode cX12_isSameWord 4 = .ok (.iload_n 1, 1) := by decide +kernel
theorem dX12_isSameWord_5 : decode cX12_isSameWord 5 = .ok (.invokestatic 39, 3) := by decide +kernel
theorem dX12_isSameWord_8 : decode cX12_isSameWord 8 = .ok (.iconst 5, 1) := by decide +kernel
theorem dX12_isSameWord_9 : decode cX12_isSameWord 9 = .ok (.iadd, 1) := by decide +kernel
theorem dX12_isSameWord_10 : decode cX12_isSameWord 10 = .ok (.iaload, 1) := by decide +kernel
theorem dX12_isSameWord_11 : decode cX12_isSameWord 11 = .ok (.aload_n 0, 1) := by decide +kernel
theorem dX12_isSameWord_12 : decode cX12_isSameWord 12 = .ok (.getfield 7, 3) := by decide +kernel
theorem dX12_isSameWord_15 : decode cX12_isSameWord 15 = .ok (.iload_n 2, 1) := by decide +kernel
theorem dX12_isSameWord_16 : decode cX12_isSameWord 16 = .ok (.invokestatic 39, 3) := by decide +kernel
theorem dX12_isSameWord_19 : decode cX12_isSameWord 19 = .ok (.iconst 5, 1) := by decide +kernel
theorem dX12_isSameWord_20 : decode cX12_isSameWord 20 = .ok (.iadd, 1) := by decide +kernel
theorem dX12_isSameWord_21 : decode cX12_isSameWord 21 = .ok (.iaload, 1) := by decide +kernel
theorem dX12_isSameWord_22 : decode cX12_isSameWord 22 = .ok (.if_icmp .ne 7, 3) := by decide +kernel
theorem dX12_isSameWord_25 : decode cX12_isSameWord 25 = .ok (.iconst 1, 1) := by decide +kernel
theorem dX12_isSameWord_26 : decode cX12_isSameWord 26 = .ok (.goto 4, 3) := by decide +kernel
theorem dX12_isSameWord_29 : decode cX12_isSameWord 29 = .ok (.iconst 0, 1) := by decide +kernel
theorem dX12_isSameWord_30 : decode cX12_isSameWord 30 = .ok (.istore_n 3, 1) := by decide +kernel
theorem dX12_isSameWord_31 : decode cX12_isSameWord 31 = .ok (.iconst 0, 1) := by decide +kernel
theorem dX12_isSameWord_32 : decode cX12_isSameWord 32 = .ok (.istore 4, 2) := by decide +kernel
theorem dX12_isSameWord_34 : decode cX12_isSameWord 34 = .ok (.iload 4, 2) := by decide +kernel
theorem dX12_isSameWord_36 : decode cX12_isSameWord 36 = .ok (.aload_n 0, 1) := by decide +kernel
theorem dX12_isSameWord_37 : decode cX12_isSameWord 37 = .ok (.getfield 7, 3) := by decide +kernel
theorem dX12_isSameWord_40 : decode cX12_isSameWord 40 = .ok (.iload_n 1, 1) := by decide +kernel
theorem dX12_isSameWord_41 : decode cX12_isSameWord 41 = .ok (.invokestatic 39, 3) := by decide +kernel
theorem dX12_isSameWord_44 : decode cX12_isSameWord 44 = .ok (.iconst 5, 1) := by decide +kernel
theorem dX12_isSameWord_45 : decode cX12_isSameWord 45 = .ok (.iadd, 1) := by decide +kernel
theorem dX12_isSameWord_46 : decode cX12_isSameWord 46 = .ok (.iaload, 1) := by decide +kernel
theorem dX12_isSameWord_47 : decode cX12_isSameWord 47 = .ok (.if_icmp .ge 52, 3) := by decide +kernel
theorem dX12_isSameWord_50 : decode cX12_isSameWord 50 = .ok (.iload_n 3, 1) := by decide +kernel
theorem dX12_isSameWord_51 : decode cX12_isSameWord 51 = .ok (.ifCond .eq 48, 3) := by decide +kernel
theorem dX12_isSameWord_54 : decode cX12_isSameWord 54 = .ok (.aload_n 0, 1) := by decide +kernel
theorem dX12_isSameWord_55 : decode cX12_isSameWord 55 = .ok (.getfield 7, 3) := by decide +kernel
theorem dX12_isSameWord_58 : decode cX12_isSameWord 58 = .ok (.iload_n 1, 1) := by decide +kernel
theorem dX12_isSameWord_59 : decode cX12_isSameWord 59 = .ok (.invokestatic 39, 3) := by decide +kernel
theorem dX12_isSameWord_62 : decode cX12_isSameWord 62 = .ok (.bipush 6, 2) := by decide +kernel
theorem dX12_isSameWord_64 : decode cX12_isSameWord 64 = .ok (.iadd, 1) := by decide +kernel
theorem dX12_isSameWord_65 : decode cX12_isSameWord 65 = .ok (.iload 4, 2) := by decide +kernel
theorem dX12_isSameWord_67 : decode cX12_isSameWord 67 = .ok (.iadd, 1) := by decide +kernel
theorem dX12_isSameWord_68 : decode cX12_isSameWord 68 = .ok (.iaload, 1) := by decide +kernel
theorem dX12_isSameWord_69 : decode cX12_isSameWord 69 = .ok (.aload_n 0, 1) := by decide +kernel
theorem dX12_isSameWord_70 : decode cX12_isSameWord 70 = .ok (.getfield 7, 3) := by decide +kernel
theorem dX12_isSameWord_73 : decode cX12_isSameWord 73 = .ok (.iload_n 2, 1) := by decide +kernel
theorem dX12_isSameWord_74 : decode cX12_isSameWord 74 = .ok (.invokestatic 39, 3) := by decide +kernel
theorem dX12_isSameWord_77 : decode cX12_isSameWord 77 = .ok (.bipush 6, 2) := by decide +kernel
theorem dX12_isSameWord_79 : decode cX12_isSameWord 79 = .ok (.iadd, 1) := by decide +kernel
theorem dX12_isSameWord_80 : decode cX12_isSameWord 80 = .ok (.iload 4, 2) := by decide +kernel
theorem dX12_isSameWord_82 : decode cX12_isSameWord 82 = .ok (.iadd, 1) := by decide +kernel
theorem dX12_isSameWord_83 : decode cX12_isSameWord 83 = .ok (.iaload, 1) := by decide +kernel
theorem dX12_isSameWord_84 : decode cX12_isSameWord 84 = .ok (.if_icmp .ne 7, 3) := by decide +kernel
theorem dX12_isSameWord_87 : decode cX12_isSameWord 87 = .ok (.iconst 1, 1) := by decide +kernel
theorem dX12_isSameWord_88 : decode cX12_isSameWord 88 = .ok (.goto 4, 3) := by decide +kernel
theorem dX12_isSameWord_91 : decode cX12_isSameWord 91 = .ok (.iconst 0, 1) := by decide +kernel
theorem dX12_isSameWord_92 : decode cX12_isSameWord 92 = .ok (.istore_n 3, 1) := by decide +kernel
theorem dX12_isSameWord_93 : decode cX12_isSameWord 93 = .ok (.iinc 4 1, 3) := by decide +kernel
theorem dX12_isSameWord_96 : decode cX12_isSameWord 96 = .ok (.goto (-62), 3) := by decide +kernel
theorem dX12_isSameWord_99 : decode cX12_isSameWord 99 = .ok (.iload_n 3, 1) := by decide +kernel
theorem dX12_isSameWord_100 : decode cX12_isSameWord 100 = .ok (.ireturn, 1) := by decide +kernel
set_option maxRecDepth 20000 in
theorem ggX12_isTwo_X12_entryAt : GoodIn wsX12_isTwo wsX12_entryAt := goodIn_r _ [5] (by decide +kernel) (by decide +kernel)
set_option maxRecDepth 20000 in
theorem gX12_isTwo_X12_entryAt : GoodIn wsX12_isTwo (va_wsS RX12 39 yX12_entryAt wsX12_entryAt) := goodIn_app (goodIn_of _ (by decide +kernel)) ggX12_isTwo_X12_entryAt
set_option maxRecDepth 20000 in
theorem ggX12_isTwo_X12_isIn : GoodIn wsX12_isTwo wsX12_isIn := goodIn_r _ [9, 1, 2, 3, 4, 5, 10, 11, 12, 13, 14, 15, 16, 17, 18, 19, 20, 21, 22, 23] (by decide +kernel) (by decide +kernel)
set_option maxRecDepth 20000 in
theorem gX12_isTwo_X12_isIn : GoodIn wsX12_isTwo (wsV RX12 43 RX12 yX12_isIn wsX12_isIn) := goodIn_app (goodIn_of _ (by decide +kernel)) ggX12_isTwo_X12_isIn
theorem dX12_isTwo_0 : decode cX12_isTwo 0 = .ok (.iconst 0, 1) := by decide +kernel
theorem dX12_isTwo_1 : decode cX12_isTwo 1 = .ok (.istore_n 2, 1) := by decide +kernel
theorem dX12_isTwo_2 : decode cX12_isTwo 2 = .ok (.iconst 0, 1) := by decide +kernel
theorem dX12_isTwo_3 : decode cX12_isTwo 3 = .ok (.istore_n 3, 1) := by decide +kernel
theorem dX12_isTwo_4 : decode cX12_isTwo 4 = .ok (.iload_n 3, 1) := by decide +kernel
theorem dX12_isTwo_5 : decode cX12_isTwo 5 = .ok (.aload_n 0, 1) := by decide +kernel
theorem dX12_isTwo_6 : decode cX12_isTwo 6 = .ok (.getfield 7, 3) := by decide +kernel
theorem dX12_isTwo_9 : decode cX12_isTwo 9 = .ok (.iconst 0, 1) := by decide +kernel
theorem dX12_isTwo_10 : decode cX12_isTwo 10 = .ok (.iaload, 1) := by decide +kernel
theorem dX12_isTwo_11 : decode cX12_isTwo 11 = .ok (.if_icmp .ge 97, 3) := by decide +kernel
theorem dX12_isTwo_14 : decode cX12_isTwo 14 = .ok (.iconst 0, 1) := by decide +kernel
theorem dX12_isTwo_15 : decode cX12_isTwo 15 = .ok (.istore 4, 2) := by decide +kernel
theorem dX12_isTwo_17 : decode cX12_isTwo 17 = .ok (.iload 4, 2) := by decide +kernel
theorem dX12_isTwo_19 : decode cX12_isTwo 19 = .ok (.aload_n 0, 1) := by decide +kernel
theorem dX12_isTwo_20 : decode cX12_isTwo 20 = .ok (.getfield 7, 3) := by decide +kernel
theorem dX12_isTwo_23 : decode cX12_isTwo 23 = .ok (.iconst 0, 1) := by decide +kernel
theorem dX12_isTwo_24 : decode cX12_isTwo 24 = .ok (.iaload, 1) := by decide +kernel
theorem dX12_isTwo_25 : decode cX12_isTwo 25 = .ok (.if_icmp .ge 77, 3) := by decide +kernel
theorem dX12_isTwo_28 : decode cX12_isTwo 28 = .ok (.aload_n 0, 1) := by decide +kernel
theorem dX12_isTwo_29 : decode cX12_isTwo 29 = .ok (.getfield 7, 3) := by decide +kernel
theorem dX12_isTwo_32 : decode cX12_isTwo 32 = .ok (.iload_n 3, 1) := by decide +kernel
theorem dX12_isTwo_33 : decode cX12_isTwo 33 = .ok (.invokestatic 39, 3) := by decide +kernel
theorem dX12_isTwo_36 : decode cX12_isTwo 36 = .ok (.iaload, 1) := by decide +kernel
theorem dX12_isTwo_37 : decode cX12_isTwo 37 = .ok (.istore 5, 2) := by decide +kernel
theorem dX12_isTwo_39 : decode cX12_isTwo 39 = .ok (.iload_n 2, 1) := by decide +kernel
theorem dX12_isTwo_40 : decode cX12_isTwo 40 = .ok (.ifCond .ne 50, 3) := by decide +kernel
theorem dX12_isTwo_43 : decode cX12_isTwo 43 = .ok (.iload 5, 2) := by decide +kernel
theorem dX12_isTwo_45 : decode cX12_isTwo 45 = .ok (.aload_n 0, 1) := by decide +kernel
theorem dX12_isTwo_46 : decode cX12_isTwo 46 = .ok (.getfield 7, 3) := by decide +kernel
theorem dX12_isTwo_49 : decode cX12_isTwo 49 = .ok (.iload 4, 2) := by decide +kernel
theorem dX12_isTwo_51 : decode cX12_isTwo 51 = .ok (.invokestatic 39, 3) := by decide +kernel
theorem dX12_isTwo_54 : decode cX12_isTwo 54 = .ok (.iaload, 1) := by decide +kernel
theorem dX12_isTwo_55 : decode cX12_isTwo 55 = .ok (.iadd, 1) := by decide +kernel
theorem dX12_isTwo_56 : decode cX12_isTwo 56 = .ok (.aload_n 0, 1) := by decide +kernel
theorem dX12_isTwo_57 : decode cX12_isTwo 57 = .ok (.getfield 7, 3) := by decide +kernel
theorem dX12_isTwo_60 : decode cX12_isTwo 60 = .ok (.iload_n 1, 1) := by decide +kernel
theorem dX12_isTwo_61 : decode cX12_isTwo 61 = .ok (.invokestatic 39, 3) := by decide +kernel
theorem dX12_isTwo_64 : decode cX12_isTwo 64 = .ok (.iaload, 1) := by decide +kernel
theorem dX12_isTwo_65 : decode cX12_isTwo 65 = .ok (.if_icmp .ne 29, 3) := by decide +kernel
theorem dX12_isTwo_68 : decode cX12_isTwo 68 = .ok (.aload_n 0, 1) := by decide +kernel
theorem dX12_isTwo_69 : decode cX12_isTwo 69 = .ok (.iload_n 1, 1) := by decide +kernel
theorem dX12_isTwo_70 : decode cX12_isTwo 70 = .ok (.iconst 0, 1) := by decide +kernel
theorem dX12_isTwo_71 : decode cX12_isTwo 71 = .ok (.iload_n 3, 1) := by decide +kernel
theorem dX12_isTwo_72 : decode cX12_isTwo 72 = .ok (.invokevirtual 43, 3) := by decide +kernel
theorem dX12_isTwo_75 : decode cX12_isTwo 75 = .ok (.ifCond .eq 19, 3) := by decide +kernel
theorem dX12_isTwo_78 : decode cX12_isTwo 78 = .ok (.aload_n 0, 1) := by decide +kernel
theorem dX12_isTwo_79 : decode cX12_isTwo 79 = .ok (.iload_n 1, 1) := by decide +kernel
theorem dX12_isTwo_80 : decode cX12_isTwo 80 = .ok (.iload 5, 2) := by decide +kernel
theorem dX12_isTwo_82 : decode cX12_isTwo 82 = .ok (.iload 4, 2) := by decide +kernel
theorem dX12_isTwo_84 : decode cX12_isTwo 84 = .ok (.invokevirtual 43, 3) := by decide +kernel
theorem dX12_isTwo_87 : decode cX12_isTwo 87 = .ok (.ifCond .eq 7, 3) := by decide +kernel
theorem dX12_isTwo_90 : decode cX12_isTwo 90 = .ok (.iconst 1, 1) := by decide +kernel
theorem dX12_isTwo_91 : decode cX12_isTwo 91 = .ok (.goto 4, 3) := by decide +kernel
theorem dX12_isTwo_94 : decode cX12_isTwo 94 = .ok (.iconst 0, 1) := by decide +kernel
theorem dX12_isTwo_95 : decode cX12_isTwo 95 = .ok (.istore_n 2, 1) := by decide +kernel
theorem dX12_isTwo_96 : decode cX12_isTwo 96 = .ok (.iinc 4 1, 3) := by decide +kernel
theorem dX12_isTwo_99 : decode cX12_isTwo 99 = .ok (.goto (-82), 3) := by decide +kernel
theorem dX12_isTwo_102 : decode cX12_isTwo 102 = .ok (.iinc 3 1, 3) := by decide +kernel
theorem dX12_isTwo_105 : decode cX12_isTwo 105 = .ok (.goto (-101), 3) := by decide +kernel
theorem dX12_isTwo_108 : decode cX12_isTwo 108 = .ok (.iload_n 2, 1) := by decide +kernel
theorem dX12_isTwo_109 : decode cX12_isTwo 109 = .ok (.ireturn, 1) := by decide +kernel
set_option maxRecDepth 20000 in
theorem ggX12_clash_X12_isIn : GoodIn wsX12_clash wsX12_isIn := goodIn_r _ [6, 1, 7, 8, 5, 9, 18, 19, 20, 21, 22, 23, 24, 25, 26, 27, 28, 29, 30, 31] (by decide +kernel) (by decide +kernel)
set_option maxRecDepth 20000 in
theorem gX12_clash_X12_isIn : GoodIn wsX12_clash (wsV RX12 43 RX12 yX12_isIn wsX12_isIn) := goodIn_app (goodIn_of _ (by decide +kernel)) ggX12_clash_X12_isIn
set_option maxRecDepth 20000 in
theorem ggX12_clash_X12_isSameWord : GoodIn wsX12_clash wsX12_isSameWord := goodIn_r _ [13, 1, 7, 8, 5, 9, 18, 19, 20, 21, 22, 23, 24, 25, 26, 27, 28, 29, 30, 31] (by decide +kernel) (by decide +kernel)
set_option maxRecDepth 20000 in
theorem gX12_clash_X12_isSameWord : GoodIn wsX12_clash (wsV RX12 46 RX12 yX12_isSameWord wsX12_isSameWord) := goodIn_app (goodIn_of _ (by decide +kernel)) ggX12_clash_X12_isSameWord
set_option maxRecDepth 20000 in
theorem ggX12_clash_X12_isTwo : GoodIn wsX12_clash wsX12_isTwo := goodIn_r _ [17, 1, 7, 8, 5, 9, 2, 3, 4, 6, 18, 19, 20, 21, 22, 23, 24, 25, 26, 27, 28, 29, 30, 31] (by decide +kernel) (by decide +kernel)
set_option maxRecDepth 20000 in
theorem gX12_clash_X12_isTwo : GoodIn wsX12_clash (wsV RX12 50 RX12 yX12_isTwo wsX12_isTwo) := goodIn_app (goodIn_of _ (by decide +kernel)) ggX12_clash_X12_isTwo
theorem dX12_clash_0 : decode cX12_clash 0 = .ok (.iconst 0, 1) := by decide +kernel
theorem dX12_clash_1 : decode cX12_clash 1 = .ok (.istore_n 2, 1) := by decide +kernel
theorem dX12_clash_2 : decode cX12_clash 2 = .ok (.iconst 0, 1) := by decide +kernel
theorem dX12_clash_3 : decode cX12_clash 3 = .ok (.istore_n 3, 1) := by decide +kernel
theorem dX12_clash_4 : decode cX12_clash 4 = .ok (.iconst 0, 1) := by decide +kernel
theorem dX12_clash_5 : decode cX12_clash 5 = .ok (.istore 4, 2) := by decide +kernel
theorem dX12_clash_7 : decode cX12_clash 7 = .ok (.iconst 0, 1) := by decide +kernel
theorem dX12_clash_8 : decode cX12_clash 8 = .ok (.istore 5, 2) := by decide +kernel
theorem dX12_clash_10 : decode cX12_clash 10 = .ok (.iload 5, 2) := by decide +kernel
theorem dX12_clash_12 : decode cX12_clash 12 = .ok (.aload_n 0, 1) := by decide +kernel
theorem dX12_clash_13 : decode cX12_clash 13 = .ok (.getfield 7, 3) := by decide +kernel
theorem dX12_clash_16 : decode cX12_clash 16 = .ok (.iconst 0, 1) := by decide +kernel
theorem dX12_clash_17 : decode cX12_clash 17 = .ok (.iaload, 1) := by decide +kernel
theorem dX12_clash_18 : decode cX12_clash 18 = .ok (.if_icmp .ge 91, 3) := by decide +kernel
theorem dX12_clash_21 : decode cX12_clash 21 = .ok (.iload_n 2, 1) := by decide +kernel
theorem dX12_clash_22 : decode cX12_clash 22 = .ok (.ifCond .ne 20, 3) := by decide +kernel
theorem dX12_clash_25 : decode cX12_clash 25 = .ok (.iload 5, 2) := by decide +kernel
theorem dX12_clash_27 : decode cX12_clash 27 = .ok (.iload_n 1, 1) := by decide +kernel
theorem dX12_clash_28 : decode cX12_clash 28 = .ok (.if_icmp .eq 18, 3) := by decide +kernel
theorem dX12_clash_31 : decode cX12_clash 31 = .ok (.aload_n 0, 1) := by decide +kernel
theorem dX12_clash_32 : decode cX12_clash 32 = .ok (.iload 5, 2) := by decide +kernel
theorem dX12_clash_34 : decode cX12_clash 34 = .ok (.iconst 0, 1) := by decide +kernel
theorem dX12_clash_35 : decode cX12_clash 35 = .ok (.iload_n 1, 1) := by decide +kernel
theorem dX12_clash_36 : decode cX12_clash 36 = .ok (.invokevirtual 43, 3) := by decide +kernel
theorem dX12_clash_39 : decode cX12_clash 39 = .ok (.ifCond .eq 7, 3) := by decide +kernel
theorem dX12_clash_42 : decode cX12_clash 42 = .ok (.iconst 1, 1) := by decide +kernel
theorem dX12_clash_43 : decode cX12_clash 43 = .ok (.goto 4, 3) := by decide +kernel
theorem dX12_clash_46 : decode cX12_clash 46 = .ok (.iconst 0, 1) := by decide +kernel
theorem dX12_clash_47 : decode cX12_clash 47 = .ok (.istore_n 2, 1) := by decide +kernel
theorem dX12_clash_48 : decode cX12_clash 48 = .ok (.iload_n 3, 1) := by decide +kernel
theorem dX12_clash_49 : decode cX12_clash 49 = .ok (.ifCond .ne 20, 3) := by decide +kernel
theorem dX12_clash_52 : decode cX12_clash 52 = .ok (.iload 5, 2) := by decide +kernel
theorem dX12_clash_54 : decode cX12_clash 54 = .ok (.iload_n 1, 1) := by decide +kernel
theorem dX12_clash_55 : decode cX12_clash 55 = .ok (.if_icmp .eq 18, 3) := by decide +kernel
theorem dX12_clash_58 : decode cX12_clash 58 = .ok (.aload_n 0, 1) := by decide +kernel
theorem dX12_clash_59 : decode cX12_clash 59 = .ok (.iload_n 1, 1) := by decide +kernel
theorem dX12_clash_60 : decode cX12_clash 60 = .ok (.iconst 0, 1) := by decide +kernel
theorem dX12_clash_61 : decode cX12_clash 61 = .ok (.iload 5, 2) := by decide +kernel
theorem dX12_clash_63 : decode cX12_clash 63 = .ok (.invokevirtual 43, 3) := by decide +kernel
theorem dX12_clash_66 : decode cX12_clash 66 = .ok (.ifCond .eq 7, 3) := by decide +kernel
theorem dX12_clash_69 : decode cX12_clash 69 = .ok (.iconst 1, 1) := by decide +kernel
theorem dX12_clash_70 : decode cX12_clash 70 = .ok (.goto 4, 3) := by decide +kernel
theorem dX12_clash_73 : decode cX12_clash 73 = .ok (.iconst 0, 1) := by decide +kernel
theorem dX12_clash_74 : decode cX12_clash 74 = .ok (.istore_n 3, 1) := by decide +kernel
theorem dX12_clash_75 : decode cX12_clash 75 = .ok (.iload 4, 2) := by decide +kernel
theorem dX12_clash_77 : decode cX12_clash 77 = .ok (.ifCond .ne 19, 3) := by decide +kernel
theorem dX12_clash_80 : decode cX12_clash 80 = .ok (.iload 5, 2) := by decide +kernel
theorem dX12_clash_82 : decode cX12_clash 82 = .ok (.iload_n 1, 1) := by decide +kernel
theorem dX12_clash_83 : decode cX12_clash 83 = .ok (.if_icmp .eq 17, 3) := by decide +kernel
theorem dX12_clash_86 : decode cX12_clash 86 = .ok (.aload_n 0, 1) := by decide +kernel
theorem dX12_clash_87 : decode cX12_clash 87 = .ok (.iload 5, 2) := by decide +kernel
theorem dX12_clash_89 : decode cX12_clash 89 = .ok (.iload_n 1, 1) := by decide +kernel
theorem dX12_clash_90 : decode cX12_clash 90 = .ok (.invokevirtual 46, 3) := by decide +kernel
theorem dX12_clash_93 : decode cX12_clash 93 = .ok (.ifCond .eq 7, 3) := by decide +kernel
theorem dX12_clash_96 : decode cX12_clash 96 = .ok (.iconst 1, 1) := by decide +kernel
theorem dX12_clash_97 : decode cX12_clash 97 = .ok (.goto 4, 3) := by decide +kernel
theorem dX12_clash_100 : decode cX12_clash 100 = .ok (.iconst 0, 1) := by decide +kernel
theorem dX12_clash_101 : decode cX12_clash 101 = .ok (.istore 4, 2) := by decide +kernel
theorem dX12_clash_103 : decode cX12_clash 103 = .ok (.iinc 5 1, 3) := by decide +kernel
theorem dX12_clash_106 : decode cX12_clash 106 = .ok (.goto (-96), 3) := by decide +kernel
theorem dX12_clash_109 : decode cX12_clash 109 = .ok (.iload_n 2, 1) := by decide +kernel
theorem dX12_clash_110 : decode cX12_clash 110 = .ok (.ifCond .eq 7, 3) := by decide +kernel
theorem dX12_clash_113 : decode cX12_clash 113 = .ok (.iconst 1, 1) := by decide +kernel
theorem dX12_clash_114 : decode cX12_clash 114 = .ok (.goto 33, 3) := by decide +kernel
theorem dX12_clash_117 : decode cX12_clash 117 = .ok (.aload_n 0, 1) := by decide +kernel
theorem dX12_clash_118 : decode cX12_clash 118 = .ok (.iload_n 1, 1) := by decide +kernel
theorem dX12_clash_119 : decode cX12_clash 119 = .ok (.invokevirtual 50, 3) := by decide +kernel
theorem dX12_clash_122 : decode cX12_clash 122 = .ok (.ifCond .eq 7, 3) := by decide +kernel
theorem dX12_clash_125 : decode cX12_clash 125 = .ok (.iconst 2, 1) := by decide +kernel
theorem dX12_clash_126 : decode cX12_clash 126 = .ok (.goto 21, 3) := by decide +kernel
theorem dX12_clash_129 : decode cX12_clash 129 = .ok (.iload_n 3, 1) := by decide +kernel
theorem dX12_clash_130 : decode cX12_clash 130 = .ok (.ifCond .eq 7, 3) := by decide +kernel
theorem dX12_clash_133 : decode cX12_clash 133 = .ok (.iconst 3, 1) := by decide +kernel
theorem dX12_clash_134 : decode cX12_clash 134 = .ok (.goto 13, 3) := by decide +kernel
theorem dX12_clash_137 : decode cX12_clash 137 = .ok (.iload 4, 2) := by decide +kernel
theorem dX12_clash_139 : decode cX12_clash 139 = .ok (.ifCond .eq 7, 3) := by decide +kernel
theorem dX12_clash_142 : decode cX12_clash 142 = .ok (.iconst 4, 1) := by decide +kernel
theorem dX12_clash_143 : decode cX12_clash 143 = .ok (.goto 4, 3) := by decide +kernel
theorem dX12_clash_146 : decode cX12_clash 146 = .ok (.iconst 0, 1) := by decide +kernel
theorem dX12_clash_147 : decode cX12_clash 147 = .ok (.ireturn, 1) := by decide +kernel
set_option maxRecDepth 20000 in
theorem ggX12_longestAt_X12_entryAt : GoodIn wsX12_longestAt wsX12_entryAt := goodIn_r _ [7] (by decide +kernel) (by decide +kernel)
set_option maxRecDepth 20000 in
theorem gX12_longestAt_X12_entryAt : GoodIn wsX12_longestAt (va_wsS RX12 39 yX12_entryAt wsX12_entryAt) := goodIn_app (goodIn_of _ (by decide +kernel)) ggX12_longestAt_X12_entryAt
theorem dX12_longestAt_0 : decode cX12_longestAt 0 = .ok (.iconst (-1), 1) := by decide +kernel
theorem dX12_longestAt_1 : decode cX12_longestAt 1 = .ok (.istore_n 2, 1) := by decide +kernel
theorem dX12_longestAt_2 : decode cX12_longestAt 2 = .ok (.iconst 0, 1) := by decide +kernel
theorem dX12_longestAt_3 : decode cX12_longestAt 3 = .ok (.istore_n 3, 1) := by decide +kernel
theorem dX12_longestAt_4 : decode cX12_longestAt 4 = .ok (.iload_n 3, 1) := by decide +kernel
theorem dX12_longestAt_5 : decode cX12_longestAt 5 = .ok (.aload_n 0, 1) := by decide +kernel
theorem dX12_longestAt_6 : decode cX12_longestAt 6 = .ok (.getfield 7, 3) := by decide +kernel
theorem dX12_longestAt_9 : decode cX12_longestAt 9 = .ok (.iconst 0, 1) := by decide +kernel
theorem dX12_longestAt_10 : decode cX12_longestAt 10 = .ok (.iaload, 1) := by decide +kernel
theorem dX12_longestAt_11 : decode cX12_longestAt 11 = .ok (.if_icmp .ge 122, 3) := by decide +kernel
theorem dX12_longestAt_14 : decode cX12_longestAt 14 = .ok (.aload_n 0, 1) := by decide +kernel
theorem dX12_longestAt_15 : decode cX12_longestAt 15 = .ok (.getfield 7, 3) := by decide +kernel
theorem dX12_longestAt_18 : decode cX12_longestAt 18 = .ok (.iload_n 3, 1) := by decide +kernel
theorem dX12_longestAt_19 : decode cX12_longestAt 19 = .ok (.invokestatic 39, 3) := by decide +kernel
theorem dX12_longestAt_22 : decode cX12_longestAt 22 = .ok (.iaload, 1) := by decide +kernel
theorem dX12_longestAt_23 : decode cX12_longestAt 23 = .ok (.istore 4, 2) := by decide +kernel
theorem dX12_longestAt_25 : decode cX12_longestAt 25 = .ok (.iload_n 1, 1) := by decide +kernel
theorem dX12_longestAt_26 : decode cX12_longestAt 26 = .ok (.iload 4, 2) := by decide +kernel
theorem dX12_longestAt_28 : decode cX12_longestAt 28 = .ok (.iadd, 1) := by decide +kernel
theorem dX12_longestAt_29 : decode cX12_longestAt 29 = .ok (.aload_n 0, 1) := by decide +kernel
theorem dX12_longestAt_30 : decode cX12_longestAt 30 = .ok (.getfield 54, 3) := by decide +kernel
theorem dX12_longestAt_33 : decode cX12_longestAt 33 = .ok (.if_icmp .gt 7, 3) := by decide +kernel
theorem dX12_longestAt_36 : decode cX12_longestAt 36 = .ok (.iconst 1, 1) := by decide +kernel
theorem dX12_longestAt_37 : decode cX12_longestAt 37 = .ok (.goto 4, 3) := by decide +kernel
theorem dX12_longestAt_40 : decode cX12_longestAt 40 = .ok (.iconst 0, 1) := by decide +kernel
theorem dX12_longestAt_41 : decode cX12_longestAt 41 = .ok (.istore 5, 2) := by decide +kernel
theorem dX12_longestAt_43 : decode cX12_longestAt 43 = .ok (.iconst 0, 1) := by decide +kernel
theorem dX12_longestAt_44 : decode cX12_longestAt 44 = .ok (.istore 6, 2) := by decide +kernel
theorem dX12_longestAt_46 : decode cX12_longestAt 46 = .ok (.iload 6, 2) := by decide +kernel
theorem dX12_longestAt_48 : decode cX12_longestAt 48 = .ok (.iload 4, 2) := by decide +kernel
theorem dX12_longestAt_50 : decode cX12_longestAt 50 = .ok (.if_icmp .ge 47, 3) := by decide +kernel
theorem dX12_longestAt_53 : decode cX12_longestAt 53 = .ok (.iload 5, 2) := by decide +kernel
theorem dX12_longestAt_55 : decode cX12_longestAt 55 = .ok (.ifCond .eq 42, 3) := by decide +kernel
theorem dX12_longestAt_58 : decode cX12_longestAt 58 = .ok (.aload_n 0, 1) := by decide +kernel
theorem dX12_longestAt_59 : decode cX12_longestAt 59 = .ok (.getfield 19, 3) := by decide +kernel
theorem dX12_longestAt_62 : decode cX12_longestAt 62 = .ok (.iload_n 1, 1) := by decide +kernel
theorem dX12_longestAt_63 : decode cX12_longestAt 63 = .ok (.iload 6, 2) := by decide +kernel
theorem dX12_longestAt_65 : decode cX12_longestAt 65 = .ok (.iadd, 1) := by decide +kernel
theorem dX12_longestAt_66 : decode cX12_longestAt 66 = .ok (.iaload, 1) := by decide +kernel
theorem dX12_longestAt_67 : decode cX12_longestAt 67 = .ok (.aload_n 0, 1) := by decide +kernel
theorem dX12_longestAt_68 : decode cX12_longestAt 68 = .ok (.getfield 7, 3) := by decide +kernel
theorem dX12_longestAt_71 : decode cX12_longestAt 71 = .ok (.iload_n 3, 1) := by decide +kernel
theorem dX12_longestAt_72 : decode cX12_longestAt 72 = .ok (.invokestatic 39, 3) := by decide +kernel
theorem dX12_longestAt_75 : decode cX12_longestAt 75 = .ok (.iconst 1, 1) := by decide +kernel
theorem dX12_longestAt_76 : decode cX12_longestAt 76 = .ok (.iadd, 1) := by decide +kernel
theorem dX12_longestAt_77 : decode cX12_longestAt 77 = .ok (.iload 6, 2) := by decide +kernel
theorem dX12_longestAt_79 : decode cX12_longestAt 79 = .ok (.iadd, 1) := by decide +kernel
theorem dX12_longestAt_80 : decode cX12_longestAt 80 = .ok (.iaload, 1) := by decide +kernel
theorem dX12_longestAt_81 : decode cX12_longestAt 81 = .ok (.if_icmp .ne 7, 3) := by decide +kernel
theorem dX12_longestAt_84 : decode cX12_longestAt 84 = .ok (.iconst 1, 1) := by decide +kernel
theorem dX12_longestAt_85 : decode cX12_longestAt 85 = .ok (.goto 4, 3) := by decide +kernel
theorem dX12_longestAt_88 : decode cX12_longestAt 88 = .ok (.iconst 0, 1) := by decide +kernel
theorem dX12_longestAt_89 : decode cX12_longestAt 89 = .ok (.istore 5, 2) := by decide +kernel
theorem dX12_longestAt_91 : decode cX12_longestAt 91 = .ok (.iinc 6 1, 3) := by decide +kernel
theorem dX12_longestAt_94 : decode cX12_longestAt 94 = .ok (.goto (-48), 3) := by decide +kernel
theorem dX12_longestAt_97 : decode cX12_longestAt 97 = .ok (.iload 5, 2) := by decide +kernel
theorem dX12_longestAt_99 : decode cX12_longestAt 99 = .ok (.ifCond .eq 26, 3) := by decide +kernel
theorem dX12_longestAt_102 : decode cX12_longestAt 102 = .ok (.iload_n 2, 1) := by decide +kernel
theorem dX12_longestAt_103 : decode cX12_longestAt 103 = .ok (.iconst (-1), 1) := by decide +kernel
theorem dX12_longestAt_104 : decode cX12_longestAt 104 = .ok (.if_icmp .eq 17, 3) := by decide +kernel
theorem dX12_longestAt_107 : decode cX12_longestAt 107 = .ok (.iload 4, 2) := by decide +kernel
theorem dX12_longestAt_109 : decode cX12_longestAt 109 = .ok (.aload_n 0, 1) := by decide +kernel
theorem dX12_longestAt_110 : decode cX12_longestAt 110 = .ok (.getfield 7, 3) := by decide +kernel
theorem dX12_longestAt_113 : decode cX12_longestAt 113 = .ok (.iload_n 2, 1) := by decide +kernel
theorem dX12_longestAt_114 : decode cX12_longestAt 114 = .ok (.invokestatic 39, 3) := by decide +kernel
theorem dX12_longestAt_117 : decode cX12_longestAt 117 = .ok (.iaload, 1) := by decide +kernel
theorem dX12_longestAt_118 : decode cX12_longestAt 118 = .ok (.if_icmp .le 7, 3) := by decide +kernel
theorem dX12_longestAt_121 : decode cX12_longestAt 121 = .ok (.iload_n 3, 1) := by decide +kernel
theorem dX12_longestAt_122 : decode cX12_longestAt 122 = .ok (.goto 4, 3) := by decide +kernel
theorem dX12_longestAt_125 : decode cX12_longestAt 125 = .ok (.iload_n 2, 1) := by decide +kernel
theorem dX12_longestAt_126 : decode cX12_longestAt 126 = .ok (.istore_n 2, 1) := by decide +kernel
theorem dX12_longestAt_127 : decode cX12_longestAt 127 = .ok (.iinc 3 1, 3) := by decide +kernel
theorem dX12_longestAt_130 : decode cX12_longestAt 130 = .ok (.goto (-126), 3) := by decide +kernel
theorem dX12_longestAt_133 : decode cX12_longestAt 133 = .ok (.iload_n 2, 1) := by decide +kernel
theorem dX12_longestAt_134 : decode cX12_longestAt 134 = .ok (.ireturn, 1) := by decide +kernel
set_option maxRecDepth 20000 in
theorem ggX12_fixedStrokes_X12_itemAt : GoodIn wsX12_fixedStrokes wsX12_itemAt := goodIn_r _ [5] (by decide +kernel) (by decide +kernel)
set_option maxRecDepth 20000 in
theorem gX12_fixedStrokes_X12_itemAt : GoodIn wsX12_fixedStrokes (va_wsS RX12 57 yX12_itemAt wsX12_itemAt) := goodIn_app (goodIn_of _ (by decide +kernel)) ggX12_fixedStrokes_X12_itemAt
theorem dX12_fixedStrokes_0 : decode cX12_fixedStrokes 0 = .ok (.iconst 0, 1) := by decide +kernel
theorem dX12_fixedStrokes_1 : decode cX12_fixedStrokes 1 = .ok (.istore_n 1, 1) := by decide +kernel
theorem dX12_fixedStrokes_2 : decode cX12_fixedStrokes 2 = .ok (.iconst 0, 1) := by decide +kernel
theorem dX12_fixedStrokes_3 : decode cX12_fixedStrokes 3 = .ok (.istore_n 2, 1) := by decide +kernel
theorem dX12_fixedStrokes_4 : decode cX12_fixedStrokes 4 = .ok (.iload_n 2, 1) := by decide +kernel
theorem dX12_fixedStrokes_5 : decode cX12_fixedStrokes 5 = .ok (.aload_n 0, 1) := by decide +kernel
theorem dX12_fixedStrokes_6 : decode cX12_fixedStrokes 6 = .ok (.getfield 7, 3) := by decide +kernel
theorem dX12_fixedStrokes_9 : decode cX12_fixedStrokes 9 = .ok (.sipush 1315, 3) := by decide +kernel
theorem dX12_fixedStrokes_12 : decode cX12_fixedStrokes 12 = .ok (.iaload, 1) := by decide +kernel
theorem dX12_fixedStrokes_13 : decode cX12_fixedStrokes 13 = .ok (.if_icmp .ge 21, 3) := by decide +kernel
theorem dX12_fixedStrokes_16 : decode cX12_fixedStrokes 16 = .ok (.iload_n 1, 1) := by decide +kernel
theorem dX12_fixedStrokes_17 : decode cX12_fixedStrokes 17 = .ok (.aload_n 0, 1) := by decide +kernel
theorem dX12_fixedStrokes_18 : decode cX12_fixedStrokes 18 = .ok (.getfield 7, 3) := by decide +kernel
theorem dX12_fixedStrokes_21 : decode cX12_fixedStrokes 21 = .ok (.iload_n 2, 1) := by decide +kernel
theorem dX12_fixedStrokes_22 : decode cX12_fixedStrokes 22 = .ok (.invokestatic 57, 3) := by decide +kernel
theorem dX12_fixedStrokes_25 : decode cX12_fixedStrokes 25 = .ok (.iaload, 1) := by decide +kernel
theorem dX12_fixedStrokes_26 : decode cX12_fixedStrokes 26 = .ok (.iadd, 1) := by decide +kernel
theorem dX12_fixedStrokes_27 : decode cX12_fixedStrokes 27 = .ok (.istore_n 1, 1) := by decide +kernel
theorem dX12_fixedStrokes_28 : decode cX12_fixedStrokes 28 = .ok (.iinc 2 1, 3) := by decide +kernel
theorem dX12_fixedStrokes_31 : decode cX12_fixedStrokes 31 = .ok (.goto (-27), 3) := by decide +kernel
theorem dX12_fixedStrokes_34 : decode cX12_fixedStrokes 34 = .ok (.iload_n 1, 1) := by decide +kernel
theorem dX12_fixedStrokes_35 : decode cX12_fixedStrokes 35 = .ok (.ireturn, 1) := by decide +kernel
set_option maxRecDepth 20000 in
theorem ggX12_openStrokes_X12_fixedStrokes : GoodIn wsX12_openStrokes wsX12_fixedStrokes := goodIn_r _ [6, 1, 7, 8, 5, 9, 10, 11, 12, 13, 14, 15, 16, 17, 18, 19, 20, 21, 22, 23] (by decide +kernel) (by decide +kernel)
set_option maxRecDepth 20000 in
theorem gX12_openStrokes_X12_fixedStrokes : GoodIn wsX12_openStrokes (wsV RX12 60 RX12 yX12_fixedStrokes wsX12_fixedStrokes) := goodIn_app (goodIn_of _ (by decide +kernel)) ggX12_openStrokes_X12_fixedStrokes
theorem dX12_openStrokes_0 : decode cX12_openStrokes 0 = .ok (.aload_n 0, 1) := by decide +kernel
theorem dX12_openStrokes_1 : decode cX12_openStrokes 1 = .ok (.getfield 7, 3) := by decide +kernel
theorem dX12_openStrokes_4 : decode cX12_openStrokes 4 = .ok (.sipush 337, 3) := by decide +kernel
theorem dX12_openStrokes_7 : decode cX12_openStrokes 7 = .ok (.iaload, 1) := by decide +kernel
theorem dX12_openStrokes_8 : decode cX12_openStrokes 8 = .ok (.aload_n 0, 1) := by decide +kernel
theorem dX12_openStrokes_9 : decode cX12_openStrokes 9 = .ok (.invokevirtual 60, 3) := by decide +kernel
theorem dX12_openStrokes_12 : decode cX12_openStrokes 12 = .ok (.isub, 1) := by decide +kernel
theorem dX12_openStrokes_13 : decode cX12_openStrokes 13 = .ok (.ireturn, 1) := by decide +kernel
set_option maxRecDepth 20000 in
theorem ggX12_makeItem_X12_itemAt : GoodIn wsX12_makeItem wsX12_itemAt := goodIn_r _ [6] (by decide +kernel) (by decide +kernel)
set_option maxRecDepth 20000 in
theorem gX12_makeItem_X12_itemAt : GoodIn wsX12_makeItem (va_wsS RX12 57 yX12_itemAt wsX12_itemAt) := goodIn_app (goodIn_of _ (by decide +kernel)) ggX12_makeItem_X12_itemAt
set_option maxRecDepth 20000 in
theorem ggX12_makeItem_X12_entryAt : GoodIn wsX12_makeItem wsX12_entryAt := goodIn_r _ [9] (by decide +kernel) (by decide +kernel)
set_option maxRecDepth 20000 in
theorem gX12_makeItem_X12_entryAt : GoodIn wsX12_makeItem (va_wsS RX12 39 yX12_entryAt wsX12_entryAt) := goodIn_app (goodIn_of _ (by decide +kernel)) ggX12_makeItem_X12_entryAt
set_option maxRecDepth 20000 in
theorem ggX12_makeItem_X12_keyLetter : GoodIn wsX12_makeItem wsX12_keyLetter := goodIn_r _ [12] (by decide +kernel) (by decide +kernel)
set_option maxRecDepth 20000 in
theorem gX12_makeItem_X12_keyLetter : GoodIn wsX12_makeItem (va_wsS RX12 64 yX12_keyLetter wsX12_keyLetter) := goodIn_app (goodIn_of _ (by decide +kernel)) ggX12_makeItem_X12_keyLetter
theorem dX12_makeItem_0 : decode cX12_makeItem 0 = .ok (.aload_n 0, 1) := by decide +kernel
theorem dX12_makeItem_1 : decode cX12_makeItem 1 = .ok (.getfield 7, 3) := by decide +kernel
theorem dX12_makeItem_4 : decode cX12_makeItem 4 = .ok (.sipush 399, 3) := by decide +kernel
theorem dX12_makeItem_7 : decode cX12_makeItem 7 = .ok (.iaload, 1) := by decide +kernel
theorem dX12_makeItem_8 : decode cX12_makeItem 8 = .ok (.invokestatic 57, 3) := by decide +kernel
theorem dX12_makeItem_11 : decode cX12_makeItem 11 = .ok (.istore_n 3, 1) := by decide +kernel
theorem dX12_makeItem_12 : decode cX12_makeItem 12 = .ok (.aload_n 0, 1) := by decide +kernel
theorem dX12_makeItem_13 : decode cX12_makeItem 13 = .ok (.getfield 7, 3) := by decide +kernel
theorem dX12_makeItem_16 : decode cX12_makeItem 16 = .ok (.iload_n 3, 1) := by decide +kernel
theorem dX12_makeItem_17 : decode cX12_makeItem 17 = .ok (.iload_n 2, 1) := by decide +kernel
theorem dX12_makeItem_18 : decode cX12_makeItem 18 = .ok (.iconst (-1), 1) := by decide +kernel
theorem dX12_makeItem_19 : decode cX12_makeItem 19 = .ok (.if_icmp .ne 7, 3) := by decide +kernel
theorem dX12_makeItem_22 : decode cX12_makeItem 22 = .ok (.iconst 1, 1) := by decide +kernel
theorem dX12_makeItem_23 : decode cX12_makeItem 23 = .ok (.goto 12, 3) := by decide +kernel
theorem dX12_makeItem_26 : decode cX12_makeItem 26 = .ok (.aload_n 0, 1) := by decide +kernel
theorem dX12_makeItem_27 : decode cX12_makeItem 27 = .ok (.getfield 7, 3) := by decide +kernel
theorem dX12_makeItem_30 : decode cX12_makeItem 30 = .ok (.iload_n 2, 1) := by decide +kernel
theorem dX12_makeItem_31 : decode cX12_makeItem 31 = .ok (.invokestatic 39, 3) := by decide +kernel
theorem dX12_makeItem_34 : decode cX12_makeItem 34 = .ok (.iaload, 1) := by decide +kernel
theorem dX12_makeItem_35 : decode cX12_makeItem 35 = .ok (.iastore, 1) := by decide +kernel
theorem dX12_makeItem_36 : decode cX12_makeItem 36 = .ok (.aload_n 0, 1) := by decide +kernel
theorem dX12_makeItem_37 : decode cX12_makeItem 37 = .ok (.getfield 7, 3) := by decide +kernel
theorem dX12_makeItem_40 : decode cX12_makeItem 40 = .ok (.iload_n 3, 1) := by decide +kernel
theorem dX12_makeItem_41 : decode cX12_makeItem 41 = .ok (.iconst 1, 1) := by decide +kernel
theorem dX12_makeItem_42 : decode cX12_makeItem 42 = .ok (.iadd, 1) := by decide +kernel
theorem dX12_makeItem_43 : decode cX12_makeItem 43 = .ok (.iload_n 2, 1) := by decide +kernel
theorem dX12_makeItem_44 : decode cX12_makeItem 44 = .ok (.iastore, 1) := by decide +kernel
theorem dX12_makeItem_45 : decode cX12_makeItem 45 = .ok (.aload_n 0, 1) := by decide +kernel
theorem dX12_makeItem_46 : decode cX12_makeItem 46 = .ok (.getfield 7, 3) := by decide +kernel
theorem dX12_makeItem_49 : decode cX12_makeItem 49 = .ok (.iload_n 3, 1) := by decide +kernel
theorem dX12_makeItem_50 : decode cX12_makeItem 50 = .ok (.iconst 2, 1) := by decide +kernel
theorem dX12_makeItem_51 : decode cX12_makeItem 51 = .ok (.iadd, 1) := by decide +kernel
theorem dX12_makeItem_52 : decode cX12_makeItem 52 = .ok (.iconst 0, 1) := by decide +kernel
theorem dX12_makeItem_53 : decode cX12_makeItem 53 = .ok (.iastore, 1) := by decide +kernel
theorem dX12_makeItem_54 : decode cX12_makeItem 54 = .ok (.iconst 0, 1) := by decide +kernel
theorem dX12_makeItem_55 : decode cX12_makeItem 55 = .ok (.istore 4, 2) := by decide +kernel
theorem dX12_makeItem_57 : decode cX12_makeItem 57 = .ok (.iload 4, 2) := by decide +kernel
theorem dX12_makeItem_59 : decode cX12_makeItem 59 = .ok (.bipush 12, 2) := by decide +kernel
theorem dX12_makeItem_61 : decode cX12_makeItem 61 = .ok (.if_icmp .ge 122, 3) := by decide +kernel
theorem dX12_makeItem_64 : decode cX12_makeItem 64 = .ok (.iload_n 2, 1) := by decide +kernel
theorem dX12_makeItem_65 : decode cX12_makeItem 65 = .ok (.iconst (-1), 1) := by decide +kernel
theorem dX12_makeItem_66 : decode cX12_makeItem 66 = .ok (.if_icmp .ne 26, 3) := by decide +kernel
theorem dX12_makeItem_69 : decode cX12_makeItem 69 = .ok (.aload_n 0, 1) := by decide +kernel
theorem dX12_makeItem_70 : decode cX12_makeItem 70 = .ok (.getfield 19, 3) := by decide +kernel
theorem dX12_makeItem_73 : decode cX12_makeItem 73 = .ok (.iload_n 1, 1) := by decide +kernel
theorem dX12_makeItem_74 : decode cX12_makeItem 74 = .ok (.iaload, 1) := by decide +kernel
theorem dX12_makeItem_75 : decode cX12_makeItem 75 = .ok (.iload 4, 2) := by decide +kernel
theorem dX12_makeItem_77 : decode cX12_makeItem 77 = .ok (.ishr, 1) := by decide +kernel
theorem dX12_makeItem_78 : decode cX12_makeItem 78 = .ok (.iconst 1, 1) := by decide +kernel
theorem dX12_makeItem_79 : decode cX12_makeItem 79 = .ok (.iand, 1) := by decide +kernel
theorem dX12_makeItem_80 : decode cX12_makeItem 80 = .ok (.iconst 1, 1) := by decide +kernel
theorem dX12_makeItem_81 : decode cX12_makeItem 81 = .ok (.if_icmp .ne 7, 3) := by decide +kernel
theorem dX12_makeItem_84 : decode cX12_makeItem 84 = .ok (.iconst 1, 1) := by decide +kernel
theorem dX12_makeItem_85 : decode cX12_makeItem 85 = .ok (.goto 28, 3) := by decide +kernel
theorem dX12_makeItem_88 : decode cX12_makeItem 88 = .ok (.iconst 0, 1) := by decide +kernel
theorem dX12_makeItem_89 : decode cX12_makeItem 89 = .ok (.goto 24, 3) := by decide +kernel
theorem dX12_makeItem_92 : decode cX12_makeItem 92 = .ok (.iload 4, 2) := by decide +kernel
theorem dX12_makeItem_94 : decode cX12_makeItem 94 = .ok (.aload_n 0, 1) := by decide +kernel
theorem dX12_makeItem_95 : decode cX12_makeItem 95 = .ok (.getfield 7, 3) := by decide +kernel
theorem dX12_makeItem_98 : decode cX12_makeItem 98 = .ok (.iload_n 2, 1) := by decide +kernel
theorem dX12_makeItem_99 : decode cX12_makeItem 99 = .ok (.invokestatic 39, 3) := by decide +kernel
theorem dX12_makeItem_102 : decode cX12_makeItem 102 = .ok (.iconst 5, 1) := by decide +kernel
theorem dX12_makeItem_103 : decode cX12_makeItem 103 = .ok (.iadd, 1) := by decide +kernel
theorem dX12_makeItem_104 : decode cX12_makeItem 104 = .ok (.iaload, 1) := by decide +kernel
theorem dX12_makeItem_105 : decode cX12_makeItem 105 = .ok (.if_icmp .ge 7, 3) := by decide +kernel
theorem dX12_makeItem_108 : decode cX12_makeItem 108 = .ok (.iconst 1, 1) := by decide +kernel
theorem dX12_makeItem_109 : decode cX12_makeItem 109 = .ok (.goto 4, 3) := by decide +kernel
theorem dX12_makeItem_112 : decode cX12_makeItem 112 = .ok (.iconst 0, 1) := by decide +kernel
theorem dX12_makeItem_113 : decode cX12_makeItem 113 = .ok (.istore 5, 2) := by decide +kernel
theorem dX12_makeItem_115 : decode cX12_makeItem 115 = .ok (.iload 5, 2) := by decide +kernel
theorem dX12_makeItem_117 : decode cX12_makeItem 117 = .ok (.ifCond .eq 60, 3) := by decide +kernel
theorem dX12_makeItem_120 : decode cX12_makeItem 120 = .ok (.aload_n 0, 1) := by decide +kernel
theorem dX12_makeItem_121 : decode cX12_makeItem 121 = .ok (.getfield 7, 3) := by decide +kernel
theorem dX12_makeItem_124 : decode cX12_makeItem 124 = .ok (.iload_n 3, 1) := by decide +kernel
theorem dX12_makeItem_125 : decode cX12_makeItem 125 = .ok (.iconst 3, 1) := by decide +kernel
theorem dX12_makeItem_126 : decode cX12_makeItem 126 = .ok (.iadd, 1) := by decide +kernel
theorem dX12_makeItem_127 : decode cX12_makeItem 127 = .ok (.aload_n 0, 1) := by decide +kernel
theorem dX12_makeItem_128 : decode cX12_makeItem 128 = .ok (.getfield 7, 3) := by decide +kernel
theorem dX12_makeItem_131 : decode cX12_makeItem 131 = .ok (.iload_n 3, 1) := by decide +kernel
theorem dX12_makeItem_132 : decode cX12_makeItem 132 = .ok (.iconst 2, 1) := by decide +kernel
theorem dX12_makeItem_133 : decode cX12_makeItem 133 = .ok (.iadd, 1) := by decide +kernel
theorem dX12_makeItem_134 : decode cX12_makeItem 134 = .ok (.iaload, 1) := by decide +kernel
theorem dX12_makeItem_135 : decode cX12_makeItem 135 = .ok (.iadd, 1) := by decide +kernel
theorem dX12_makeItem_136 : decode cX12_makeItem 136 = .ok (.iload_n 2, 1) := by decide +kernel
theorem dX12_makeItem_137 : decode cX12_makeItem 137 = .ok (.iconst (-1), 1) := by decide +kernel
theorem dX12_makeItem_138 : decode cX12_makeItem 138 = .ok (.if_icmp .ne 11, 3) := by decide +kernel
theorem dX12_makeItem_141 : decode cX12_makeItem 141 = .ok (.iload 4, 2) := by decide +kernel
theorem dX12_makeItem_143 : decode cX12_makeItem 143 = .ok (.invokestatic 64, 3) := by decide +kernel
theorem dX12_makeItem_146 : decode cX12_makeItem 146 = .ok (.goto 18, 3) := by decide +kernel
theorem dX12_makeItem_149 : decode cX12_makeItem 149 = .ok (.aload_n 0, 1) := by decide +kernel
theorem dX12_makeItem_150 : decode cX12_makeItem 150 = .ok (.getfield 7, 3) := by decide +kernel
theorem dX12_makeItem_153 : decode cX12_makeItem 153 = .ok (.iload_n 2, 1) := by decide +kernel
theorem dX12_makeItem_154 : decode cX12_makeItem 154 = .ok (.invokestatic 39, 3) := by decide +kernel
theorem dX12_makeItem_157 : decode cX12_makeItem 157 = .ok (.bipush 6, 2) := by decide +kernel
theorem dX12_makeItem_159 : decode cX12_makeItem 159 = .ok (.iadd, 1) := by decide +kernel
theorem dX12_makeItem_160 : decode cX12_makeItem 160 = .ok (.iload 4, 2) := by decide +kernel
theorem dX12_makeItem_162 : decode cX12_makeItem 162 = .ok (.iadd, 1) := by decide +kernel
theorem dX12_makeItem_163 : decode cX12_makeItem 163 = .ok (.iaload, 1) := by decide +kernel
theorem dX12_makeItem_164 : decode cX12_makeItem 164 = .ok (.iastore, 1) := by decide +kernel
theorem dX12_makeItem_165 : decode cX12_makeItem 165 = .ok (.aload_n 0, 1) := by decide +kernel
theorem dX12_makeItem_166 : decode cX12_makeItem 166 = .ok (.getfield 7, 3) := by decide +kernel
theorem dX12_makeItem_169 : decode cX12_makeItem 169 = .ok (.iload_n 3, 1) := by decide +kernel
theorem dX12_makeItem_170 : decode cX12_makeItem 170 = .ok (.iconst 2, 1) := by decide +kernel
theorem dX12_makeItem_171 : decode cX12_makeItem 171 = .ok (.iadd, 1) := by decide +kernel
theorem dX12_makeItem_172 : decode cX12_makeItem 172 = .ok (.dup2, 1) := by decide +kernel
theorem dX12_makeItem_173 : decode cX12_makeItem 173 = .ok (.iaload, 1) := by decide +kernel
theorem dX12_makeItem_174 : decode cX12_makeItem 174 = .ok (.iconst 1, 1) := by decide +kernel
theorem dX12_makeItem_175 : decode cX12_makeItem 175 = .ok (.iadd, 1) := by decide +kernel
theorem dX12_makeItem_176 : decode cX12_makeItem 176 = .ok (.iastore, 1) := by decide +kernel
theorem dX12_makeItem_177 : decode cX12_makeItem 177 = .ok (.iinc 4 1, 3) := by decide +kernel
theorem dX12_makeItem_180 : decode cX12_makeItem 180 = .ok (.goto (-123), 3) := by decide +kernel
theorem dX12_makeItem_183 : decode cX12_makeItem 183 = .ok (.aload_n 0, 1) := by decide +kernel
theorem dX12_makeItem_184 : decode cX12_makeItem 184 = .ok (.getfield 7, 3) := by decide +kernel
theorem dX12_makeItem_187 : decode cX12_makeItem 187 = .ok (.sipush 399, 3) := by decide +kernel
theorem dX12_makeItem_190 : decode cX12_makeItem 190 = .ok (.dup2, 1) := by decide +kernel
theorem dX12_makeItem_191 : decode cX12_makeItem 191 = .ok (.iaload, 1) := by decide +kernel
theorem dX12_makeItem_192 : decode cX12_makeItem 192 = .ok (.iconst 1, 1) := by decide +kernel
theorem dX12_makeItem_193 : decode cX12_makeItem 193 = .ok (.iadd, 1) := by decide +kernel
theorem dX12_makeItem_194 : decode cX12_makeItem 194 = .ok (.iastore, 1) := by decide +kernel
theorem dX12_makeItem_195 : decode cX12_makeItem 195 = .ok (.return_, 1) := by decide +kernel
set_option maxRecDepth 20000 in
theorem ggX12_fixOne_X12_itemAt : GoodIn wsX12_fixOne wsX12_itemAt := goodIn_r _ [5] (by decide +kernel) (by decide +kernel)
set_option maxRecDepth 20000 in
theorem gX12_fixOne_X12_itemAt : GoodIn wsX12_fixOne (va_wsS RX12 57 yX12_itemAt wsX12_itemAt) := goodIn_app (goodIn_of _ (by decide +kernel)) ggX12_fixOne_X12_itemAt
