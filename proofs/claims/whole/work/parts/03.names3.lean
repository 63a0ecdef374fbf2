theorem dX12_fixOne_0 : decode cX12_fixOne 0 = .ok (.aload_n 0, 1) := by decide +kernel
theorem dX12_fixOne_1 : decode cX12_fixOne 1 = .ok (.getfield 7, 3) := by decide +kernel
theorem dX12_fixOne_4 : decode cX12_fixOne 4 = .ok (.aload_n 0, 1) := by decide +kernel
theorem dX12_fixOne_5 : decode cX12_fixOne 5 = .ok (.getfield 7, 3) := by decide +kernel
theorem dX12_fixOne_8 : decode cX12_fixOne 8 = .ok (.sipush 1315, 3) := by decide +kernel
theorem dX12_fixOne_11 : decode cX12_fixOne 11 = .ok (.iaload, 1) := by decide +kernel
theorem dX12_fixOne_12 : decode cX12_fixOne 12 = .ok (.invokestatic 57, 3) := by decide +kernel
theorem dX12_fixOne_15 : decode cX12_fixOne 15 = .ok (.iconst 1, 1) := by decide +kernel
theorem dX12_fixOne_16 : decode cX12_fixOne 16 = .ok (.iadd, 1) := by decide +kernel
theorem dX12_fixOne_17 : decode cX12_fixOne 17 = .ok (.iconst (-1), 1) := by decide +kernel
theorem dX12_fixOne_18 : decode cX12_fixOne 18 = .ok (.iastore, 1) := by decide +kernel
theorem dX12_fixOne_19 : decode cX12_fixOne 19 = .ok (.aload_n 0, 1) := by decide +kernel
theorem dX12_fixOne_20 : decode cX12_fixOne 20 = .ok (.getfield 7, 3) := by decide +kernel
theorem dX12_fixOne_23 : decode cX12_fixOne 23 = .ok (.sipush 1315, 3) := by decide +kernel
theorem dX12_fixOne_26 : decode cX12_fixOne 26 = .ok (.dup2, 1) := by decide +kernel
theorem dX12_fixOne_27 : decode cX12_fixOne 27 = .ok (.iaload, 1) := by decide +kernel
theorem dX12_fixOne_28 : decode cX12_fixOne 28 = .ok (.iconst 1, 1) := by decide +kernel
theorem dX12_fixOne_29 : decode cX12_fixOne 29 = .ok (.iadd, 1) := by decide +kernel
theorem dX12_fixOne_30 : decode cX12_fixOne 30 = .ok (.iastore, 1) := by decide +kernel
theorem dX12_fixOne_31 : decode cX12_fixOne 31 = .ok (.return_, 1) := by decide +kernel
set_option maxRecDepth 20000 in
theorem ggX12_translate_X12_fixedStrokes : GoodIn wsX12_translate wsX12_fixedStrokes := goodIn_r _ [8, 1, 9, 10, 7, 11, 34, 35, 36, 37, 38, 39, 40, 41, 42, 43, 44, 45, 46, 47] (by decide +kernel) (by decide +kernel)
set_option maxRecDepth 20000 in
theorem gX12_translate_X12_fixedStrokes : GoodIn wsX12_translate (wsV RX12 60 RX12 yX12_fixedStrokes wsX12_fixedStrokes) := goodIn_app (goodIn_of _ (by decide +kernel)) ggX12_translate_X12_fixedStrokes
set_option maxRecDepth 20000 in
theorem ggX12_translate_X12_longestAt : GoodIn wsX12_translate wsX12_longestAt := goodIn_r _ [15, 1, 2, 3, 16, 17, 7, 18, 34, 35, 36, 37, 38, 39, 40, 41, 42, 43, 44, 45, 46, 47] (by decide +kernel) (by decide +kernel)
set_option maxRecDepth 20000 in
theorem gX12_translate_X12_longestAt : GoodIn wsX12_translate (wsV RX12 67 RX12 yX12_longestAt wsX12_longestAt) := goodIn_app (goodIn_of _ (by decide +kernel)) ggX12_translate_X12_longestAt
set_option maxRecDepth 20000 in
theorem ggX12_translate_X12_makeItem : GoodIn wsX12_translate wsX12_makeItem := goodIn_r _ [22, 1, 3, 9, 10, 7, 11, 16, 17, 18, 23, 24, 25, 34, 35, 36, 37, 38, 39, 40, 41, 42, 43, 44, 45, 46, 47] (by decide +kernel) (by decide +kernel)
set_option maxRecDepth 20000 in
theorem gX12_translate_X12_makeItem : GoodIn wsX12_translate (wsV RX12 70 RX12 yX12_makeItem wsX12_makeItem) := goodIn_app (goodIn_of _ (by decide +kernel)) ggX12_translate_X12_makeItem
set_option maxRecDepth 20000 in
theorem ggX12_translate_X12_itemAt : GoodIn wsX12_translate wsX12_itemAt := goodIn_r _ [11] (by decide +kernel) (by decide +kernel)
set_option maxRecDepth 20000 in
theorem gX12_translate_X12_itemAt : GoodIn wsX12_translate (va_wsS RX12 57 yX12_itemAt wsX12_itemAt) := goodIn_app (goodIn_of _ (by decide +kernel)) ggX12_translate_X12_itemAt
set_option maxRecDepth 20000 in
theorem ggX12_translate_X12_openStrokes : GoodIn wsX12_translate wsX12_openStrokes := goodIn_r _ [29, 1, 4, 5, 6, 7, 8, 9, 10, 11, 34, 35, 36, 37, 38, 39, 40, 41, 42, 43, 44, 45, 46, 47] (by decide +kernel) (by decide +kernel)
set_option maxRecDepth 20000 in
theorem gX12_translate_X12_openStrokes : GoodIn wsX12_translate (wsV RX12 74 RX12 yX12_openStrokes wsX12_openStrokes) := goodIn_app (goodIn_of _ (by decide +kernel)) ggX12_translate_X12_openStrokes
set_option maxRecDepth 20000 in
theorem ggX12_translate_X12_fixOne : GoodIn wsX12_translate wsX12_fixOne := goodIn_r _ [33, 1, 9, 10, 7, 11, 34, 35, 36, 37, 38, 39, 40, 41, 42, 43, 44, 45, 46, 47] (by decide +kernel) (by decide +kernel)
set_option maxRecDepth 20000 in
theorem gX12_translate_X12_fixOne : GoodIn wsX12_translate (wsV RX12 77 RX12 yX12_fixOne wsX12_fixOne) := goodIn_app (goodIn_of _ (by decide +kernel)) ggX12_translate_X12_fixOne
theorem dX12_translate_0 : decode cX12_translate 0 = .ok (.aload_n 0, 1) := by decide +kernel
theorem dX12_translate_1 : decode cX12_translate 1 = .ok (.aload_n 0, 1) := by decide +kernel
theorem dX12_translate_2 : decode cX12_translate 2 = .ok (.getfield 7, 3) := by decide +kernel
theorem dX12_translate_5 : decode cX12_translate 5 = .ok (.sipush 337, 3) := by decide +kernel
theorem dX12_translate_8 : decode cX12_translate 8 = .ok (.iaload, 1) := by decide +kernel
theorem dX12_translate_9 : decode cX12_translate 9 = .ok (.putfield 54, 3) := by decide +kernel
theorem dX12_translate_12 : decode cX12_translate 12 = .ok (.iconst 0, 1) := by decide +kernel
theorem dX12_translate_13 : decode cX12_translate 13 = .ok (.istore_n 1, 1) := by decide +kernel
theorem dX12_translate_14 : decode cX12_translate 14 = .ok (.iload_n 1, 1) := by decide +kernel
theorem dX12_translate_15 : decode cX12_translate 15 = .ok (.aload_n 0, 1) := by decide +kernel
theorem dX12_translate_16 : decode cX12_translate 16 = .ok (.getfield 54, 3) := by decide +kernel
theorem dX12_translate_19 : decode cX12_translate 19 = .ok (.if_icmp .ge 25, 3) := by decide +kernel
theorem dX12_translate_22 : decode cX12_translate 22 = .ok (.aload_n 0, 1) := by decide +kernel
theorem dX12_translate_23 : decode cX12_translate 23 = .ok (.getfield 19, 3) := by decide +kernel
theorem dX12_translate_26 : decode cX12_translate 26 = .ok (.iload_n 1, 1) := by decide +kernel
theorem dX12_translate_27 : decode cX12_translate 27 = .ok (.aload_n 0, 1) := by decide +kernel
theorem dX12_translate_28 : decode cX12_translate 28 = .ok (.getfield 7, 3) := by decide +kernel
theorem dX12_translate_31 : decode cX12_translate 31 = .ok (.sipush 338, 3) := by decide +kernel
theorem dX12_translate_34 : decode cX12_translate 34 = .ok (.iload_n 1, 1) := by decide +kernel
theorem dX12_translate_35 : decode cX12_translate 35 = .ok (.iadd, 1) := by decide +kernel
theorem dX12_translate_36 : decode cX12_translate 36 = .ok (.iaload, 1) := by decide +kernel
theorem dX12_translate_37 : decode cX12_translate 37 = .ok (.iastore, 1) := by decide +kernel
theorem dX12_translate_38 : decode cX12_translate 38 = .ok (.iinc 1 1, 3) := by decide +kernel
theorem dX12_translate_41 : decode cX12_translate 41 = .ok (.goto (-27), 3) := by decide +kernel
theorem dX12_translate_44 : decode cX12_translate 44 = .ok (.aload_n 0, 1) := by decide +kernel
theorem dX12_translate_45 : decode cX12_translate 45 = .ok (.getfield 7, 3) := by decide +kernel
theorem dX12_translate_48 : decode cX12_translate 48 = .ok (.sipush 399, 3) := by decide +kernel
theorem dX12_translate_51 : decode cX12_translate 51 = .ok (.aload_n 0, 1) := by decide +kernel
theorem dX12_translate_52 : decode cX12_translate 52 = .ok (.getfield 7, 3) := by decide +kernel
theorem dX12_translate_55 : decode cX12_translate 55 = .ok (.sipush 1315, 3) := by decide +kernel
theorem dX12_translate_58 : decode cX12_translate 58 = .ok (.iaload, 1) := by decide +kernel
theorem dX12_translate_59 : decode cX12_translate 59 = .ok (.iastore, 1) := by decide +kernel
theorem dX12_translate_60 : decode cX12_translate 60 = .ok (.aload_n 0, 1) := by decide +kernel
theorem dX12_translate_61 : decode cX12_translate 61 = .ok (.invokevirtual 60, 3) := by decide +kernel
theorem dX12_translate_64 : decode cX12_translate 64 = .ok (.istore_n 1, 1) := by decide +kernel
theorem dX12_translate_65 : decode cX12_translate 65 = .ok (.iload_n 1, 1) := by decide +kernel
theorem dX12_translate_66 : decode cX12_translate 66 = .ok (.aload_n 0, 1) := by decide +kernel
theorem dX12_translate_67 : decode cX12_translate 67 = .ok (.getfield 54, 3) := by decide +kernel
theorem dX12_translate_70 : decode cX12_translate 70 = .ok (.if_icmp .ge 37, 3) := by decide +kernel
theorem dX12_translate_73 : decode cX12_translate 73 = .ok (.aload_n 0, 1) := by decide +kernel
theorem dX12_translate_74 : decode cX12_translate 74 = .ok (.iload_n 1, 1) := by decide +kernel
theorem dX12_translate_75 : decode cX12_translate 75 = .ok (.aload_n 0, 1) := by decide +kernel
theorem dX12_translate_76 : decode cX12_translate 76 = .ok (.iload_n 1, 1) := by decide +kernel
theorem dX12_translate_77 : decode cX12_translate 77 = .ok (.invokevirtual 67, 3) := by decide +kernel
theorem dX12_translate_80 : decode cX12_translate 80 = .ok (.invokevirtual 70, 3) := by decide +kernel
theorem dX12_translate_83 : decode cX12_translate 83 = .ok (.iload_n 1, 1) := by decide +kernel
theorem dX12_translate_84 : decode cX12_translate 84 = .ok (.aload_n 0, 1) := by decide +kernel
theorem dX12_translate_85 : decode cX12_translate 85 = .ok (.getfield 7, 3) := by decide +kernel
theorem dX12_translate_88 : decode cX12_translate 88 = .ok (.aload_n 0, 1) := by decide +kernel
theorem dX12_translate_89 : decode cX12_translate 89 = .ok (.getfield 7, 3) := by decide +kernel
theorem dX12_translate_92 : decode cX12_translate 92 = .ok (.sipush 399, 3) := by decide +kernel
theorem dX12_translate_95 : decode cX12_translate 95 = .ok (.iaload, 1) := by decide +kernel
theorem dX12_translate_96 : decode cX12_translate 96 = .ok (.iconst 1, 1) := by decide +kernel
theorem dX12_translate_97 : decode cX12_translate 97 = .ok (.isub, 1) := by decide +kernel
theorem dX12_translate_98 : decode cX12_translate 98 = .ok (.invokestatic 57, 3) := by decide +kernel
theorem dX12_translate_101 : decode cX12_translate 101 = .ok (.iaload, 1) := by decide +kernel
theorem dX12_translate_102 : decode cX12_translate 102 = .ok (.iadd, 1) := by decide +kernel
theorem dX12_translate_103 : decode cX12_translate 103 = .ok (.istore_n 1, 1) := by decide +kernel
theorem dX12_translate_104 : decode cX12_translate 104 = .ok (.goto (-39), 3) := by decide +kernel
theorem dX12_translate_107 : decode cX12_translate 107 = .ok (.aload_n 0, 1) := by decide +kernel
theorem dX12_translate_108 : decode cX12_translate 108 = .ok (.invokevirtual 74, 3) := by decide +kernel
theorem dX12_translate_111 : decode cX12_translate 111 = .ok (.aload_n 0, 1) := by decide +kernel
theorem dX12_translate_112 : decode cX12_translate 112 = .ok (.getfield 7, 3) := by decide +kernel
theorem dX12_translate_115 : decode cX12_translate 115 = .ok (.sipush 1316, 3) := by decide +kernel
theorem dX12_translate_118 : decode cX12_translate 118 = .ok (.iaload, 1) := by decide +kernel
theorem dX12_translate_119 : decode cX12_translate 119 = .ok (.if_icmp .le 10, 3) := by decide +kernel
theorem dX12_translate_122 : decode cX12_translate 122 = .ok (.aload_n 0, 1) := by decide +kernel
theorem dX12_translate_123 : decode cX12_translate 123 = .ok (.invokevirtual 77, 3) := by decide +kernel
theorem dX12_translate_126 : decode cX12_translate 126 = .ok (.goto (-19), 3) := by decide +kernel
theorem dX12_translate_129 : decode cX12_translate 129 = .ok (.return_, 1) := by decide +kernel
theorem dX12_save_0 : decode cX12_save 0 = .ok (.aload_n 0, 1) := by decide +kernel
theorem dX12_save_1 : decode cX12_save 1 = .ok (.getfield 80, 3) := by decide +kernel
theorem dX12_save_4 : decode cX12_save 4 = .ok (.bipush 8, 2) := by decide +kernel
theorem dX12_save_6 : decode cX12_save 6 = .ok (.if_icmp .ne 46, 3) := by decide +kernel
theorem dX12_save_9 : decode cX12_save 9 = .ok (.sipush 1317, 3) := by decide +kernel
theorem dX12_save_12 : decode cX12_save 12 = .ok (.istore_n 1, 1) := by decide +kernel
theorem dX12_save_13 : decode cX12_save 13 = .ok (.iload_n 1, 1) := by decide +kernel
theorem dX12_save_14 : decode cX12_save 14 = .ok (.sipush 10536, 3) := by decide +kernel
theorem dX12_save_17 : decode cX12_save 17 = .ok (.if_icmp .ge 25, 3) := by decide +kernel
theorem dX12_save_20 : decode cX12_save 20 = .ok (.aload_n 0, 1) := by decide +kernel
theorem dX12_save_21 : decode cX12_save 21 = .ok (.getfield 13, 3) := by decide +kernel
theorem dX12_save_24 : decode cX12_save 24 = .ok (.iload_n 1, 1) := by decide +kernel
theorem dX12_save_25 : decode cX12_save 25 = .ok (.sipush 1317, 3) := by decide +kernel
theorem dX12_save_28 : decode cX12_save 28 = .ok (.isub, 1) := by decide +kernel
theorem dX12_save_29 : decode cX12_save 29 = .ok (.aload_n 0, 1) := by decide +kernel
theorem dX12_save_30 : decode cX12_save 30 = .ok (.getfield 13, 3) := by decide +kernel
theorem dX12_save_33 : decode cX12_save 33 = .ok (.iload_n 1, 1) := by decide +kernel
theorem dX12_save_34 : decode cX12_save 34 = .ok (.iaload, 1) := by decide +kernel
theorem dX12_save_35 : decode cX12_save 35 = .ok (.iastore, 1) := by decide +kernel
theorem dX12_save_36 : decode cX12_save 36 = .ok (.iinc 1 1, 3) := by decide +kernel
theorem dX12_save_39 : decode cX12_save 39 = .ok (.goto (-26), 3) := by decide +kernel
theorem dX12_save_42 : decode cX12_save 42 = .ok (.aload_n 0, 1) := by decide +kernel
theorem dX12_save_43 : decode cX12_save 43 = .ok (.dup, 1) := by decide +kernel
theorem dX12_save_44 : decode cX12_save 44 = .ok (.getfield 80, 3) := by decide +kernel
theorem dX12_save_47 : decode cX12_save 47 = .ok (.iconst 1, 1) := by decide +kernel
theorem dX12_save_48 : decode cX12_save 48 = .ok (.isub, 1) := by decide +kernel
theorem dX12_save_49 : decode cX12_save 49 = .ok (.putfield 80, 3) := by decide +kernel
theorem dX12_save_52 : decode cX12_save 52 = .ok (.iconst 0, 1) := by decide +kernel
theorem dX12_save_53 : decode cX12_save 53 = .ok (.istore_n 1, 1) := by decide +kernel
theorem dX12_save_54 : decode cX12_save 54 = .ok (.iload_n 1, 1) := by decide +kernel
theorem dX12_save_55 : decode cX12_save 55 = .ok (.sipush 1317, 3) := by decide +kernel
theorem dX12_save_58 : decode cX12_save 58 = .ok (.if_icmp .ge 30, 3) := by decide +kernel
theorem dX12_save_61 : decode cX12_save 61 = .ok (.aload_n 0, 1) := by decide +kernel
theorem dX12_save_62 : decode cX12_save 62 = .ok (.getfield 13, 3) := by decide +kernel
theorem dX12_save_65 : decode cX12_save 65 = .ok (.sipush 1317, 3) := by decide +kernel
theorem dX12_save_68 : decode cX12_save 68 = .ok (.aload_n 0, 1) := by decide +kernel
theorem dX12_save_69 : decode cX12_save 69 = .ok (.getfield 80, 3) := by decide +kernel
theorem dX12_save_72 : decode cX12_save 72 = .ok (.imul, 1) := by decide +kernel
theorem dX12_save_73 : decode cX12_save 73 = .ok (.iload_n 1, 1) := by decide +kernel
theorem dX12_save_74 : decode cX12_save 74 = .ok (.iadd, 1) := by decide +kernel
theorem dX12_save_75 : decode cX12_save 75 = .ok (.aload_n 0, 1) := by decide +kernel
theorem dX12_save_76 : decode cX12_save 76 = .ok (.getfield 7, 3) := by decide +kernel
theorem dX12_save_79 : decode cX12_save 79 = .ok (.iload_n 1, 1) := by decide +kernel
theorem dX12_save_80 : decode cX12_save 80 = .ok (.iaload, 1) := by decide +kernel
theorem dX12_save_81 : decode cX12_save 81 = .ok (.iastore, 1) := by decide +kernel
theorem dX12_save_82 : decode cX12_save 82 = .ok (.iinc 1 1, 3) := by decide +kernel
theorem dX12_save_85 : decode cX12_save 85 = .ok (.goto (-31), 3) := by decide +kernel
theorem dX12_save_88 : decode cX12_save 88 = .ok (.aload_n 0, 1) := by decide +kernel
theorem dX12_save_89 : decode cX12_save 89 = .ok (.dup, 1) := by decide +kernel
theorem dX12_save_90 : decode cX12_save 90 = .ok (.getfield 80, 3) := by decide +kernel
theorem dX12_save_93 : decode cX12_save 93 = .ok (.iconst 1, 1) := by decide +kernel
theorem dX12_save_94 : decode cX12_save 94 = .ok (.iadd, 1) := by decide +kernel
theorem dX12_save_95 : decode cX12_save 95 = .ok (.putfield 80, 3) := by decide +kernel
theorem dX12_save_98 : decode cX12_save 98 = .ok (.return_, 1) := by decide +kernel
theorem dX12_undo_0 : decode cX12_undo 0 = .ok (.aload_n 0, 1) := by decide +kernel
theorem dX12_undo_1 : decode cX12_undo 1 = .ok (.aload_n 0, 1) := by decide +kernel
theorem dX12_undo_2 : decode cX12_undo 2 = .ok (.getfield 80, 3) := by decide +kernel
theorem dX12_undo_5 : decode cX12_undo 5 = .ok (.ifCond .le 7, 3) := by decide +kernel
theorem dX12_undo_8 : decode cX12_undo 8 = .ok (.iconst 0, 1) := by decide +kernel
theorem dX12_undo_9 : decode cX12_undo 9 = .ok (.goto 4, 3) := by decide +kernel
theorem dX12_undo_12 : decode cX12_undo 12 = .ok (.iconst 1, 1) := by decide +kernel
theorem dX12_undo_13 : decode cX12_undo 13 = .ok (.putfield 31, 3) := by decide +kernel
theorem dX12_undo_16 : decode cX12_undo 16 = .ok (.aload_n 0, 1) := by decide +kernel
theorem dX12_undo_17 : decode cX12_undo 17 = .ok (.getfield 31, 3) := by decide +kernel
theorem dX12_undo_20 : decode cX12_undo 20 = .ok (.ifCond .le 5, 3) := by decide +kernel
theorem dX12_undo_23 : decode cX12_undo 23 = .ok (.iconst 0, 1) := by decide +kernel
theorem dX12_undo_24 : decode cX12_undo 24 = .ok (.ireturn, 1) := by decide +kernel
theorem dX12_undo_25 : decode cX12_undo 25 = .ok (.aload_n 0, 1) := by decide +kernel
theorem dX12_undo_26 : decode cX12_undo 26 = .ok (.dup, 1) := by decide +kernel
theorem dX12_undo_27 : decode cX12_undo 27 = .ok (.getfield 80, 3) := by decide +kernel
theorem dX12_undo_30 : decode cX12_undo 30 = .ok (.iconst 1, 1) := by decide +kernel
theorem dX12_undo_31 : decode cX12_undo 31 = .ok (.isub, 1) := by decide +kernel
theorem dX12_undo_32 : decode cX12_undo 32 = .ok (.putfield 80, 3) := by decide +kernel
theorem dX12_undo_35 : decode cX12_undo 35 = .ok (.iconst 0, 1) := by decide +kernel
theorem dX12_undo_36 : decode cX12_undo 36 = .ok (.istore_n 1, 1) := by decide +kernel
theorem dX12_undo_37 : decode cX12_undo 37 = .ok (.iload_n 1, 1) := by decide +kernel
theorem dX12_undo_38 : decode cX12_undo 38 = .ok (.sipush 1317, 3) := by decide +kernel
theorem dX12_undo_41 : decode cX12_undo 41 = .ok (.if_icmp .ge 30, 3) := by decide +kernel
theorem dX12_undo_44 : decode cX12_undo 44 = .ok (.aload_n 0, 1) := by decide +kernel
theorem dX12_undo_45 : decode cX12_undo 45 = .ok (.getfield 7, 3) := by decide +kernel
theorem dX12_undo_48 : decode cX12_undo 48 = .ok (.iload_n 1, 1) := by decide +kernel
theorem dX12_undo_49 : decode cX12_undo 49 = .ok (.aload_n 0, 1) := by decide +kernel
theorem dX12_undo_50 : decode cX12_undo 50 = .ok (.getfield 13, 3) := by decide +kernel
theorem dX12_undo_53 : decode cX12_undo 53 = .ok (.sipush 1317, 3) := by decide +kernel
theorem dX12_undo_56 : decode cX12_undo 56 = .ok (.aload_n 0, 1) := by decide +kernel
theorem dX12_undo_57 : decode cX12_undo 57 = .ok (.getfield 80, 3) := by decide +kernel
theorem dX12_undo_60 : decode cX12_undo 60 = .ok (.imul, 1) := by decide +kernel
theorem dX12_undo_61 : decode cX12_undo 61 = .ok (.iload_n 1, 1) := by decide +kernel
theorem dX12_undo_62 : decode cX12_undo 62 = .ok (.iadd, 1) := by decide +kernel
theorem dX12_undo_63 : decode cX12_undo 63 = .ok (.iaload, 1) := by decide +kernel
theorem dX12_undo_64 : decode cX12_undo 64 = .ok (.iastore, 1) := by decide +kernel
theorem dX12_undo_65 : decode cX12_undo 65 = .ok (.iinc 1 1, 3) := by decide +kernel
theorem dX12_undo_68 : decode cX12_undo 68 = .ok (.goto (-31), 3) := by decide +kernel
theorem dX12_undo_71 : decode cX12_undo 71 = .ok (.aload_n 0, 1) := by decide +kernel
theorem dX12_undo_72 : decode cX12_undo 72 = .ok (.getfield 80, 3) := by decide +kernel
theorem dX12_undo_75 : decode cX12_undo 75 = .ok (.ireturn, 1) := by decide +kernel
theorem dX12_keepAside_0 : decode cX12_keepAside 0 = .ok (.iconst 0, 1) := by decide +kernel
theorem dX12_keepAside_1 : decode cX12_keepAside 1 = .ok (.istore_n 1, 1) := by decide +kernel
theorem dX12_keepAside_2 : decode cX12_keepAside 2 = .ok (.iload_n 1, 1) := by decide +kernel
theorem dX12_keepAside_3 : decode cX12_keepAside 3 = .ok (.sipush 1317, 3) := by decide +kernel
theorem dX12_keepAside_6 : decode cX12_keepAside 6 = .ok (.if_icmp .ge 21, 3) := by decide +kernel
theorem dX12_keepAside_9 : decode cX12_keepAside 9 = .ok (.aload_n 0, 1) := by decide +kernel
theorem dX12_keepAside_10 : decode cX12_keepAside 10 = .ok (.getfield 22, 3) := by decide +kernel
theorem dX12_keepAside_13 : decode cX12_keepAside 13 = .ok (.iload_n 1, 1) := by decide +kernel
theorem dX12_keepAside_14 : decode cX12_keepAside 14 = .ok (.aload_n 0, 1) := by decide +kernel
theorem dX12_keepAside_15 : decode cX12_keepAside 15 = .ok (.getfield 7, 3) := by decide +kernel
theorem dX12_keepAside_18 : decode cX12_keepAside 18 = .ok (.iload_n 1, 1) := by decide +kernel
theorem dX12_keepAside_19 : decode cX12_keepAside 19 = .ok (.iaload, 1) := by decide +kernel
theorem dX12_keepAside_20 : decode cX12_keepAside 20 = .ok (.iastore, 1) := by decide +kernel
theorem dX12_keepAside_21 : decode cX12_keepAside 21 = .ok (.iinc 1 1, 3) := by decide +kernel
theorem dX12_keepAside_24 : decode cX12_keepAside 24 = .ok (.goto (-22), 3) := by decide +kernel
theorem dX12_keepAside_27 : decode cX12_keepAside 27 = .ok (.return_, 1) := by decide +kernel
theorem dX12_takeAside_0 : decode cX12_takeAside 0 = .ok (.iconst 0, 1) := by decide +kernel
theorem dX12_takeAside_1 : decode cX12_takeAside 1 = .ok (.istore_n 1, 1) := by decide +kernel
theorem dX12_takeAside_2 : decode cX12_takeAside 2 = .ok (.iload_n 1, 1) := by decide +kernel
theorem dX12_takeAside_3 : decode cX12_takeAside 3 = .ok (.sipush 1317, 3) := by decide +kernel
theorem dX12_takeAside_6 : decode cX12_takeAside 6 = .ok (.if_icmp .ge 21, 3) := by decide +kernel
theorem dX12_takeAside_9 : decode cX12_takeAside 9 = .ok (.aload_n 0, 1) := by decide +kernel
theorem dX12_takeAside_10 : decode cX12_takeAside 10 = .ok (.getfield 7, 3) := by decide +kernel
theorem dX12_takeAside_13 : decode cX12_takeAside 13 = .ok (.iload_n 1, 1) := by decide +kernel
theorem dX12_takeAside_14 : decode cX12_takeAside 14 = .ok (.aload_n 0, 1) := by decide +kernel
theorem dX12_takeAside_15 : decode cX12_takeAside 15 = .ok (.getfield 22, 3) := by decide +kernel
theorem dX12_takeAside_18 : decode cX12_takeAside 18 = .ok (.iload_n 1, 1) := by decide +kernel
theorem dX12_takeAside_19 : decode cX12_takeAside 19 = .ok (.iaload, 1) := by decide +kernel
theorem dX12_takeAside_20 : decode cX12_takeAside 20 = .ok (.iastore, 1) := by decide +kernel
theorem dX12_takeAside_21 : decode cX12_takeAside 21 = .ok (.iinc 1 1, 3) := by decide +kernel
theorem dX12_takeAside_24 : decode cX12_takeAside 24 = .ok (.goto (-22), 3) := by decide +kernel
theorem dX12_takeAside_27 : decode cX12_takeAside 27 = .ok (.return_, 1) := by decide +kernel
set_option maxRecDepth 20000 in
theorem ggX12_addStroke_X12_translate : GoodIn wsX12_addStroke wsX12_translate := goodIn_r _ [6, 1, 7, 8, 9, 10, 11, 5, 12, 13, 14, 15, 16, 17, 18, 19, 20, 21, 22, 23, 24, 25, 26, 27, 28, 29, 30, 31, 32, 33, 34, 35, 36, 37, 38, 39, 40, 41, 42, 43, 44, 45, 46, 47, 48, 49, 50, 51] (by decide +kernel) (by decide +kernel)
set_option maxRecDepth 20000 in
theorem gX12_addStroke_X12_translate : GoodIn wsX12_addStroke (wsV RX12 83 RX12 yX12_translate wsX12_translate) := goodIn_app (goodIn_of _ (by decide +kernel)) ggX12_addStroke_X12_translate
theorem dX12_addStroke_0 : decode cX12_addStroke 0 = .ok (.aload_n 0, 1) := by decide +kernel
theorem dX12_addStroke_1 : decode cX12_addStroke 1 = .ok (.getfield 7, 3) := by decide +kernel
theorem dX12_addStroke_4 : decode cX12_addStroke 4 = .ok (.sipush 338, 3) := by decide +kernel
theorem dX12_addStroke_7 : decode cX12_addStroke 7 = .ok (.aload_n 0, 1) := by decide +kernel
theorem dX12_addStroke_8 : decode cX12_addStroke 8 = .ok (.getfield 7, 3) := by decide +kernel
theorem dX12_addStroke_11 : decode cX12_addStroke 11 = .ok (.sipush 337, 3) := by decide +kernel
theorem dX12_addStroke_14 : decode cX12_addStroke 14 = .ok (.iaload, 1) := by decide +kernel
theorem dX12_addStroke_15 : decode cX12_addStroke 15 = .ok (.iadd, 1) := by decide +kernel
theorem dX12_addStroke_16 : decode cX12_addStroke 16 = .ok (.iload_n 1, 1) := by decide +kernel
theorem dX12_addStroke_17 : decode cX12_addStroke 17 = .ok (.iastore, 1) := by decide +kernel
theorem dX12_addStroke_18 : decode cX12_addStroke 18 = .ok (.aload_n 0, 1) := by decide +kernel
theorem dX12_addStroke_19 : decode cX12_addStroke 19 = .ok (.getfield 7, 3) := by decide +kernel
theorem dX12_addStroke_22 : decode cX12_addStroke 22 = .ok (.sipush 337, 3) := by decide +kernel
theorem dX12_addStroke_25 : decode cX12_addStroke 25 = .ok (.dup2, 1) := by decide +kernel
theorem dX12_addStroke_26 : decode cX12_addStroke 26 = .ok (.iaload, 1) := by decide +kernel
theorem dX12_addStroke_27 : decode cX12_addStroke 27 = .ok (.iconst 1, 1) := by decide +kernel
theorem dX12_addStroke_28 : decode cX12_addStroke 28 = .ok (.iadd, 1) := by decide +kernel
theorem dX12_addStroke_29 : decode cX12_addStroke 29 = .ok (.iastore, 1) := by decide +kernel
theorem dX12_addStroke_30 : decode cX12_addStroke 30 = .ok (.aload_n 0, 1) := by decide +kernel
theorem dX12_addStroke_31 : decode cX12_addStroke 31 = .ok (.invokevirtual 83, 3) := by decide +kernel
theorem dX12_addStroke_34 : decode cX12_addStroke 34 = .ok (.return_, 1) := by decide +kernel
set_option maxRecDepth 20000 in
theorem ggX12_isStroke_X12_within : GoodIn wsX12_isStroke wsX12_within := goodIn_r _ [4] (by decide +kernel) (by decide +kernel)
set_option maxRecDepth 20000 in
theorem gX12_isStroke_X12_within : GoodIn wsX12_isStroke (va_wsS RX12 35 yX12_within wsX12_within) := goodIn_app (goodIn_of _ (by decide +kernel)) ggX12_isStroke_X12_within
theorem dX12_isStroke_0 : decode cX12_isStroke 0 = .ok (.iload_n 0, 1) := by decide +kernel
theorem dX12_isStroke_1 : decode cX12_isStroke 1 = .ok (.iconst 1, 1) := by decide +kernel
theorem dX12_isStroke_2 : decode cX12_isStroke 2 = .ok (.sipush 4095, 3) := by decide +kernel
theorem dX12_isStroke_5 : decode cX12_isStroke 5 = .ok (.invokestatic 35, 3) := by decide +kernel
theorem dX12_isStroke_8 : decode cX12_isStroke 8 = .ok (.ireturn, 1) := by decide +kernel
set_option maxRecDepth 20000 in
theorem ggX12_stroke_X12_isStroke : GoodIn wsX12_stroke wsX12_isStroke := goodIn_r _ [6, 7, 8, 5, 9] (by decide +kernel) (by decide +kernel)
set_option maxRecDepth 20000 in
theorem gX12_stroke_X12_isStroke : GoodIn wsX12_stroke (va_wsS RX12 86 yX12_isStroke wsX12_isStroke) := goodIn_app (goodIn_of _ (by decide +kernel)) ggX12_stroke_X12_isStroke
set_option maxRecDepth 20000 in
theorem ggX12_stroke_X12_save : GoodIn wsX12_stroke wsX12_save := goodIn_r _ [13, 14, 15, 1, 55, 56, 57, 58, 59, 60, 61, 62, 63, 64, 65, 66, 67, 68] (by decide +kernel) (by decide +kernel)
set_option maxRecDepth 20000 in
theorem gX12_stroke_X12_save : GoodIn wsX12_stroke (wsV RX12 89 RX12 yX12_save wsX12_save) := goodIn_app (goodIn_of _ (by decide +kernel)) ggX12_stroke_X12_save
set_option maxRecDepth 20000 in
theorem ggX12_stroke_X12_addStroke : GoodIn wsX12_stroke wsX12_addStroke := goodIn_r _ [19, 1, 20, 21, 22, 5, 23, 24, 25, 26, 27, 28, 29, 30, 31, 32, 33, 34, 35, 36, 37, 38, 39, 40, 41, 42, 43, 44, 45, 46, 47, 48, 49, 50, 51, 52, 53, 54, 55, 56, 57, 58, 59, 60, 61, 62, 63, 64, 65, 66, 67, 68] (by decide +kernel) (by decide +kernel)
set_option maxRecDepth 20000 in
theorem gX12_stroke_X12_addStroke : GoodIn wsX12_stroke (wsV RX12 92 RX12 yX12_addStroke wsX12_addStroke) := goodIn_app (goodIn_of _ (by decide +kernel)) ggX12_stroke_X12_addStroke
theorem dX12_stroke_0 : decode cX12_stroke 0 = .ok (.aload_n 0, 1) := by decide +kernel
theorem dX12_stroke_1 : decode cX12_stroke 1 = .ok (.iload_n 1, 1) := by decide +kernel
theorem dX12_stroke_2 : decode cX12_stroke 2 = .ok (.invokestatic 86, 3) := by decide +kernel
theorem dX12_stroke_5 : decode cX12_stroke 5 = .ok (.ifCond .ne 7, 3) := by decide +kernel
theorem dX12_stroke_8 : decode cX12_stroke 8 = .ok (.iconst 1, 1) := by decide +kernel
theorem dX12_stroke_9 : decode cX12_stroke 9 = .ok (.goto 21, 3) := by decide +kernel
theorem dX12_stroke_12 : decode cX12_stroke 12 = .ok (.aload_n 0, 1) := by decide +kernel
theorem dX12_stroke_13 : decode cX12_stroke 13 = .ok (.getfield 7, 3) := by decide +kernel
theorem dX12_stroke_16 : decode cX12_stroke 16 = .ok (.sipush 337, 3) := by decide +kernel
theorem dX12_stroke_19 : decode cX12_stroke 19 = .ok (.iaload, 1) := by decide +kernel
theorem dX12_stroke_20 : decode cX12_stroke 20 = .ok (.bipush 60, 2) := by decide +kernel
theorem dX12_stroke_22 : decode cX12_stroke 22 = .ok (.if_icmp .ne 7, 3) := by decide +kernel
theorem dX12_stroke_25 : decode cX12_stroke 25 = .ok (.iconst 2, 1) := by decide +kernel
theorem dX12_stroke_26 : decode cX12_stroke 26 = .ok (.goto 4, 3) := by decide +kernel
theorem dX12_stroke_29 : decode cX12_stroke 29 = .ok (.iconst 0, 1) := by decide +kernel
theorem dX12_stroke_30 : decode cX12_stroke 30 = .ok (.putfield 31, 3) := by decide +kernel
theorem dX12_stroke_33 : decode cX12_stroke 33 = .ok (.aload_n 0, 1) := by decide +kernel
theorem dX12_stroke_34 : decode cX12_stroke 34 = .ok (.getfield 31, 3) := by decide +kernel
theorem dX12_stroke_37 : decode cX12_stroke 37 = .ok (.ifCond .le 5, 3) := by decide +kernel
theorem dX12_stroke_40 : decode cX12_stroke 40 = .ok (.iconst 0, 1) := by decide +kernel
theorem dX12_stroke_41 : decode cX12_stroke 41 = .ok (.ireturn, 1) := by decide +kernel
theorem dX12_stroke_42 : decode cX12_stroke 42 = .ok (.aload_n 0, 1) := by decide +kernel
theorem dX12_stroke_43 : decode cX12_stroke 43 = .ok (.invokevirtual 89, 3) := by decide +kernel
theorem dX12_stroke_46 : decode cX12_stroke 46 = .ok (.aload_n 0, 1) := by decide +kernel
theorem dX12_stroke_47 : decode cX12_stroke 47 = .ok (.iload_n 1, 1) := by decide +kernel
theorem dX12_stroke_48 : decode cX12_stroke 48 = .ok (.invokevirtual 92, 3) := by decide +kernel
theorem dX12_stroke_51 : decode cX12_stroke 51 = .ok (.aload_n 0, 1) := by decide +kernel
theorem dX12_stroke_52 : decode cX12_stroke 52 = .ok (.getfield 7, 3) := by decide +kernel
theorem dX12_stroke_55 : decode cX12_stroke 55 = .ok (.sipush 399, 3) := by decide +kernel
theorem dX12_stroke_58 : decode cX12_stroke 58 = .ok (.iaload, 1) := by decide +kernel
theorem dX12_stroke_59 : decode cX12_stroke 59 = .ok (.ireturn, 1) := by decide +kernel
set_option maxRecDepth 20000 in
theorem ggX12_takeBack_X12_save : GoodIn wsX12_takeBack wsX12_save := goodIn_r _ [7, 8, 9, 1, 45, 46, 47, 48, 49, 50, 51, 52, 53, 54, 55, 56, 57, 58] (by decide +kernel) (by decide +kernel)
set_option maxRecDepth 20000 in
theorem gX12_takeBack_X12_save : GoodIn wsX12_takeBack (wsV RX12 89 RX12 yX12_save wsX12_save) := goodIn_app (goodIn_of _ (by decide +kernel)) ggX12_takeBack_X12_save
set_option maxRecDepth 20000 in
theorem ggX12_takeBack_X12_openStrokes : GoodIn wsX12_takeBack wsX12_openStrokes := goodIn_r _ [13, 1, 14, 15, 16, 6, 17, 18, 19, 20, 45, 46, 47, 48, 49, 50, 51, 52, 53, 54, 55, 56, 57, 58] (by decide +kernel) (by decide +kernel)
set_option maxRecDepth 20000 in
theorem gX12_takeBack_X12_openStrokes : GoodIn wsX12_takeBack (wsV RX12 74 RX12 yX12_openStrokes wsX12_openStrokes) := goodIn_app (goodIn_of _ (by decide +kernel)) ggX12_takeBack_X12_openStrokes
set_option maxRecDepth 20000 in
theorem ggX12_takeBack_X12_translate : GoodIn wsX12_takeBack wsX12_translate := goodIn_r _ [24, 1, 25, 26, 14, 15, 16, 6, 17, 18, 19, 20, 27, 28, 29, 30, 31, 32, 33, 34, 35, 36, 37, 38, 39, 40, 10, 11, 12, 13, 41, 42, 43, 44, 45, 46, 47, 48, 49, 50, 51, 52, 53, 54, 55, 56, 57, 58] (by decide +kernel) (by decide +kernel)
set_option maxRecDepth 20000 in
theorem gX12_takeBack_X12_translate : GoodIn wsX12_takeBack (wsV RX12 83 RX12 yX12_translate wsX12_translate) := goodIn_app (goodIn_of _ (by decide +kernel)) ggX12_takeBack_X12_translate
theorem dX12_takeBack_0 : decode cX12_takeBack 0 = .ok (.aload_n 0, 1) := by decide +kernel
theorem dX12_takeBack_1 : decode cX12_takeBack 1 = .ok (.aload_n 0, 1) := by decide +kernel
theorem dX12_takeBack_2 : decode cX12_takeBack 2 = .ok (.getfield 7, 3) := by decide +kernel
theorem dX12_takeBack_5 : decode cX12_takeBack 5 = .ok (.sipush 337, 3) := by decide +kernel
theorem dX12_takeBack_8 : decode cX12_takeBack 8 = .ok (.iaload, 1) := by decide +kernel
theorem dX12_takeBack_9 : decode cX12_takeBack 9 = .ok (.ifCond .le 7, 3) := by decide +kernel
theorem dX12_takeBack_12 : decode cX12_takeBack 12 = .ok (.iconst 0, 1) := by decide +kernel
theorem dX12_takeBack_13 : decode cX12_takeBack 13 = .ok (.goto 4, 3) := by decide +kernel
theorem dX12_takeBack_16 : decode cX12_takeBack 16 = .ok (.iconst 1, 1) := by decide +kernel
theorem dX12_takeBack_17 : decode cX12_takeBack 17 = .ok (.putfield 31, 3) := by decide +kernel
theorem dX12_takeBack_20 : decode cX12_takeBack 20 = .ok (.aload_n 0, 1) := by decide +kernel
theorem dX12_takeBack_21 : decode cX12_takeBack 21 = .ok (.getfield 31, 3) := by decide +kernel
theorem dX12_takeBack_24 : decode cX12_takeBack 24 = .ok (.ifCond .le 5, 3) := by decide +kernel
theorem dX12_takeBack_27 : decode cX12_takeBack 27 = .ok (.iconst 0, 1) := by decide +kernel
theorem dX12_takeBack_28 : decode cX12_takeBack 28 = .ok (.ireturn, 1) := by decide +kernel
theorem dX12_takeBack_29 : decode cX12_takeBack 29 = .ok (.aload_n 0, 1) := by decide +kernel
theorem dX12_takeBack_30 : decode cX12_takeBack 30 = .ok (.invokevirtual 89, 3) := by decide +kernel
theorem dX12_takeBack_33 : decode cX12_takeBack 33 = .ok (.aload_n 0, 1) := by decide +kernel
theorem dX12_takeBack_34 : decode cX12_takeBack 34 = .ok (.getfield 7, 3) := by decide +kernel
theorem dX12_takeBack_37 : decode cX12_takeBack 37 = .ok (.sipush 1315, 3) := by decide +kernel
theorem dX12_takeBack_40 : decode cX12_takeBack 40 = .ok (.dup2, 1) := by decide +kernel
theorem dX12_takeBack_41 : decode cX12_takeBack 41 = .ok (.iaload, 1) := by decide +kernel
theorem dX12_takeBack_42 : decode cX12_takeBack 42 = .ok (.aload_n 0, 1) := by decide +kernel
theorem dX12_takeBack_43 : decode cX12_takeBack 43 = .ok (.invokevirtual 74, 3) := by decide +kernel
theorem dX12_takeBack_46 : decode cX12_takeBack 46 = .ok (.ifCond .ne 7, 3) := by decide +kernel
theorem dX12_takeBack_49 : decode cX12_takeBack 49 = .ok (.iconst 1, 1) := by decide +kernel
theorem dX12_takeBack_50 : decode cX12_takeBack 50 = .ok (.goto 4, 3) := by decide +kernel
theorem dX12_takeBack_53 : decode cX12_takeBack 53 = .ok (.iconst 0, 1) := by decide +kernel
theorem dX12_takeBack_54 : decode cX12_takeBack 54 = .ok (.isub, 1) := by decide +kernel
theorem dX12_takeBack_55 : decode cX12_takeBack 55 = .ok (.iastore, 1) := by decide +kernel
theorem dX12_takeBack_56 : decode cX12_takeBack 56 = .ok (.aload_n 0, 1) := by decide +kernel
theorem dX12_takeBack_57 : decode cX12_takeBack 57 = .ok (.getfield 7, 3) := by decide +kernel
theorem dX12_takeBack_60 : decode cX12_takeBack 60 = .ok (.sipush 337, 3) := by decide +kernel
theorem dX12_takeBack_63 : decode cX12_takeBack 63 = .ok (.dup2, 1) := by decide +kernel
theorem dX12_takeBack_64 : decode cX12_takeBack 64 = .ok (.iaload, 1) := by decide +kernel
theorem dX12_takeBack_65 : decode cX12_takeBack 65 = .ok (.iconst 1, 1) := by decide +kernel
theorem dX12_takeBack_66 : decode cX12_takeBack 66 = .ok (.isub, 1) := by decide +kernel
theorem dX12_takeBack_67 : decode cX12_takeBack 67 = .ok (.iastore, 1) := by decide +kernel
theorem dX12_takeBack_68 : decode cX12_takeBack 68 = .ok (.aload_n 0, 1) := by decide +kernel
theorem dX12_takeBack_69 : decode cX12_takeBack 69 = .ok (.getfield 7, 3) := by decide +kernel
theorem dX12_takeBack_72 : decode cX12_takeBack 72 = .ok (.sipush 338, 3) := by decide +kernel
theorem dX12_takeBack_75 : decode cX12_takeBack 75 = .ok (.aload_n 0, 1) := by decide +kernel
theorem dX12_takeBack_76 : decode cX12_takeBack 76 = .ok (.getfield 7, 3) := by decide +kernel
theorem dX12_takeBack_79 : decode cX12_takeBack 79 = .ok (.sipush 337, 3) := by decide +kernel
theorem dX12_takeBack_82 : decode cX12_takeBack 82 = .ok (.iaload, 1) := by decide +kernel
theorem dX12_takeBack_83 : decode cX12_takeBack 83 = .ok (.iadd, 1) := by decide +kernel
theorem dX12_takeBack_84 : decode cX12_takeBack 84 = .ok (.iaload, 1) := by decide +kernel
theorem dX12_takeBack_85 : decode cX12_takeBack 85 = .ok (.istore_n 1, 1) := by decide +kernel
theorem dX12_takeBack_86 : decode cX12_takeBack 86 = .ok (.aload_n 0, 1) := by decide +kernel
theorem dX12_takeBack_87 : decode cX12_takeBack 87 = .ok (.invokevirtual 83, 3) := by decide +kernel
theorem dX12_takeBack_90 : decode cX12_takeBack 90 = .ok (.iload_n 1, 1) := by decide +kernel
theorem dX12_takeBack_91 : decode cX12_takeBack 91 = .ok (.ireturn, 1) := by decide +kernel
set_option maxRecDepth 20000 in
theorem ggX12_fixAll_X12_save : GoodIn wsX12_fixAll wsX12_save := goodIn_r _ [7, 8, 9, 2, 17, 18, 19, 20, 21, 22, 23, 24, 25, 26, 27, 28, 29, 30] (by decide +kernel) (by decide +kernel)
set_option maxRecDepth 20000 in
theorem gX12_fixAll_X12_save : GoodIn wsX12_fixAll (wsV RX12 89 RX12 yX12_save wsX12_save) := goodIn_app (goodIn_of _ (by decide +kernel)) ggX12_fixAll_X12_save
set_option maxRecDepth 20000 in
theorem ggX12_fixAll_X12_fixOne : GoodIn wsX12_fixAll wsX12_fixOne := goodIn_r _ [13, 2, 14, 15, 6, 16, 17, 18, 19, 20, 21, 22, 23, 24, 25, 26, 27, 28, 29, 30] (by decide +kernel) (by decide +kernel)
set_option maxRecDepth 20000 in
theorem gX12_fixAll_X12_fixOne : GoodIn wsX12_fixAll (wsV RX12 77 RX12 yX12_fixOne wsX12_fixOne) := goodIn_app (goodIn_of _ (by decide +kernel)) ggX12_fixAll_X12_fixOne
theorem dX12_fixAll_0 : decode cX12_fixAll 0 = .ok (.aload_n 0, 1) := by decide +kernel
theorem dX12_fixAll_1 : decode cX12_fixAll 1 = .ok (.iconst 0, 1) := by decide +kernel
theorem dX12_fixAll_2 : decode cX12_fixAll 2 = .ok (.putfield 31, 3) := by decide +kernel
theorem dX12_fixAll_5 : decode cX12_fixAll 5 = .ok (.aload_n 0, 1) := by decide +kernel
theorem dX12_fixAll_6 : decode cX12_fixAll 6 = .ok (.invokevirtual 89, 3) := by decide +kernel
theorem dX12_fixAll_9 : decode cX12_fixAll 9 = .ok (.aload_n 0, 1) := by decide +kernel
theorem dX12_fixAll_10 : decode cX12_fixAll 10 = .ok (.getfield 7, 3) := by decide +kernel
theorem dX12_fixAll_13 : decode cX12_fixAll 13 = .ok (.sipush 399, 3) := by decide +kernel
theorem dX12_fixAll_16 : decode cX12_fixAll 16 = .ok (.iaload, 1) := by decide +kernel
theorem dX12_fixAll_17 : decode cX12_fixAll 17 = .ok (.aload_n 0, 1) := by decide +kernel
theorem dX12_fixAll_18 : decode cX12_fixAll 18 = .ok (.getfield 7, 3) := by decide +kernel
theorem dX12_fixAll_21 : decode cX12_fixAll 21 = .ok (.sipush 1315, 3) := by decide +kernel
theorem dX12_fixAll_24 : decode cX12_fixAll 24 = .ok (.iaload, 1) := by decide +kernel
theorem dX12_fixAll_25 : decode cX12_fixAll 25 = .ok (.isub, 1) := by decide +kernel
theorem dX12_fixAll_26 : decode cX12_fixAll 26 = .ok (.istore_n 1, 1) := by decide +kernel
theorem dX12_fixAll_27 : decode cX12_fixAll 27 = .ok (.aload_n 0, 1) := by decide +kernel
theorem dX12_fixAll_28 : decode cX12_fixAll 28 = .ok (.getfield 7, 3) := by decide +kernel
theorem dX12_fixAll_31 : decode cX12_fixAll 31 = .ok (.sipush 1315, 3) := by decide +kernel
theorem dX12_fixAll_34 : decode cX12_fixAll 34 = .ok (.iaload, 1) := by decide +kernel
theorem dX12_fixAll_35 : decode cX12_fixAll 35 = .ok (.aload_n 0, 1) := by decide +kernel
theorem dX12_fixAll_36 : decode cX12_fixAll 36 = .ok (.getfield 7, 3) := by decide +kernel
theorem dX12_fixAll_39 : decode cX12_fixAll 39 = .ok (.sipush 399, 3) := by decide +kernel
theorem dX12_fixAll_42 : decode cX12_fixAll 42 = .ok (.iaload, 1) := by decide +kernel
theorem dX12_fixAll_43 : decode cX12_fixAll 43 = .ok (.if_icmp .ge 10, 3) := by decide +kernel
theorem dX12_fixAll_46 : decode cX12_fixAll 46 = .ok (.aload_n 0, 1) := by decide +kernel
theorem dX12_fixAll_47 : decode cX12_fixAll 47 = .ok (.invokevirtual 77, 3) := by decide +kernel
theorem dX12_fixAll_50 : decode cX12_fixAll 50 = .ok (.goto (-23), 3) := by decide +kernel
theorem dX12_fixAll_53 : decode cX12_fixAll 53 = .ok (.iload_n 1, 1) := by decide +kernel
theorem dX12_fixAll_54 : decode cX12_fixAll 54 = .ok (.ireturn, 1) := by decide +kernel
set_option maxRecDepth 20000 in
theorem ggX12_setWindow_X12_within : GoodIn wsX12_setWindow wsX12_within := goodIn_r _ [6] (by decide +kernel) (by decide +kernel)
set_option maxRecDepth 20000 in
theorem gX12_setWindow_X12_within : GoodIn wsX12_setWindow (va_wsS RX12 35 yX12_within wsX12_within) := goodIn_app (goodIn_of _ (by decide +kernel)) ggX12_setWindow_X12_within
set_option maxRecDepth 20000 in
theorem ggX12_setWindow_X12_save : GoodIn wsX12_setWindow wsX12_save := goodIn_r _ [10, 11, 12, 2, 48, 49, 50, 51, 52, 53, 54, 55, 56, 57, 58, 59, 60, 61] (by decide +kernel) (by decide +kernel)
set_option maxRecDepth 20000 in
theorem gX12_setWindow_X12_save : GoodIn wsX12_setWindow (wsV RX12 89 RX12 yX12_save wsX12_save) := goodIn_app (goodIn_of _ (by decide +kernel)) ggX12_setWindow_X12_save
set_option maxRecDepth 20000 in
theorem ggX12_setWindow_X12_translate : GoodIn wsX12_setWindow wsX12_translate := goodIn_r _ [16, 2, 17, 18, 19, 20, 21, 5, 22, 23, 24, 25, 26, 27, 28, 29, 30, 31, 32, 33, 34, 35, 36, 37, 38, 39, 40, 41, 42, 43, 44, 45, 46, 47, 48, 49, 50, 51, 52, 53, 54, 55, 56, 57, 58, 59, 60, 61] (by decide +kernel) (by decide +kernel)
set_option maxRecDepth 20000 in
theorem gX12_setWindow_X12_translate : GoodIn wsX12_setWindow (wsV RX12 83 RX12 yX12_translate wsX12_translate) := goodIn_app (goodIn_of _ (by decide +kernel)) ggX12_setWindow_X12_translate
theorem dX12_setWindow_0 : decode cX12_setWindow 0 = .ok (.aload_n 0, 1) := by decide +kernel
theorem dX12_setWindow_1 : decode cX12_setWindow 1 = .ok (.iload_n 1, 1) := by decide +kernel
theorem dX12_setWindow_2 : decode cX12_setWindow 2 = .ok (.iconst 0, 1) := by decide +kernel
theorem dX12_setWindow_3 : decode cX12_setWindow 3 = .ok (.bipush 30, 2) := by decide +kernel
theorem dX12_setWindow_5 : decode cX12_setWindow 5 = .ok (.invokestatic 35, 3) := by decide +kernel
theorem dX12_setWindow_8 : decode cX12_setWindow 8 = .ok (.ifCond .eq 7, 3) := by decide +kernel
theorem dX12_setWindow_11 : decode cX12_setWindow 11 = .ok (.iconst 0, 1) := by decide +kernel
theorem dX12_setWindow_12 : decode cX12_setWindow 12 = .ok (.goto 4, 3) := by decide +kernel
theorem dX12_setWindow_15 : decode cX12_setWindow 15 = .ok (.iconst 1, 1) := by decide +kernel
theorem dX12_setWindow_16 : decode cX12_setWindow 16 = .ok (.putfield 31, 3) := by decide +kernel
theorem dX12_setWindow_19 : decode cX12_setWindow 19 = .ok (.aload_n 0, 1) := by decide +kernel
theorem dX12_setWindow_20 : decode cX12_setWindow 20 = .ok (.getfield 31, 3) := by decide +kernel
theorem dX12_setWindow_23 : decode cX12_setWindow 23 = .ok (.ifCond .le 5, 3) := by decide +kernel
theorem dX12_setWindow_26 : decode cX12_setWindow 26 = .ok (.iconst 0, 1) := by decide +kernel
theorem dX12_setWindow_27 : decode cX12_setWindow 27 = .ok (.ireturn, 1) := by decide +kernel
theorem dX12_setWindow_28 : decode cX12_setWindow 28 = .ok (.aload_n 0, 1) := by decide +kernel
theorem dX12_setWindow_29 : decode cX12_setWindow 29 = .ok (.invokevirtual 89, 3) := by decide +kernel
theorem dX12_setWindow_32 : decode cX12_setWindow 32 = .ok (.aload_n 0, 1) := by decide +kernel
theorem dX12_setWindow_33 : decode cX12_setWindow 33 = .ok (.getfield 7, 3) := by decide +kernel
theorem dX12_setWindow_36 : decode cX12_setWindow 36 = .ok (.sipush 1316, 3) := by decide +kernel
theorem dX12_setWindow_39 : decode cX12_setWindow 39 = .ok (.iaload, 1) := by decide +kernel
theorem dX12_setWindow_40 : decode cX12_setWindow 40 = .ok (.istore_n 2, 1) := by decide +kernel
theorem dX12_setWindow_41 : decode cX12_setWindow 41 = .ok (.aload_n 0, 1) := by decide +kernel
theorem dX12_setWindow_42 : decode cX12_setWindow 42 = .ok (.getfield 7, 3) := by decide +kernel
theorem dX12_setWindow_45 : decode cX12_setWindow 45 = .ok (.sipush 1316, 3) := by decide +kernel
theorem dX12_setWindow_48 : decode cX12_setWindow 48 = .ok (.iload_n 1, 1) := by decide +kernel
theorem dX12_setWindow_49 : decode cX12_setWindow 49 = .ok (.iastore, 1) := by decide +kernel
theorem dX12_setWindow_50 : decode cX12_setWindow 50 = .ok (.aload_n 0, 1) := by decide +kernel
theorem dX12_setWindow_51 : decode cX12_setWindow 51 = .ok (.invokevirtual 83, 3) := by decide +kernel
theorem dX12_setWindow_54 : decode cX12_setWindow 54 = .ok (.iload_n 2, 1) := by decide +kernel
theorem dX12_setWindow_55 : decode cX12_setWindow 55 = .ok (.ireturn, 1) := by decide +kernel
set_option maxRecDepth 20000 in
theorem ggX12_drop_X12_entryAt : GoodIn wsX12_drop wsX12_entryAt := goodIn_r _ [5] (by decide +kernel) (by decide +kernel)
set_option maxRecDepth 20000 in
theorem gX12_drop_X12_entryAt : GoodIn wsX12_drop (va_wsS RX12 39 yX12_entryAt wsX12_entryAt) := goodIn_app (goodIn_of _ (by decide +kernel)) ggX12_drop_X12_entryAt
set_option maxRecDepth 20000 in
theorem ggX12_drop_X12_translate : GoodIn wsX12_drop wsX12_translate := goodIn_r _ [9, 1, 10, 11, 12, 13, 14, 4, 15, 16, 17, 18, 19, 20, 21, 22, 2, 3, 5, 23, 24, 25, 26, 27, 28, 29, 30, 31, 32, 33, 34, 35, 36, 37, 38, 39, 40, 41, 42, 43, 44, 45, 46, 47, 48, 49, 50, 51] (by decide +kernel) (by decide +kernel)
set_option maxRecDepth 20000 in
theorem gX12_drop_X12_translate : GoodIn wsX12_drop (wsV RX12 83 RX12 yX12_translate wsX12_translate) := goodIn_app (goodIn_of _ (by decide +kernel)) ggX12_drop_X12_translate
theorem dX12_drop_0 : decode cX12_drop 0 = .ok (.aload_n 0, 1) := by decide +kernel
theorem dX12_drop_1 : decode cX12_drop 1 = .ok (.getfield 7, 3) := by decide +kernel
theorem dX12_drop_4 : decode cX12_drop 4 = .ok (.iconst 0, 1) := by decide +kernel
theorem dX12_drop_5 : decode cX12_drop 5 = .ok (.dup2, 1) := by decide +kernel
theorem dX12_drop_6 : decode cX12_drop 6 = .ok (.iaload, 1) := by decide +kernel
theorem dX12_drop_7 : decode cX12_drop 7 = .ok (.iconst 1, 1) := by decide +kernel
theorem dX12_drop_8 : decode cX12_drop 8 = .ok (.isub, 1) := by decide +kernel
theorem dX12_drop_9 : decode cX12_drop 9 = .ok (.iastore, 1) := by decide +kernel
theorem dX12_drop_10 : decode cX12_drop 10 = .ok (.iload_n 1, 1) := by decide +kernel
theorem dX12_drop_11 : decode cX12_drop 11 = .ok (.invokestatic 39, 3) := by decide +kernel
theorem dX12_drop_14 : decode cX12_drop 14 = .ok (.istore_n 2, 1) := by decide +kernel
theorem dX12_drop_15 : decode cX12_drop 15 = .ok (.iload_n 2, 1) := by decide +kernel
theorem dX12_drop_16 : decode cX12_drop 16 = .ok (.aload_n 0, 1) := by decide +kernel
theorem dX12_drop_17 : decode cX12_drop 17 = .ok (.getfield 7, 3) := by decide +kernel
theorem dX12_drop_20 : decode cX12_drop 20 = .ok (.iconst 0, 1) := by decide +kernel
theorem dX12_drop_21 : decode cX12_drop 21 = .ok (.iaload, 1) := by decide +kernel
theorem dX12_drop_22 : decode cX12_drop 22 = .ok (.invokestatic 39, 3) := by decide +kernel
theorem dX12_drop_25 : decode cX12_drop 25 = .ok (.if_icmp .ge 24, 3) := by decide +kernel
theorem dX12_drop_28 : decode cX12_drop 28 = .ok (.aload_n 0, 1) := by decide +kernel
theorem dX12_drop_29 : decode cX12_drop 29 = .ok (.getfield 7, 3) := by decide +kernel
theorem dX12_drop_32 : decode cX12_drop 32 = .ok (.iload_n 2, 1) := by decide +kernel
theorem dX12_drop_33 : decode cX12_drop 33 = .ok (.aload_n 0, 1) := by decide +kernel
theorem dX12_drop_34 : decode cX12_drop 34 = .ok (.getfield 7, 3) := by decide +kernel
theorem dX12_drop_37 : decode cX12_drop 37 = .ok (.iload_n 2, 1) := by decide +kernel
theorem dX12_drop_38 : decode cX12_drop 38 = .ok (.bipush 14, 2) := by decide +kernel
theorem dX12_drop_40 : decode cX12_drop 40 = .ok (.iadd, 1) := by decide +kernel
theorem dX12_drop_41 : decode cX12_drop 41 = .ok (.iaload, 1) := by decide +kernel
theorem dX12_drop_42 : decode cX12_drop 42 = .ok (.iastore, 1) := by decide +kernel
theorem dX12_drop_43 : decode cX12_drop 43 = .ok (.iinc 2 1, 3) := by decide +kernel
theorem dX12_drop_46 : decode cX12_drop 46 = .ok (.goto (-31), 3) := by decide +kernel
theorem dX12_drop_49 : decode cX12_drop 49 = .ok (.aload_n 0, 1) := by decide +kernel
theorem dX12_drop_50 : decode cX12_drop 50 = .ok (.invokevirtual 83, 3) := by decide +kernel
theorem dX12_drop_53 : decode cX12_drop 53 = .ok (.return_, 1) := by decide +kernel
set_option maxRecDepth 20000 in
theorem ggX12_removeEntry_X12_isEntry : GoodIn wsX12_removeEntry wsX12_isEntry := goodIn_r _ [7, 2, 8, 9, 6, 10, 56, 57, 58, 59, 60, 61, 62, 63, 64, 65, 66, 67, 68, 69] (by decide +kernel) (by decide +kernel)
set_option maxRecDepth 20000 in
theorem gX12_removeEntry_X12_isEntry : GoodIn wsX12_removeEntry (wsV RX12 96 RX12 yX12_isEntry wsX12_isEntry) := goodIn_app (goodIn_of _ (by decide +kernel)) ggX12_removeEntry_X12_isEntry
set_option maxRecDepth 20000 in
theorem ggX12_removeEntry_X12_save : GoodIn wsX12_removeEntry wsX12_save := goodIn_r _ [14, 15, 16, 2, 56, 57, 58, 59, 60, 61, 62, 63, 64, 65, 66, 67, 68, 69] (by decide +kernel) (by decide +kernel)
set_option maxRecDepth 20000 in
theorem gX12_removeEntry_X12_save : GoodIn wsX12_removeEntry (wsV RX12 89 RX12 yX12_save wsX12_save) := goodIn_app (goodIn_of _ (by decide +kernel)) ggX12_removeEntry_X12_save
set_option maxRecDepth 20000 in
theorem ggX12_removeEntry_X12_drop : GoodIn wsX12_removeEntry wsX12_drop := goodIn_r _ [20, 2, 21, 22, 6, 23, 24, 25, 26, 27, 28, 29, 30, 31, 32, 33, 34, 35, 36, 37, 38, 39, 40, 41, 42, 43, 44, 45, 46, 47, 48, 49, 50, 51, 52, 53, 54, 55, 56, 57, 58, 59, 60, 61, 62, 63, 64, 65, 66, 67, 68, 69] (by decide +kernel) (by decide +kernel)
set_option maxRecDepth 20000 in
theorem gX12_removeEntry_X12_drop : GoodIn wsX12_removeEntry (wsV RX12 99 RX12 yX12_drop wsX12_drop) := goodIn_app (goodIn_of _ (by decide +kernel)) ggX12_removeEntry_X12_drop
theorem dX12_removeEntry_0 : decode cX12_removeEntry 0 = .ok (.aload_n 0, 1) := by decide +kernel
theorem dX12_removeEntry_1 : decode cX12_removeEntry 1 = .ok (.aload_n 0, 1) := by decide +kernel
theorem dX12_removeEntry_2 : decode cX12_removeEntry 2 = .ok (.iload_n 1, 1) := by decide +kernel
theorem dX12_removeEntry_3 : decode cX12_removeEntry 3 = .ok (.invokevirtual 96, 3) := by decide +kernel
theorem dX12_removeEntry_6 : decode cX12_removeEntry 6 = .ok (.ifCond .eq 7, 3) := by decide +kernel
theorem dX12_removeEntry_9 : decode cX12_removeEntry 9 = .ok (.iconst 0, 1) := by decide +kernel
theorem dX12_removeEntry_10 : decode cX12_removeEntry 10 = .ok (.goto 4, 3) := by decide +kernel
theorem dX12_removeEntry_13 : decode cX12_removeEntry 13 = .ok (.iconst 1, 1) := by decide +kernel
theorem dX12_removeEntry_14 : decode cX12_removeEntry 14 = .ok (.putfield 31, 3) := by decide +kernel
theorem dX12_removeEntry_17 : decode cX12_removeEntry 17 = .ok (.aload_n 0, 1) := by decide +kernel
theorem dX12_removeEntry_18 : decode cX12_removeEntry 18 = .ok (.getfield 31, 3) := by decide +kernel
theorem dX12_removeEntry_21 : decode cX12_removeEntry 21 = .ok (.ifCond .le 5, 3) := by decide +kernel
theorem dX12_removeEntry_24 : decode cX12_removeEntry 24 = .ok (.iconst 0, 1) := by decide +kernel
theorem dX12_removeEntry_25 : decode cX12_removeEntry 25 = .ok (.ireturn, 1) := by decide +kernel
theorem dX12_removeEntry_26 : decode cX12_removeEntry 26 = .ok (.aload_n 0, 1) := by decide +kernel
theorem dX12_removeEntry_27 : decode cX12_removeEntry 27 = .ok (.invokevirtual 89, 3) := by decide +kernel
theorem dX12_removeEntry_30 : decode cX12_removeEntry 30 = .ok (.aload_n 0, 1) := by decide +kernel
theorem dX12_removeEntry_31 : decode cX12_removeEntry 31 = .ok (.iload_n 1, 1) := by decide +kernel
theorem dX12_removeEntry_32 : decode cX12_removeEntry 32 = .ok (.invokevirtual 99, 3) := by decide +kernel
theorem dX12_removeEntry_35 : decode cX12_removeEntry 35 = .ok (.aload_n 0, 1) := by decide +kernel
theorem dX12_removeEntry_36 : decode cX12_removeEntry 36 = .ok (.getfield 7, 3) := by decide +kernel
theorem dX12_removeEntry_39 : decode cX12_removeEntry 39 = .ok (.sipush 399, 3) := by decide +kernel
theorem dX12_removeEntry_42 : decode cX12_removeEntry 42 = .ok (.iaload, 1) := by decide +kernel
theorem dX12_removeEntry_43 : decode cX12_removeEntry 43 = .ok (.ireturn, 1) := by decide +kernel
set_option maxRecDepth 20000 in
theorem ggX12_madeBy_X12_itemAt : GoodIn wsX12_madeBy wsX12_itemAt := goodIn_r _ [5] (by decide +kernel) (by decide +kernel)
set_option maxRecDepth 20000 in
theorem gX12_madeBy_X12_itemAt : GoodIn wsX12_madeBy (va_wsS RX12 57 yX12_itemAt wsX12_itemAt) := goodIn_app (goodIn_of _ (by decide +kernel)) ggX12_madeBy_X12_itemAt
theorem dX12_madeBy_0 : decode cX12_madeBy 0 = .ok (.iconst 0, 1) := by decide +kernel
theorem dX12_madeBy_1 : decode cX12_madeBy 1 = .ok (.istore_n 2, 1) := by decide +kernel
theorem dX12_madeBy_2 : decode cX12_madeBy 2 = .ok (.aload_n 0, 1) := by decide +kernel
theorem dX12_madeBy_3 : decode cX12_madeBy 3 = .ok (.getfield 7, 3) := by decide +kernel
theorem dX12_madeBy_6 : decode cX12_madeBy 6 = .ok (.sipush 1315, 3) := by decide +kernel
theorem dX12_madeBy_9 : decode cX12_madeBy 9 = .ok (.iaload, 1) := by decide +kernel
theorem dX12_madeBy_10 : decode cX12_madeBy 10 = .ok (.istore_n 3, 1) := by decide +kernel
theorem dX12_madeBy_11 : decode cX12_madeBy 11 = .ok (.iload_n 3, 1) := by decide +kernel
theorem dX12_madeBy_12 : decode cX12_madeBy 12 = .ok (.aload_n 0, 1) := by decide +kernel
theorem dX12_madeBy_13 : decode cX12_madeBy 13 = .ok (.getfield 7, 3) := by decide +kernel
theorem dX12_madeBy_16 : decode cX12_madeBy 16 = .ok (.sipush 399, 3) := by decide +kernel
theorem dX12_madeBy_19 : decode cX12_madeBy 19 = .ok (.iaload, 1) := by decide +kernel
theorem dX12_madeBy_20 : decode cX12_madeBy 20 = .ok (.if_icmp .ge 32, 3) := by decide +kernel
theorem dX12_madeBy_23 : decode cX12_madeBy 23 = .ok (.iload_n 2, 1) := by decide +kernel
theorem dX12_madeBy_24 : decode cX12_madeBy 24 = .ok (.aload_n 0, 1) := by decide +kernel
theorem dX12_madeBy_25 : decode cX12_madeBy 25 = .ok (.getfield 7, 3) := by decide +kernel
theorem dX12_madeBy_28 : decode cX12_madeBy 28 = .ok (.iload_n 3, 1) := by decide +kernel
theorem dX12_madeBy_29 : decode cX12_madeBy 29 = .ok (.invokestatic 57, 3) := by decide +kernel
theorem dX12_madeBy_32 : decode cX12_madeBy 32 = .ok (.iconst 1, 1) := by decide +kernel
theorem dX12_madeBy_33 : decode cX12_madeBy 33 = .ok (.iadd, 1) := by decide +kernel
theorem dX12_madeBy_34 : decode cX12_madeBy 34 = .ok (.iaload, 1) := by decide +kernel
theorem dX12_madeBy_35 : decode cX12_madeBy 35 = .ok (.iload_n 1, 1) := by decide +kernel
theorem dX12_madeBy_36 : decode cX12_madeBy 36 = .ok (.if_icmp .ne 7, 3) := by decide +kernel
theorem dX12_madeBy_39 : decode cX12_madeBy 39 = .ok (.iconst 1, 1) := by decide +kernel
theorem dX12_madeBy_40 : decode cX12_madeBy 40 = .ok (.goto 4, 3) := by decide +kernel
theorem dX12_madeBy_43 : decode cX12_madeBy 43 = .ok (.iconst 0, 1) := by decide +kernel
theorem dX12_madeBy_44 : decode cX12_madeBy 44 = .ok (.iadd, 1) := by decide +kernel
theorem dX12_madeBy_45 : decode cX12_madeBy 45 = .ok (.istore_n 2, 1) := by decide +kernel
theorem dX12_madeBy_46 : decode cX12_madeBy 46 = .ok (.iinc 3 1, 3) := by decide +kernel
theorem dX12_madeBy_49 : decode cX12_madeBy 49 = .ok (.goto (-38), 3) := by decide +kernel
theorem dX12_madeBy_52 : decode cX12_madeBy 52 = .ok (.iload_n 2, 1) := by decide +kernel
theorem dX12_madeBy_53 : decode cX12_madeBy 53 = .ok (.ireturn, 1) := by decide +kernel
set_option maxRecDepth 20000 in
theorem ggX12_renameEntry_X12_isEntry : GoodIn wsX12_renameEntry wsX12_isEntry := goodIn_r _ [7, 2, 8, 9, 6, 10, 60, 61, 62, 63, 64, 65, 66, 67, 68, 69, 70, 71, 72, 73] (by decide +kernel) (by decide +kernel)
set_option maxRecDepth 20000 in
theorem gX12_renameEntry_X12_isEntry : GoodIn wsX12_renameEntry (wsV RX12 96 RX12 yX12_isEntry wsX12_isEntry) := goodIn_app (goodIn_of _ (by decide +kernel)) ggX12_renameEntry_X12_isEntry
set_option maxRecDepth 20000 in
theorem ggX12_renameEntry_X12_save : GoodIn wsX12_renameEntry wsX12_save := goodIn_r _ [14, 15, 16, 2, 60, 61, 62, 63, 64, 65, 66, 67, 68, 69, 70, 71, 72, 73] (by decide +kernel) (by decide +kernel)
set_option maxRecDepth 20000 in
theorem gX12_renameEntry_X12_save : GoodIn wsX12_renameEntry (wsV RX12 89 RX12 yX12_save wsX12_save) := goodIn_app (goodIn_of _ (by decide +kernel)) ggX12_renameEntry_X12_save
set_option maxRecDepth 20000 in
theorem ggX12_renameEntry_X12_isSameWord : GoodIn wsX12_renameEntry wsX12_isSameWord := goodIn_r _ [20, 2, 21, 22, 6, 23, 60, 61, 62, 63, 64, 65, 66, 67, 68, 69, 70, 71, 72, 73] (by decide +kernel) (by decide +kernel)
set_option maxRecDepth 20000 in
theorem gX12_renameEntry_X12_isSameWord : GoodIn wsX12_renameEntry (wsV RX12 46 RX12 yX12_isSameWord wsX12_isSameWord) := goodIn_app (goodIn_of _ (by decide +kernel)) ggX12_renameEntry_X12_isSameWord
set_option maxRecDepth 20000 in
theorem ggX12_renameEntry_X12_madeBy : GoodIn wsX12_renameEntry wsX12_madeBy := goodIn_r _ [27, 2, 28, 29, 6, 30, 60, 61, 62, 63, 64, 65, 66, 67, 68, 69, 70, 71, 72, 73] (by decide +kernel) (by decide +kernel)
set_option maxRecDepth 20000 in
theorem gX12_renameEntry_X12_madeBy : GoodIn wsX12_renameEntry (wsV RX12 102 RX12 yX12_madeBy wsX12_madeBy) := goodIn_app (goodIn_of _ (by decide +kernel)) ggX12_renameEntry_X12_madeBy
set_option maxRecDepth 20000 in
theorem ggX12_renameEntry_X12_entryAt : GoodIn wsX12_renameEntry wsX12_entryAt := goodIn_r _ [23] (by decide +kernel) (by decide +kernel)
set_option maxRecDepth 20000 in
theorem gX12_renameEntry_X12_entryAt : GoodIn wsX12_renameEntry (va_wsS RX12 39 yX12_entryAt wsX12_entryAt) := goodIn_app (goodIn_of _ (by decide +kernel)) ggX12_renameEntry_X12_entryAt
set_option maxRecDepth 20000 in
theorem ggX12_renameEntry_X12_translate : GoodIn wsX12_renameEntry wsX12_translate := goodIn_r _ [34, 2, 35, 36, 37, 38, 39, 6, 40, 28, 29, 30, 41, 42, 43, 44, 21, 22, 23, 45, 46, 47, 48, 49, 50, 51, 52, 53, 54, 55, 56, 57, 58, 59, 60, 61, 62, 63, 64, 65, 66, 67, 68, 69, 70, 71, 72, 73] (by decide +kernel) (by decide +kernel)
set_option maxRecDepth 20000 in
theorem gX12_renameEntry_X12_translate : GoodIn wsX12_renameEntry (wsV RX12 83 RX12 yX12_translate wsX12_translate) := goodIn_app (goodIn_of _ (by decide +kernel)) ggX12_renameEntry_X12_translate
theorem dX12_renameEntry_0 : decode cX12_renameEntry 0 = .ok (.aload_n 0, 1) := by decide +kernel
theorem dX12_renameEntry_1 : decode cX12_renameEntry 1 = .ok (.aload_n 0, 1) := by decide +kernel
theorem dX12_renameEntry_2 : decode cX12_renameEntry 2 = .ok (.iload_n 1, 1) := by decide +kernel
theorem dX12_renameEntry_3 : decode cX12_renameEntry 3 = .ok (.invokevirtual 96, 3) := by decide +kernel
theorem dX12_renameEntry_6 : decode cX12_renameEntry 6 = .ok (.ifCond .eq 15, 3) := by decide +kernel
theorem dX12_renameEntry_9 : decode cX12_renameEntry 9 = .ok (.aload_n 0, 1) := by decide +kernel
theorem dX12_renameEntry_10 : decode cX12_renameEntry 10 = .ok (.iload_n 2, 1) := by decide +kernel
theorem dX12_renameEntry_11 : decode cX12_renameEntry 11 = .ok (.invokevirtual 96, 3) := by decide +kernel
theorem dX12_renameEntry_14 : decode cX12_renameEntry 14 = .ok (.ifCond .eq 7, 3) := by decide +kernel
theorem dX12_renameEntry_17 : decode cX12_renameEntry 17 = .ok (.iconst 0, 1) := by decide +kernel
theorem dX12_renameEntry_18 : decode cX12_renameEntry 18 = .ok (.goto 4, 3) := by decide +kernel
theorem dX12_renameEntry_21 : decode cX12_renameEntry 21 = .ok (.iconst 1, 1) := by decide +kernel
theorem dX12_renameEntry_22 : decode cX12_renameEntry 22 = .ok (.putfield 31, 3) := by decide +kernel
theorem dX12_renameEntry_25 : decode cX12_renameEntry 25 = .ok (.aload_n 0, 1) := by decide +kernel
theorem dX12_renameEntry_26 : decode cX12_renameEntry 26 = .ok (.getfield 31, 3) := by decide +kernel
theorem dX12_renameEntry_29 : decode cX12_renameEntry 29 = .ok (.ifCond .le 5, 3) := by decide +kernel
theorem dX12_renameEntry_32 : decode cX12_renameEntry 32 = .ok (.iconst 0, 1) := by decide +kernel
theorem dX12_renameEntry_33 : decode cX12_renameEntry 33 = .ok (.ireturn, 1) := by decide +kernel
theorem dX12_renameEntry_34 : decode cX12_renameEntry 34 = .ok (.aload_n 0, 1) := by decide +kernel
theorem dX12_renameEntry_35 : decode cX12_renameEntry 35 = .ok (.invokevirtual 89, 3) := by decide +kernel
theorem dX12_renameEntry_38 : decode cX12_renameEntry 38 = .ok (.aload_n 0, 1) := by decide +kernel
theorem dX12_renameEntry_39 : decode cX12_renameEntry 39 = .ok (.iload_n 1, 1) := by decide +kernel
theorem dX12_renameEntry_40 : decode cX12_renameEntry 40 = .ok (.iload_n 2, 1) := by decide +kernel
theorem dX12_renameEntry_41 : decode cX12_renameEntry 41 = .ok (.invokevirtual 46, 3) := by decide +kernel
theorem dX12_renameEntry_44 : decode cX12_renameEntry 44 = .ok (.ifCond .eq 7, 3) := by decide +kernel
theorem dX12_renameEntry_47 : decode cX12_renameEntry 47 = .ok (.iconst 0, 1) := by decide +kernel
theorem dX12_renameEntry_48 : decode cX12_renameEntry 48 = .ok (.goto 8, 3) := by decide +kernel
theorem dX12_renameEntry_51 : decode cX12_renameEntry 51 = .ok (.aload_n 0, 1) := by decide +kernel
theorem dX12_renameEntry_52 : decode cX12_renameEntry 52 = .ok (.iload_n 1, 1) := by decide +kernel
theorem dX12_renameEntry_53 : decode cX12_renameEntry 53 = .ok (.invokevirtual 102, 3) := by decide +kernel
theorem dX12_renameEntry_56 : decode cX12_renameEntry 56 = .ok (.istore_n 3, 1) := by decide +kernel
theorem dX12_renameEntry_57 : decode cX12_renameEntry 57 = .ok (.iconst 5, 1) := by decide +kernel
theorem dX12_renameEntry_58 : decode cX12_renameEntry 58 = .ok (.istore 4, 2) := by decide +kernel
theorem dX12_renameEntry_60 : decode cX12_renameEntry 60 = .ok (.iload 4, 2) := by decide +kernel
theorem dX12_renameEntry_62 : decode cX12_renameEntry 62 = .ok (.bipush 14, 2) := by decide +kernel
theorem dX12_renameEntry_64 : decode cX12_renameEntry 64 = .ok (.if_icmp .ge 33, 3) := by decide +kernel
theorem dX12_renameEntry_67 : decode cX12_renameEntry 67 = .ok (.aload_n 0, 1) := by decide +kernel
theorem dX12_renameEntry_68 : decode cX12_renameEntry 68 = .ok (.getfield 7, 3) := by decide +kernel
theorem dX12_renameEntry_71 : decode cX12_renameEntry 71 = .ok (.iload_n 1, 1) := by decide +kernel
theorem dX12_renameEntry_72 : decode cX12_renameEntry 72 = .ok (.invokestatic 39, 3) := by decide +kernel
theorem dX12_renameEntry_75 : decode cX12_renameEntry 75 = .ok (.iload 4, 2) := by decide +kernel
theorem dX12_renameEntry_77 : decode cX12_renameEntry 77 = .ok (.iadd, 1) := by decide +kernel
theorem dX12_renameEntry_78 : decode cX12_renameEntry 78 = .ok (.aload_n 0, 1) := by decide +kernel
theorem dX12_renameEntry_79 : decode cX12_renameEntry 79 = .ok (.getfield 7, 3) := by decide +kernel
theorem dX12_renameEntry_82 : decode cX12_renameEntry 82 = .ok (.iload_n 2, 1) := by decide +kernel
theorem dX12_renameEntry_83 : decode cX12_renameEntry 83 = .ok (.invokestatic 39, 3) := by decide +kernel
theorem dX12_renameEntry_86 : decode cX12_renameEntry 86 = .ok (.iload 4, 2) := by decide +kernel
theorem dX12_renameEntry_88 : decode cX12_renameEntry 88 = .ok (.iadd, 1) := by decide +kernel
theorem dX12_renameEntry_89 : decode cX12_renameEntry 89 = .ok (.iaload, 1) := by decide +kernel
theorem dX12_renameEntry_90 : decode cX12_renameEntry 90 = .ok (.iastore, 1) := by decide +kernel
theorem dX12_renameEntry_91 : decode cX12_renameEntry 91 = .ok (.iinc 4 1, 3) := by decide +kernel
theorem dX12_renameEntry_94 : decode cX12_renameEntry 94 = .ok (.goto (-34), 3) := by decide +kernel
theorem dX12_renameEntry_97 : decode cX12_renameEntry 97 = .ok (.aload_n 0, 1) := by decide +kernel
theorem dX12_renameEntry_98 : decode cX12_renameEntry 98 = .ok (.invokevirtual 83, 3) := by decide +kernel
theorem dX12_renameEntry_101 : decode cX12_renameEntry 101 = .ok (.iload_n 3, 1) := by decide +kernel
theorem dX12_renameEntry_102 : decode cX12_renameEntry 102 = .ok (.ireturn, 1) := by decide +kernel
set_option maxRecDepth 20000 in
theorem ggX12_strokesAhead_X12_itemAt : GoodIn wsX12_strokesAhead wsX12_itemAt := goodIn_r _ [5] (by decide +kernel) (by decide +kernel)
set_option maxRecDepth 20000 in
theorem gX12_strokesAhead_X12_itemAt : GoodIn wsX12_strokesAhead (va_wsS RX12 57 yX12_itemAt wsX12_itemAt) := goodIn_app (goodIn_of _ (by decide +kernel)) ggX12_strokesAhead_X12_itemAt
theorem dX12_strokesAhead_0 : decode cX12_strokesAhead 0 = .ok (.iconst 0, 1) := by decide +kernel
theorem dX12_strokesAhead_1 : decode cX12_strokesAhead 1 = .ok (.istore_n 2, 1) := by decide +kernel
theorem dX12_strokesAhead_2 : decode cX12_strokesAhead 2 = .ok (.iconst 0, 1) := by decide +kernel
theorem dX12_strokesAhead_3 : decode cX12_strokesAhead 3 = .ok (.istore_n 3, 1) := by decide +kernel
theorem dX12_strokesAhead_4 : decode cX12_strokesAhead 4 = .ok (.iload_n 3, 1) := by decide +kernel
theorem dX12_strokesAhead_5 : decode cX12_strokesAhead 5 = .ok (.iload_n 1, 1) := by decide +kernel
theorem dX12_strokesAhead_6 : decode cX12_strokesAhead 6 = .ok (.if_icmp .ge 21, 3) := by decide +kernel
theorem dX12_strokesAhead_9 : decode cX12_strokesAhead 9 = .ok (.iload_n 2, 1) := by decide +kernel
theorem dX12_strokesAhead_10 : decode cX12_strokesAhead 10 = .ok (.aload_n 0, 1) := by decide +kernel
theorem dX12_strokesAhead_11 : decode cX12_strokesAhead 11 = .ok (.getfield 7, 3) := by decide +kernel
theorem dX12_strokesAhead_14 : decode cX12_strokesAhead 14 = .ok (.iload_n 3, 1) := by decide +kernel
theorem dX12_strokesAhead_15 : decode cX12_strokesAhead 15 = .ok (.invokestatic 57, 3) := by decide +kernel
theorem dX12_strokesAhead_18 : decode cX12_strokesAhead 18 = .ok (.iaload, 1) := by decide +kernel
theorem dX12_strokesAhead_19 : decode cX12_strokesAhead 19 = .ok (.iadd, 1) := by decide +kernel
theorem dX12_strokesAhead_20 : decode cX12_strokesAhead 20 = .ok (.istore_n 2, 1) := by decide +kernel
theorem dX12_strokesAhead_21 : decode cX12_strokesAhead 21 = .ok (.iinc 3 1, 3) := by decide +kernel
theorem dX12_strokesAhead_24 : decode cX12_strokesAhead 24 = .ok (.goto (-20), 3) := by decide +kernel
theorem dX12_strokesAhead_27 : decode cX12_strokesAhead 27 = .ok (.iload_n 2, 1) := by decide +kernel
theorem dX12_strokesAhead_28 : decode cX12_strokesAhead 28 = .ok (.ireturn, 1) := by decide +kernel
set_option maxRecDepth 20000 in
theorem ggX12_isOutlineThere_X12_entryAt : GoodIn wsX12_isOutlineThere wsX12_entryAt := goodIn_r _ [5] (by decide +kernel) (by decide +kernel)
set_option maxRecDepth 20000 in
theorem gX12_isOutlineThere_X12_entryAt : GoodIn wsX12_isOutlineThere (va_wsS RX12 39 yX12_entryAt wsX12_entryAt) := goodIn_app (goodIn_of _ (by decide +kernel)) ggX12_isOutlineThere_X12_entryAt
set_option maxRecDepth 20000 in
theorem ggX12_isOutlineThere_X12_isIn : GoodIn wsX12_isOutlineThere wsX12_isIn := goodIn_r _ [9, 1, 2, 3, 4, 5, 10, 11, 12, 13, 14, 15, 16, 17, 18, 19, 20, 21, 22, 23] (by decide +kernel) (by decide +kernel)
set_option maxRecDepth 20000 in
theorem gX12_isOutlineThere_X12_isIn : GoodIn wsX12_isOutlineThere (wsV RX12 43 RX12 yX12_isIn wsX12_isIn) := goodIn_app (goodIn_of _ (by decide +kernel)) ggX12_isOutlineThere_X12_isIn
theorem dX12_isOutlineThere_0 : decode cX12_isOutlineThere 0 = .ok (.iconst 0, 1) := by decide +kernel
theorem dX12_isOutlineThere_1 : decode cX12_isOutlineThere 1 = .ok (.istore_n 1, 1) := by decide +kernel
theorem dX12_isOutlineThere_2 : decode cX12_isOutlineThere 2 = .ok (.aload_n 0, 1) := by decide +kernel
theorem dX12_isOutlineThere_3 : decode cX12_isOutlineThere 3 = .ok (.getfield 7, 3) := by decide +kernel
theorem dX12_isOutlineThere_6 : decode cX12_isOutlineThere 6 = .ok (.iconst 0, 1) := by decide +kernel
theorem dX12_isOutlineThere_7 : decode cX12_isOutlineThere 7 = .ok (.iaload, 1) := by decide +kernel
theorem dX12_isOutlineThere_8 : decode cX12_isOutlineThere 8 = .ok (.istore_n 2, 1) := by decide +kernel
theorem dX12_isOutlineThere_9 : decode cX12_isOutlineThere 9 = .ok (.iconst 0, 1) := by decide +kernel
theorem dX12_isOutlineThere_10 : decode cX12_isOutlineThere 10 = .ok (.istore_n 3, 1) := by decide +kernel
theorem dX12_isOutlineThere_11 : decode cX12_isOutlineThere 11 = .ok (.iload_n 3, 1) := by decide +kernel
theorem dX12_isOutlineThere_12 : decode cX12_isOutlineThere 12 = .ok (.iload_n 2, 1) := by decide +kernel
theorem dX12_isOutlineThere_13 : decode cX12_isOutlineThere 13 = .ok (.if_icmp .ge 50, 3) := by decide +kernel
theorem dX12_isOutlineThere_16 : decode cX12_isOutlineThere 16 = .ok (.iload_n 1, 1) := by decide +kernel
theorem dX12_isOutlineThere_17 : decode cX12_isOutlineThere 17 = .ok (.ifCond .ne 34, 3) := by decide +kernel
theorem dX12_isOutlineThere_20 : decode cX12_isOutlineThere 20 = .ok (.aload_n 0, 1) := by decide +kernel
theorem dX12_isOutlineThere_21 : decode cX12_isOutlineThere 21 = .ok (.getfield 7, 3) := by decide +kernel
theorem dX12_isOutlineThere_24 : decode cX12_isOutlineThere 24 = .ok (.iload_n 3, 1) := by decide +kernel
theorem dX12_isOutlineThere_25 : decode cX12_isOutlineThere 25 = .ok (.invokestatic 39, 3) := by decide +kernel
theorem dX12_isOutlineThere_28 : decode cX12_isOutlineThere 28 = .ok (.iaload, 1) := by decide +kernel
theorem dX12_isOutlineThere_29 : decode cX12_isOutlineThere 29 = .ok (.aload_n 0, 1) := by decide +kernel
theorem dX12_isOutlineThere_30 : decode cX12_isOutlineThere 30 = .ok (.getfield 7, 3) := by decide +kernel
theorem dX12_isOutlineThere_33 : decode cX12_isOutlineThere 33 = .ok (.iload_n 2, 1) := by decide +kernel
theorem dX12_isOutlineThere_34 : decode cX12_isOutlineThere 34 = .ok (.invokestatic 39, 3) := by decide +kernel
theorem dX12_isOutlineThere_37 : decode cX12_isOutlineThere 37 = .ok (.iaload, 1) := by decide +kernel
theorem dX12_isOutlineThere_38 : decode cX12_isOutlineThere 38 = .ok (.if_icmp .ne 17, 3) := by decide +kernel
theorem dX12_isOutlineThere_41 : decode cX12_isOutlineThere 41 = .ok (.aload_n 0, 1) := by decide +kernel
theorem dX12_isOutlineThere_42 : decode cX12_isOutlineThere 42 = .ok (.iload_n 3, 1) := by decide +kernel
theorem dX12_isOutlineThere_43 : decode cX12_isOutlineThere 43 = .ok (.iconst 0, 1) := by decide +kernel
theorem dX12_isOutlineThere_44 : decode cX12_isOutlineThere 44 = .ok (.iload_n 2, 1) := by decide +kernel
theorem dX12_isOutlineThere_45 : decode cX12_isOutlineThere 45 = .ok (.invokevirtual 43, 3) := by decide +kernel
theorem dX12_isOutlineThere_48 : decode cX12_isOutlineThere 48 = .ok (.ifCond .eq 7, 3) := by decide +kernel
theorem dX12_isOutlineThere_51 : decode cX12_isOutlineThere 51 = .ok (.iconst 1, 1) := by decide +kernel
theorem dX12_isOutlineThere_52 : decode cX12_isOutlineThere 52 = .ok (.goto 4, 3) := by decide +kernel
theorem dX12_isOutlineThere_55 : decode cX12_isOutlineThere 55 = .ok (.iconst 0, 1) := by decide +kernel
theorem dX12_isOutlineThere_56 : decode cX12_isOutlineThere 56 = .ok (.istore_n 1, 1) := by decide +kernel
theorem dX12_isOutlineThere_57 : decode cX12_isOutlineThere 57 = .ok (.iinc 3 1, 3) := by decide +kernel
theorem dX12_isOutlineThere_60 : decode cX12_isOutlineThere 60 = .ok (.goto (-49), 3) := by decide +kernel
theorem dX12_isOutlineThere_63 : decode cX12_isOutlineThere 63 = .ok (.iload_n 1, 1) := by decide +kernel
theorem dX12_isOutlineThere_64 : decode cX12_isOutlineThere 64 = .ok (.ireturn, 1) := by decide +kernel
set_option maxRecDepth 20000 in
theorem ggX12_layLearned_X12_entryAt : GoodIn wsX12_layLearned wsX12_entryAt := goodIn_r _ [5] (by decide +kernel) (by decide +kernel)
set_option maxRecDepth 20000 in
theorem gX12_layLearned_X12_entryAt : GoodIn wsX12_layLearned (va_wsS RX12 39 yX12_entryAt wsX12_entryAt) := goodIn_app (goodIn_of _ (by decide +kernel)) ggX12_layLearned_X12_entryAt
set_option maxRecDepth 20000 in
theorem ggX12_layLearned_X12_strokesAhead : GoodIn wsX12_layLearned wsX12_strokesAhead := goodIn_r _ [9, 1, 10, 11, 4, 12, 16, 17, 18, 19, 20, 21, 22, 23, 24, 25, 26, 27, 28, 29] (by decide +kernel) (by decide +kernel)
set_option maxRecDepth 20000 in
theorem gX12_layLearned_X12_strokesAhead : GoodIn wsX12_layLearned (wsV RX12 105 RX12 yX12_strokesAhead wsX12_strokesAhead) := goodIn_app (goodIn_of _ (by decide +kernel)) ggX12_layLearned_X12_strokesAhead
set_option maxRecDepth 20000 in
theorem ggX12_layLearned_X12_itemAt : GoodIn wsX12_layLearned wsX12_itemAt := goodIn_r _ [12] (by decide +kernel) (by decide +kernel)
set_option maxRecDepth 20000 in
theorem gX12_layLearned_X12_itemAt : GoodIn wsX12_layLearned (va_wsS RX12 57 yX12_itemAt wsX12_itemAt) := goodIn_app (goodIn_of _ (by decide +kernel)) ggX12_layLearned_X12_itemAt
set_option maxRecDepth 20000 in
theorem ggX12_layLearned_X12_within : GoodIn wsX12_layLearned wsX12_within := goodIn_r _ [15] (by decide +kernel) (by decide +kernel)
set_option maxRecDepth 20000 in
theorem gX12_layLearned_X12_within : GoodIn wsX12_layLearned (va_wsS RX12 35 yX12_within wsX12_within) := goodIn_app (goodIn_of _ (by decide +kernel)) ggX12_layLearned_X12_within
theorem dX12_layLearned_0 : decode cX12_layLearned 0 = .ok (.aload_n 0, 1) := by decide +kernel
theorem dX12_layLearned_1 : decode cX12_layLearned 1 = .ok (.getfield 7, 3) := by decide +kernel
theorem dX12_layLearned_4 : decode cX12_layLearned 4 = .ok (.iconst 0, 1) := by decide +kernel
theorem dX12_layLearned_5 : decode cX12_layLearned 5 = .ok (.iaload, 1) := by decide +kernel
theorem dX12_layLearned_6 : decode cX12_layLearned 6 = .ok (.invokestatic 39, 3) := by decide +kernel
theorem dX12_layLearned_9 : decode cX12_layLearned 9 = .ok (.istore_n 3, 1) := by decide +kernel
theorem dX12_layLearned_10 : decode cX12_layLearned 10 = .ok (.aload_n 0, 1) := by decide +kernel
theorem dX12_layLearned_11 : decode cX12_layLearned 11 = .ok (.iload_n 1, 1) := by decide +kernel
theorem dX12_layLearned_12 : decode cX12_layLearned 12 = .ok (.invokevirtual 105, 3) := by decide +kernel
theorem dX12_layLearned_15 : decode cX12_layLearned 15 = .ok (.istore 4, 2) := by decide +kernel
theorem dX12_layLearned_17 : decode cX12_layLearned 17 = .ok (.aload_n 0, 1) := by decide +kernel
theorem dX12_layLearned_18 : decode cX12_layLearned 18 = .ok (.getfield 7, 3) := by decide +kernel
theorem dX12_layLearned_21 : decode cX12_layLearned 21 = .ok (.iload_n 3, 1) := by decide +kernel
theorem dX12_layLearned_22 : decode cX12_layLearned 22 = .ok (.aload_n 0, 1) := by decide +kernel
theorem dX12_layLearned_23 : decode cX12_layLearned 23 = .ok (.iload_n 2, 1) := by decide +kernel
theorem dX12_layLearned_24 : decode cX12_layLearned 24 = .ok (.iconst 1, 1) := by decide +kernel
theorem dX12_layLearned_25 : decode cX12_layLearned 25 = .ok (.iadd, 1) := by decide +kernel
theorem dX12_layLearned_26 : decode cX12_layLearned 26 = .ok (.invokevirtual 105, 3) := by decide +kernel
theorem dX12_layLearned_29 : decode cX12_layLearned 29 = .ok (.iload 4, 2) := by decide +kernel
theorem dX12_layLearned_31 : decode cX12_layLearned 31 = .ok (.isub, 1) := by decide +kernel
theorem dX12_layLearned_32 : decode cX12_layLearned 32 = .ok (.iastore, 1) := by decide +kernel
theorem dX12_layLearned_33 : decode cX12_layLearned 33 = .ok (.iconst 0, 1) := by decide +kernel
theorem dX12_layLearned_34 : decode cX12_layLearned 34 = .ok (.istore 5, 2) := by decide +kernel
theorem dX12_layLearned_36 : decode cX12_layLearned 36 = .ok (.iload 5, 2) := by decide +kernel
theorem dX12_layLearned_38 : decode cX12_layLearned 38 = .ok (.aload_n 0, 1) := by decide +kernel
theorem dX12_layLearned_39 : decode cX12_layLearned 39 = .ok (.getfield 7, 3) := by decide +kernel
theorem dX12_layLearned_42 : decode cX12_layLearned 42 = .ok (.iload_n 3, 1) := by decide +kernel
theorem dX12_layLearned_43 : decode cX12_layLearned 43 = .ok (.iaload, 1) := by decide +kernel
theorem dX12_layLearned_44 : decode cX12_layLearned 44 = .ok (.if_icmp .ge 34, 3) := by decide +kernel
theorem dX12_layLearned_47 : decode cX12_layLearned 47 = .ok (.aload_n 0, 1) := by decide +kernel
theorem dX12_layLearned_48 : decode cX12_layLearned 48 = .ok (.getfield 7, 3) := by decide +kernel
theorem dX12_layLearned_51 : decode cX12_layLearned 51 = .ok (.iload_n 3, 1) := by decide +kernel
theorem dX12_layLearned_52 : decode cX12_layLearned 52 = .ok (.iconst 1, 1) := by decide +kernel
theorem dX12_layLearned_53 : decode cX12_layLearned 53 = .ok (.iadd, 1) := by decide +kernel
theorem dX12_layLearned_54 : decode cX12_layLearned 54 = .ok (.iload 5, 2) := by decide +kernel
theorem dX12_layLearned_56 : decode cX12_layLearned 56 = .ok (.iadd, 1) := by decide +kernel
theorem dX12_layLearned_57 : decode cX12_layLearned 57 = .ok (.aload_n 0, 1) := by decide +kernel
theorem dX12_layLearned_58 : decode cX12_layLearned 58 = .ok (.getfield 7, 3) := by decide +kernel
theorem dX12_layLearned_61 : decode cX12_layLearned 61 = .ok (.sipush 338, 3) := by decide +kernel
theorem dX12_layLearned_64 : decode cX12_layLearned 64 = .ok (.iload 4, 2) := by decide +kernel
theorem dX12_layLearned_66 : decode cX12_layLearned 66 = .ok (.iadd, 1) := by decide +kernel
theorem dX12_layLearned_67 : decode cX12_layLearned 67 = .ok (.iload 5, 2) := by decide +kernel
theorem dX12_layLearned_69 : decode cX12_layLearned 69 = .ok (.iadd, 1) := by decide +kernel
theorem dX12_layLearned_70 : decode cX12_layLearned 70 = .ok (.iaload, 1) := by decide +kernel
theorem dX12_layLearned_71 : decode cX12_layLearned 71 = .ok (.iastore, 1) := by decide +kernel
theorem dX12_layLearned_72 : decode cX12_layLearned 72 = .ok (.iinc 5 1, 3) := by decide +kernel
theorem dX12_layLearned_75 : decode cX12_layLearned 75 = .ok (.goto (-39), 3) := by decide +kernel
theorem dX12_layLearned_78 : decode cX12_layLearned 78 = .ok (.aload_n 0, 1) := by decide +kernel
theorem dX12_layLearned_79 : decode cX12_layLearned 79 = .ok (.getfield 7, 3) := by decide +kernel
theorem dX12_layLearned_82 : decode cX12_layLearned 82 = .ok (.iload_n 3, 1) := by decide +kernel
theorem dX12_layLearned_83 : decode cX12_layLearned 83 = .ok (.iconst 5, 1) := by decide +kernel
theorem dX12_layLearned_84 : decode cX12_layLearned 84 = .ok (.iadd, 1) := by decide +kernel
theorem dX12_layLearned_85 : decode cX12_layLearned 85 = .ok (.iconst 0, 1) := by decide +kernel
theorem dX12_layLearned_86 : decode cX12_layLearned 86 = .ok (.iastore, 1) := by decide +kernel
theorem dX12_layLearned_87 : decode cX12_layLearned 87 = .ok (.iload_n 1, 1) := by decide +kernel
theorem dX12_layLearned_88 : decode cX12_layLearned 88 = .ok (.istore 5, 2) := by decide +kernel
theorem dX12_layLearned_90 : decode cX12_layLearned 90 = .ok (.iload 5, 2) := by decide +kernel
theorem dX12_layLearned_92 : decode cX12_layLearned 92 = .ok (.iload_n 2, 1) := by decide +kernel
theorem dX12_layLearned_93 : decode cX12_layLearned 93 = .ok (.if_icmp .gt 120, 3) := by decide +kernel
theorem dX12_layLearned_96 : decode cX12_layLearned 96 = .ok (.iconst 0, 1) := by decide +kernel
theorem dX12_layLearned_97 : decode cX12_layLearned 97 = .ok (.istore 6, 2) := by decide +kernel
theorem dX12_layLearned_99 : decode cX12_layLearned 99 = .ok (.iload 6, 2) := by decide +kernel
theorem dX12_layLearned_101 : decode cX12_layLearned 101 = .ok (.aload_n 0, 1) := by decide +kernel
theorem dX12_layLearned_102 : decode cX12_layLearned 102 = .ok (.getfield 7, 3) := by decide +kernel
theorem dX12_layLearned_105 : decode cX12_layLearned 105 = .ok (.iload 5, 2) := by decide +kernel
theorem dX12_layLearned_107 : decode cX12_layLearned 107 = .ok (.invokestatic 57, 3) := by decide +kernel
theorem dX12_layLearned_110 : decode cX12_layLearned 110 = .ok (.iconst 2, 1) := by decide +kernel
theorem dX12_layLearned_111 : decode cX12_layLearned 111 = .ok (.iadd, 1) := by decide +kernel
theorem dX12_layLearned_112 : decode cX12_layLearned 112 = .ok (.iaload, 1) := by decide +kernel
theorem dX12_layLearned_113 : decode cX12_layLearned 113 = .ok (.if_icmp .ge 94, 3) := by decide +kernel
theorem dX12_layLearned_116 : decode cX12_layLearned 116 = .ok (.aload_n 0, 1) := by decide +kernel
theorem dX12_layLearned_117 : decode cX12_layLearned 117 = .ok (.getfield 7, 3) := by decide +kernel
theorem dX12_layLearned_120 : decode cX12_layLearned 120 = .ok (.iload_n 3, 1) := by decide +kernel
theorem dX12_layLearned_121 : decode cX12_layLearned 121 = .ok (.iconst 5, 1) := by decide +kernel
theorem dX12_layLearned_122 : decode cX12_layLearned 122 = .ok (.iadd, 1) := by decide +kernel
theorem dX12_layLearned_123 : decode cX12_layLearned 123 = .ok (.iaload, 1) := by decide +kernel
theorem dX12_layLearned_124 : decode cX12_layLearned 124 = .ok (.bipush 8, 2) := by decide +kernel
theorem dX12_layLearned_126 : decode cX12_layLearned 126 = .ok (.if_icmp .ge 81, 3) := by decide +kernel
theorem dX12_layLearned_129 : decode cX12_layLearned 129 = .ok (.aload_n 0, 1) := by decide +kernel
theorem dX12_layLearned_130 : decode cX12_layLearned 130 = .ok (.getfield 7, 3) := by decide +kernel
theorem dX12_layLearned_133 : decode cX12_layLearned 133 = .ok (.iload 5, 2) := by decide +kernel
theorem dX12_layLearned_135 : decode cX12_layLearned 135 = .ok (.invokestatic 57, 3) := by decide +kernel
theorem dX12_layLearned_138 : decode cX12_layLearned 138 = .ok (.iconst 3, 1) := by decide +kernel
theorem dX12_layLearned_139 : decode cX12_layLearned 139 = .ok (.iadd, 1) := by decide +kernel
theorem dX12_layLearned_140 : decode cX12_layLearned 140 = .ok (.iload 6, 2) := by decide +kernel
theorem dX12_layLearned_142 : decode cX12_layLearned 142 = .ok (.iadd, 1) := by decide +kernel
theorem dX12_layLearned_143 : decode cX12_layLearned 143 = .ok (.iaload, 1) := by decide +kernel
theorem dX12_layLearned_144 : decode cX12_layLearned 144 = .ok (.istore 7, 2) := by decide +kernel
theorem dX12_layLearned_146 : decode cX12_layLearned 146 = .ok (.aload_n 0, 1) := by decide +kernel
theorem dX12_layLearned_147 : decode cX12_layLearned 147 = .ok (.getfield 7, 3) := by decide +kernel
theorem dX12_layLearned_150 : decode cX12_layLearned 150 = .ok (.iload_n 3, 1) := by decide +kernel
theorem dX12_layLearned_151 : decode cX12_layLearned 151 = .ok (.bipush 6, 2) := by decide +kernel
theorem dX12_layLearned_153 : decode cX12_layLearned 153 = .ok (.iadd, 1) := by decide +kernel
theorem dX12_layLearned_154 : decode cX12_layLearned 154 = .ok (.aload_n 0, 1) := by decide +kernel
theorem dX12_layLearned_155 : decode cX12_layLearned 155 = .ok (.getfield 7, 3) := by decide +kernel
theorem dX12_layLearned_158 : decode cX12_layLearned 158 = .ok (.iload_n 3, 1) := by decide +kernel
theorem dX12_layLearned_159 : decode cX12_layLearned 159 = .ok (.iconst 5, 1) := by decide +kernel
theorem dX12_layLearned_160 : decode cX12_layLearned 160 = .ok (.iadd, 1) := by decide +kernel
theorem dX12_layLearned_161 : decode cX12_layLearned 161 = .ok (.iaload, 1) := by decide +kernel
theorem dX12_layLearned_162 : decode cX12_layLearned 162 = .ok (.iadd, 1) := by decide +kernel
theorem dX12_layLearned_163 : decode cX12_layLearned 163 = .ok (.iload 7, 2) := by decide +kernel
theorem dX12_layLearned_165 : decode cX12_layLearned 165 = .ok (.bipush 65, 2) := by decide +kernel
theorem dX12_layLearned_167 : decode cX12_layLearned 167 = .ok (.bipush 90, 2) := by decide +kernel
theorem dX12_layLearned_169 : decode cX12_layLearned 169 = .ok (.invokestatic 35, 3) := by decide +kernel
theorem dX12_layLearned_172 : decode cX12_layLearned 172 = .ok (.ifCond .eq 14, 3) := by decide +kernel
theorem dX12_layLearned_175 : decode cX12_layLearned 175 = .ok (.iload 7, 2) := by decide +kernel
theorem dX12_layLearned_177 : decode cX12_layLearned 177 = .ok (.bipush 65, 2) := by decide +kernel
theorem dX12_layLearned_179 : decode cX12_layLearned 179 = .ok (.isub, 1) := by decide +kernel
theorem dX12_layLearned_180 : decode cX12_layLearned 180 = .ok (.bipush 97, 2) := by decide +kernel
theorem dX12_layLearned_182 : decode cX12_layLearned 182 = .ok (.iadd, 1) := by decide +kernel
theorem dX12_layLearned_183 : decode cX12_layLearned 183 = .ok (.goto 5, 3) := by decide +kernel
theorem dX12_layLearned_186 : decode cX12_layLearned 186 = .ok (.iload 7, 2) := by decide +kernel
theorem dX12_layLearned_188 : decode cX12_layLearned 188 = .ok (.iastore, 1) := by decide +kernel
theorem dX12_layLearned_189 : decode cX12_layLearned 189 = .ok (.aload_n 0, 1) := by decide +kernel
theorem dX12_layLearned_190 : decode cX12_layLearned 190 = .ok (.getfield 7, 3) := by decide +kernel
theorem dX12_layLearned_193 : decode cX12_layLearned 193 = .ok (.iload_n 3, 1) := by decide +kernel
theorem dX12_layLearned_194 : decode cX12_layLearned 194 = .ok (.iconst 5, 1) := by decide +kernel
theorem dX12_layLearned_195 : decode cX12_layLearned 195 = .ok (.iadd, 1) := by decide +kernel
theorem dX12_layLearned_196 : decode cX12_layLearned 196 = .ok (.dup2, 1) := by decide +kernel
theorem dX12_layLearned_197 : decode cX12_layLearned 197 = .ok (.iaload, 1) := by decide +kernel
theorem dX12_layLearned_198 : decode cX12_layLearned 198 = .ok (.iconst 1, 1) := by decide +kernel
theorem dX12_layLearned_199 : decode cX12_layLearned 199 = .ok (.iadd, 1) := by decide +kernel
theorem dX12_layLearned_200 : decode cX12_layLearned 200 = .ok (.iastore, 1) := by decide +kernel
theorem dX12_layLearned_201 : decode cX12_layLearned 201 = .ok (.iinc 6 1, 3) := by decide +kernel
theorem dX12_layLearned_204 : decode cX12_layLearned 204 = .ok (.goto (-105), 3) := by decide +kernel
theorem dX12_layLearned_207 : decode cX12_layLearned 207 = .ok (.iinc 5 1, 3) := by decide +kernel
theorem dX12_layLearned_210 : decode cX12_layLearned 210 = .ok (.goto (-120), 3) := by decide +kernel
theorem dX12_layLearned_213 : decode cX12_layLearned 213 = .ok (.return_, 1) := by decide +kernel
set_option maxRecDepth 20000 in
theorem ggX12_isLearned_X12_layLearned : GoodIn wsX12_isLearned wsX12_layLearned := goodIn_r _ [5, 6, 7, 8, 4, 9, 10, 11, 12, 13, 14, 15, 16, 17, 18, 19, 28, 29, 30, 31, 32, 33, 34, 35, 36, 37, 38, 39, 40, 41] (by decide +kernel) (by decide +kernel)
set_option maxRecDepth 20000 in
theorem gX12_isLearned_X12_layLearned : GoodIn wsX12_isLearned (wsV RX12 108 RX12 yX12_layLearned wsX12_layLearned) := goodIn_app (goodIn_of _ (by decide +kernel)) ggX12_isLearned_X12_layLearned
set_option maxRecDepth 20000 in
theorem ggX12_isLearned_X12_isOutlineThere : GoodIn wsX12_isLearned wsX12_isOutlineThere := goodIn_r _ [23, 6, 7, 8, 4, 9, 24, 25, 26, 27, 28, 29, 30, 31, 32, 33, 34, 35, 36, 37, 38, 39, 40, 41] (by decide +kernel) (by decide +kernel)
set_option maxRecDepth 20000 in
theorem gX12_isLearned_X12_isOutlineThere : GoodIn wsX12_isLearned (wsV RX12 111 RX12 yX12_isOutlineThere wsX12_isOutlineThere) := goodIn_app (goodIn_of _ (by decide +kernel)) ggX12_isLearned_X12_isOutlineThere
theorem dX12_isLearned_0 : decode cX12_isLearned 0 = .ok (.aload_n 0, 1) := by decide +kernel
theorem dX12_isLearned_1 : decode cX12_isLearned 1 = .ok (.iload_n 1, 1) := by decide +kernel
theorem dX12_isLearned_2 : decode cX12_isLearned 2 = .ok (.iload_n 2, 1) := by decide +kernel
theorem dX12_isLearned_3 : decode cX12_isLearned 3 = .ok (.invokevirtual 108, 3) := by decide +kernel
theorem dX12_isLearned_6 : decode cX12_isLearned 6 = .ok (.aload_n 0, 1) := by decide +kernel
theorem dX12_isLearned_7 : decode cX12_isLearned 7 = .ok (.invokevirtual 111, 3) := by decide +kernel
theorem dX12_isLearned_10 : decode cX12_isLearned 10 = .ok (.ireturn, 1) := by decide +kernel
set_option maxRecDepth 20000 in
theorem ggX12_learn_X12_isItem : GoodIn wsX12_learn wsX12_isItem := goodIn_r _ [7, 2, 8, 9, 6, 10, 72, 73, 74, 75, 76, 77, 78, 79, 80, 81, 82, 83, 84, 85] (by decide +kernel) (by decide +kernel)
set_option maxRecDepth 20000 in
theorem gX12_learn_X12_isItem : GoodIn wsX12_learn (wsV RX12 115 RX12 yX12_isItem wsX12_isItem) := goodIn_app (goodIn_of _ (by decide +kernel)) ggX12_learn_X12_isItem
set_option maxRecDepth 20000 in
theorem ggX12_learn_X12_strokesAhead : GoodIn wsX12_learn wsX12_strokesAhead := goodIn_r _ [14, 2, 15, 16, 6, 17, 72, 73, 74, 75, 76, 77, 78, 79, 80, 81, 82, 83, 84, 85] (by decide +kernel) (by decide +kernel)
set_option maxRecDepth 20000 in
theorem gX12_learn_X12_strokesAhead : GoodIn wsX12_learn (wsV RX12 105 RX12 yX12_strokesAhead wsX12_strokesAhead) := goodIn_app (goodIn_of _ (by decide +kernel)) ggX12_learn_X12_strokesAhead
set_option maxRecDepth 20000 in
theorem ggX12_learn_X12_isLearned : GoodIn wsX12_learn wsX12_isLearned := goodIn_r _ [21, 22, 23, 24, 6, 25, 2, 26, 27, 28, 11, 12, 13, 14, 15, 16, 17, 8, 9, 10, 29, 30, 31, 32, 33, 34, 35, 36, 72, 73, 74, 75, 76, 77, 78, 79, 80, 81, 82, 83, 84, 85] (by decide +kernel) (by decide +kernel)
set_option maxRecDepth 20000 in
theorem gX12_learn_X12_isLearned : GoodIn wsX12_learn (wsV RX12 118 RX12 yX12_isLearned wsX12_isLearned) := goodIn_app (goodIn_of _ (by decide +kernel)) ggX12_learn_X12_isLearned
set_option maxRecDepth 20000 in
theorem ggX12_learn_X12_save : GoodIn wsX12_learn wsX12_save := goodIn_r _ [40, 41, 42, 2, 72, 73, 74, 75, 76, 77, 78, 79, 80, 81, 82, 83, 84, 85] (by decide +kernel) (by decide +kernel)
set_option maxRecDepth 20000 in
theorem gX12_learn_X12_save : GoodIn wsX12_learn (wsV RX12 89 RX12 yX12_save wsX12_save) := goodIn_app (goodIn_of _ (by decide +kernel)) ggX12_learn_X12_save
set_option maxRecDepth 20000 in
theorem ggX12_learn_X12_layLearned : GoodIn wsX12_learn wsX12_layLearned := goodIn_r _ [25, 2, 26, 27, 6, 28, 11, 12, 13, 14, 15, 16, 17, 8, 9, 10, 72, 73, 74, 75, 76, 77, 78, 79, 80, 81, 82, 83, 84, 85] (by decide +kernel) (by decide +kernel)
set_option maxRecDepth 20000 in
theorem gX12_learn_X12_layLearned : GoodIn wsX12_learn (wsV RX12 108 RX12 yX12_layLearned wsX12_layLearned) := goodIn_app (goodIn_of _ (by decide +kernel)) ggX12_learn_X12_layLearned
set_option maxRecDepth 20000 in
theorem ggX12_learn_X12_translate : GoodIn wsX12_learn wsX12_translate := goodIn_r _ [46, 2, 47, 48, 49, 50, 51, 6, 52, 15, 16, 17, 53, 54, 55, 56, 26, 27, 28, 57, 58, 59, 60, 61, 62, 63, 64, 65, 66, 67, 68, 69, 70, 71, 72, 73, 74, 75, 76, 77, 78, 79, 80, 81, 82, 83, 84, 85] (by decide +kernel) (by decide +kernel)
set_option maxRecDepth 20000 in
theorem gX12_learn_X12_translate : GoodIn wsX12_learn (wsV RX12 83 RX12 yX12_translate wsX12_translate) := goodIn_app (goodIn_of _ (by decide +kernel)) ggX12_learn_X12_translate
theorem dX12_learn_0 : decode cX12_learn 0 = .ok (.aload_n 0, 1) := by decide +kernel
theorem dX12_learn_1 : decode cX12_learn 1 = .ok (.iload_n 1, 1) := by decide +kernel
theorem dX12_learn_2 : decode cX12_learn 2 = .ok (.invokevirtual 115, 3) := by decide +kernel
theorem dX12_learn_5 : decode cX12_learn 5 = .ok (.ifCond .eq 11, 3) := by decide +kernel
theorem dX12_learn_8 : decode cX12_learn 8 = .ok (.aload_n 0, 1) := by decide +kernel
theorem dX12_learn_9 : decode cX12_learn 9 = .ok (.iload_n 2, 1) := by decide +kernel
theorem dX12_learn_10 : decode cX12_learn 10 = .ok (.invokevirtual 115, 3) := by decide +kernel
theorem dX12_learn_13 : decode cX12_learn 13 = .ok (.ifCond .ne 10, 3) := by decide +kernel
theorem dX12_learn_16 : decode cX12_learn 16 = .ok (.aload_n 0, 1) := by decide +kernel
theorem dX12_learn_17 : decode cX12_learn 17 = .ok (.iconst 1, 1) := by decide +kernel
theorem dX12_learn_18 : decode cX12_learn 18 = .ok (.putfield 31, 3) := by decide +kernel
theorem dX12_learn_21 : decode cX12_learn 21 = .ok (.iconst 0, 1) := by decide +kernel
theorem dX12_learn_22 : decode cX12_learn 22 = .ok (.ireturn, 1) := by decide +kernel
theorem dX12_learn_23 : decode cX12_learn 23 = .ok (.iload_n 1, 1) := by decide +kernel
theorem dX12_learn_24 : decode cX12_learn 24 = .ok (.iload_n 2, 1) := by decide +kernel
theorem dX12_learn_25 : decode cX12_learn 25 = .ok (.if_icmp .gt 24, 3) := by decide +kernel
theorem dX12_learn_28 : decode cX12_learn 28 = .ok (.aload_n 0, 1) := by decide +kernel
theorem dX12_learn_29 : decode cX12_learn 29 = .ok (.iload_n 2, 1) := by decide +kernel
theorem dX12_learn_30 : decode cX12_learn 30 = .ok (.iconst 1, 1) := by decide +kernel
theorem dX12_learn_31 : decode cX12_learn 31 = .ok (.iadd, 1) := by decide +kernel
theorem dX12_learn_32 : decode cX12_learn 32 = .ok (.invokevirtual 105, 3) := by decide +kernel
theorem dX12_learn_35 : decode cX12_learn 35 = .ok (.aload_n 0, 1) := by decide +kernel
theorem dX12_learn_36 : decode cX12_learn 36 = .ok (.iload_n 1, 1) := by decide +kernel
theorem dX12_learn_37 : decode cX12_learn 37 = .ok (.invokevirtual 105, 3) := by decide +kernel
theorem dX12_learn_40 : decode cX12_learn 40 = .ok (.isub, 1) := by decide +kernel
theorem dX12_learn_41 : decode cX12_learn 41 = .ok (.iconst 4, 1) := by decide +kernel
theorem dX12_learn_42 : decode cX12_learn 42 = .ok (.if_icmp .gt 7, 3) := by decide +kernel
theorem dX12_learn_45 : decode cX12_learn 45 = .ok (.iconst 1, 1) := by decide +kernel
theorem dX12_learn_46 : decode cX12_learn 46 = .ok (.goto 4, 3) := by decide +kernel
theorem dX12_learn_49 : decode cX12_learn 49 = .ok (.iconst 0, 1) := by decide +kernel
theorem dX12_learn_50 : decode cX12_learn 50 = .ok (.istore_n 3, 1) := by decide +kernel
theorem dX12_learn_51 : decode cX12_learn 51 = .ok (.aload_n 0, 1) := by decide +kernel
theorem dX12_learn_52 : decode cX12_learn 52 = .ok (.iload_n 3, 1) := by decide +kernel
theorem dX12_learn_53 : decode cX12_learn 53 = .ok (.ifCond .ne 7, 3) := by decide +kernel
theorem dX12_learn_56 : decode cX12_learn 56 = .ok (.iconst 2, 1) := by decide +kernel
theorem dX12_learn_57 : decode cX12_learn 57 = .ok (.goto 28, 3) := by decide +kernel
theorem dX12_learn_60 : decode cX12_learn 60 = .ok (.aload_n 0, 1) := by decide +kernel
theorem dX12_learn_61 : decode cX12_learn 61 = .ok (.getfield 7, 3) := by decide +kernel
theorem dX12_learn_64 : decode cX12_learn 64 = .ok (.iconst 0, 1) := by decide +kernel
theorem dX12_learn_65 : decode cX12_learn 65 = .ok (.iaload, 1) := by decide +kernel
theorem dX12_learn_66 : decode cX12_learn 66 = .ok (.bipush 24, 2) := by decide +kernel
theorem dX12_learn_68 : decode cX12_learn 68 = .ok (.if_icmp .eq 12, 3) := by decide +kernel
theorem dX12_learn_71 : decode cX12_learn 71 = .ok (.aload_n 0, 1) := by decide +kernel
theorem dX12_learn_72 : decode cX12_learn 72 = .ok (.iload_n 1, 1) := by decide +kernel
theorem dX12_learn_73 : decode cX12_learn 73 = .ok (.iload_n 2, 1) := by decide +kernel
theorem dX12_learn_74 : decode cX12_learn 74 = .ok (.invokevirtual 118, 3) := by decide +kernel
theorem dX12_learn_77 : decode cX12_learn 77 = .ok (.ifCond .eq 7, 3) := by decide +kernel
theorem dX12_learn_80 : decode cX12_learn 80 = .ok (.iconst 3, 1) := by decide +kernel
theorem dX12_learn_81 : decode cX12_learn 81 = .ok (.goto 4, 3) := by decide +kernel
theorem dX12_learn_84 : decode cX12_learn 84 = .ok (.iconst 0, 1) := by decide +kernel
theorem dX12_learn_85 : decode cX12_learn 85 = .ok (.putfield 31, 3) := by decide +kernel
theorem dX12_learn_88 : decode cX12_learn 88 = .ok (.aload_n 0, 1) := by decide +kernel
theorem dX12_learn_89 : decode cX12_learn 89 = .ok (.getfield 31, 3) := by decide +kernel
theorem dX12_learn_92 : decode cX12_learn 92 = .ok (.ifCond .le 5, 3) := by decide +kernel
theorem dX12_learn_95 : decode cX12_learn 95 = .ok (.iconst 0, 1) := by decide +kernel
theorem dX12_learn_96 : decode cX12_learn 96 = .ok (.ireturn, 1) := by decide +kernel
theorem dX12_learn_97 : decode cX12_learn 97 = .ok (.aload_n 0, 1) := by decide +kernel
theorem dX12_learn_98 : decode cX12_learn 98 = .ok (.invokevirtual 89, 3) := by decide +kernel
theorem dX12_learn_101 : decode cX12_learn 101 = .ok (.aload_n 0, 1) := by decide +kernel
theorem dX12_learn_102 : decode cX12_learn 102 = .ok (.iload_n 1, 1) := by decide +kernel
theorem dX12_learn_103 : decode cX12_learn 103 = .ok (.iload_n 2, 1) := by decide +kernel
theorem dX12_learn_104 : decode cX12_learn 104 = .ok (.invokevirtual 108, 3) := by decide +kernel
theorem dX12_learn_107 : decode cX12_learn 107 = .ok (.aload_n 0, 1) := by decide +kernel
theorem dX12_learn_108 : decode cX12_learn 108 = .ok (.getfield 7, 3) := by decide +kernel
theorem dX12_learn_111 : decode cX12_learn 111 = .ok (.iconst 0, 1) := by decide +kernel
theorem dX12_learn_112 : decode cX12_learn 112 = .ok (.dup2, 1) := by decide +kernel
theorem dX12_learn_113 : decode cX12_learn 113 = .ok (.iaload, 1) := by decide +kernel
theorem dX12_learn_114 : decode cX12_learn 114 = .ok (.iconst 1, 1) := by decide +kernel
theorem dX12_learn_115 : decode cX12_learn 115 = .ok (.iadd, 1) := by decide +kernel
theorem dX12_learn_116 : decode cX12_learn 116 = .ok (.iastore, 1) := by decide +kernel
theorem dX12_learn_117 : decode cX12_learn 117 = .ok (.aload_n 0, 1) := by decide +kernel
theorem dX12_learn_118 : decode cX12_learn 118 = .ok (.invokevirtual 83, 3) := by decide +kernel
theorem dX12_learn_121 : decode cX12_learn 121 = .ok (.aload_n 0, 1) := by decide +kernel
theorem dX12_learn_122 : decode cX12_learn 122 = .ok (.getfield 7, 3) := by decide +kernel
theorem dX12_learn_125 : decode cX12_learn 125 = .ok (.iconst 0, 1) := by decide +kernel
theorem dX12_learn_126 : decode cX12_learn 126 = .ok (.iaload, 1) := by decide +kernel
theorem dX12_learn_127 : decode cX12_learn 127 = .ok (.iconst 1, 1) := by decide +kernel
theorem dX12_learn_128 : decode cX12_learn 128 = .ok (.isub, 1) := by decide +kernel
theorem dX12_learn_129 : decode cX12_learn 129 = .ok (.ireturn, 1) := by decide +kernel
set_option maxRecDepth 20000 in
theorem ggX12_append_X12_within : GoodIn wsX12_append wsX12_within := goodIn_r _ [7] (by decide +kernel) (by decide +kernel)
set_option maxRecDepth 20000 in
theorem gX12_append_X12_within : GoodIn wsX12_append (va_wsS RX12 35 yX12_within wsX12_within) := goodIn_app (goodIn_of _ (by decide +kernel)) ggX12_append_X12_within
theorem dX12_append_0 : decode cX12_append 0 = .ok (.aload_n 0, 1) := by decide +kernel
theorem dX12_append_1 : decode cX12_append 1 = .ok (.iload_n 1, 1) := by decide +kernel
theorem dX12_append_2 : decode cX12_append 2 = .ok (.bipush 33, 2) := by decide +kernel
theorem dX12_append_4 : decode cX12_append 4 = .ok (.bipush 126, 2) := by decide +kernel
theorem dX12_append_6 : decode cX12_append 6 = .ok (.invokestatic 35, 3) := by decide +kernel
theorem dX12_append_9 : decode cX12_append 9 = .ok (.ifCond .ne 7, 3) := by decide +kernel
theorem dX12_append_12 : decode cX12_append 12 = .ok (.iconst 1, 1) := by decide +kernel
theorem dX12_append_13 : decode cX12_append 13 = .ok (.goto 17, 3) := by decide +kernel
theorem dX12_append_16 : decode cX12_append 16 = .ok (.aload_n 0, 1) := by decide +kernel
theorem dX12_append_17 : decode cX12_append 17 = .ok (.getfield 121, 3) := by decide +kernel
theorem dX12_append_20 : decode cX12_append 20 = .ok (.bipush 60, 2) := by decide +kernel
theorem dX12_append_22 : decode cX12_append 22 = .ok (.if_icmp .ne 7, 3) := by decide +kernel
theorem dX12_append_25 : decode cX12_append 25 = .ok (.iconst 2, 1) := by decide +kernel
theorem dX12_append_26 : decode cX12_append 26 = .ok (.goto 4, 3) := by decide +kernel
theorem dX12_append_29 : decode cX12_append 29 = .ok (.iconst 0, 1) := by decide +kernel
theorem dX12_append_30 : decode cX12_append 30 = .ok (.putfield 31, 3) := by decide +kernel
theorem dX12_append_33 : decode cX12_append 33 = .ok (.aload_n 0, 1) := by decide +kernel
theorem dX12_append_34 : decode cX12_append 34 = .ok (.getfield 31, 3) := by decide +kernel
theorem dX12_append_37 : decode cX12_append 37 = .ok (.ifCond .le 5, 3) := by decide +kernel
theorem dX12_append_40 : decode cX12_append 40 = .ok (.iconst 0, 1) := by decide +kernel
theorem dX12_append_41 : decode cX12_append 41 = .ok (.ireturn, 1) := by decide +kernel
theorem dX12_append_42 : decode cX12_append 42 = .ok (.aload_n 0, 1) := by decide +kernel
theorem dX12_append_43 : decode cX12_append 43 = .ok (.getfield 16, 3) := by decide +kernel
theorem dX12_append_46 : decode cX12_append 46 = .ok (.aload_n 0, 1) := by decide +kernel
theorem dX12_append_47 : decode cX12_append 47 = .ok (.getfield 121, 3) := by decide +kernel
theorem dX12_append_50 : decode cX12_append 50 = .ok (.iload_n 1, 1) := by decide +kernel
theorem dX12_append_51 : decode cX12_append 51 = .ok (.iastore, 1) := by decide +kernel
theorem dX12_append_52 : decode cX12_append 52 = .ok (.aload_n 0, 1) := by decide +kernel
theorem dX12_append_53 : decode cX12_append 53 = .ok (.dup, 1) := by decide +kernel
theorem dX12_append_54 : decode cX12_append 54 = .ok (.getfield 121, 3) := by decide +kernel
theorem dX12_append_57 : decode cX12_append 57 = .ok (.iconst 1, 1) := by decide +kernel
theorem dX12_append_58 : decode cX12_append 58 = .ok (.iadd, 1) := by decide +kernel
theorem dX12_append_59 : decode cX12_append 59 = .ok (.putfield 121, 3) := by decide +kernel
theorem dX12_append_62 : decode cX12_append 62 = .ok (.aload_n 0, 1) := by decide +kernel
theorem dX12_append_63 : decode cX12_append 63 = .ok (.getfield 121, 3) := by decide +kernel
theorem dX12_append_66 : decode cX12_append 66 = .ok (.ireturn, 1) := by decide +kernel
theorem dX12_clearBuffer_0 : decode cX12_clearBuffer 0 = .ok (.aload_n 0, 1) := by decide +kernel
theorem dX12_clearBuffer_1 : decode cX12_clearBuffer 1 = .ok (.iconst 0, 1) := by decide +kernel
theorem dX12_clearBuffer_2 : decode cX12_clearBuffer 2 = .ok (.putfield 31, 3) := by decide +kernel
theorem dX12_clearBuffer_5 : decode cX12_clearBuffer 5 = .ok (.aload_n 0, 1) := by decide +kernel
theorem dX12_clearBuffer_6 : decode cX12_clearBuffer 6 = .ok (.getfield 121, 3) := by decide +kernel
theorem dX12_clearBuffer_9 : decode cX12_clearBuffer 9 = .ok (.istore_n 1, 1) := by decide +kernel
theorem dX12_clearBuffer_10 : decode cX12_clearBuffer 10 = .ok (.aload_n 0, 1) := by decide +kernel
theorem dX12_clearBuffer_11 : decode cX12_clearBuffer 11 = .ok (.iconst 0, 1) := by decide +kernel
theorem dX12_clearBuffer_12 : decode cX12_clearBuffer 12 = .ok (.putfield 121, 3) := by decide +kernel
theorem dX12_clearBuffer_15 : decode cX12_clearBuffer 15 = .ok (.iload_n 1, 1) := by decide +kernel
theorem dX12_clearBuffer_16 : decode cX12_clearBuffer 16 = .ok (.ireturn, 1) := by decide +kernel
theorem dX12_beginEntry_0 : decode cX12_beginEntry 0 = .ok (.aload_n 0, 1) := by decide +kernel
theorem dX12_beginEntry_1 : decode cX12_beginEntry 1 = .ok (.iconst 0, 1) := by decide +kernel
theorem dX12_beginEntry_2 : decode cX12_beginEntry 2 = .ok (.putfield 124, 3) := by decide +kernel
theorem dX12_beginEntry_5 : decode cX12_beginEntry 5 = .ok (.iconst 0, 1) := by decide +kernel
theorem dX12_beginEntry_6 : decode cX12_beginEntry 6 = .ok (.istore_n 1, 1) := by decide +kernel
theorem dX12_beginEntry_7 : decode cX12_beginEntry 7 = .ok (.iload_n 1, 1) := by decide +kernel
theorem dX12_beginEntry_8 : decode cX12_beginEntry 8 = .ok (.bipush 14, 2) := by decide +kernel
theorem dX12_beginEntry_10 : decode cX12_beginEntry 10 = .ok (.if_icmp .ge 24, 3) := by decide +kernel
theorem dX12_beginEntry_13 : decode cX12_beginEntry 13 = .ok (.aload_n 0, 1) := by decide +kernel
theorem dX12_beginEntry_14 : decode cX12_beginEntry 14 = .ok (.getfield 25, 3) := by decide +kernel
theorem dX12_beginEntry_17 : decode cX12_beginEntry 17 = .ok (.bipush 14, 2) := by decide +kernel
theorem dX12_beginEntry_19 : decode cX12_beginEntry 19 = .ok (.aload_n 0, 1) := by decide +kernel
theorem dX12_beginEntry_20 : decode cX12_beginEntry 20 = .ok (.getfield 128, 3) := by decide +kernel
theorem dX12_beginEntry_23 : decode cX12_beginEntry 23 = .ok (.imul, 1) := by decide +kernel
theorem dX12_beginEntry_24 : decode cX12_beginEntry 24 = .ok (.iload_n 1, 1) := by decide +kernel
theorem dX12_beginEntry_25 : decode cX12_beginEntry 25 = .ok (.iadd, 1) := by decide +kernel
theorem dX12_beginEntry_26 : decode cX12_beginEntry 26 = .ok (.iconst 0, 1) := by decide +kernel
theorem dX12_beginEntry_27 : decode cX12_beginEntry 27 = .ok (.iastore, 1) := by decide +kernel
theorem dX12_beginEntry_28 : decode cX12_beginEntry 28 = .ok (.iinc 1 1, 3) := by decide +kernel
theorem dX12_beginEntry_31 : decode cX12_beginEntry 31 = .ok (.goto (-24), 3) := by decide +kernel
theorem dX12_beginEntry_34 : decode cX12_beginEntry 34 = .ok (.return_, 1) := by decide +kernel
set_option maxRecDepth 20000 in
theorem ggX12_keyOf_X12_keyLetter : GoodIn wsX12_keyOf wsX12_keyLetter := goodIn_r _ [4] (by decide +kernel) (by decide +kernel)
set_option maxRecDepth 20000 in
theorem gX12_keyOf_X12_keyLetter : GoodIn wsX12_keyOf (va_wsS RX12 64 yX12_keyLetter wsX12_keyLetter) := goodIn_app (goodIn_of _ (by decide +kernel)) ggX12_keyOf_X12_keyLetter
theorem dX12_keyOf_0 : decode cX12_keyOf 0 = .ok (.iconst (-1), 1) := by decide +kernel
theorem dX12_keyOf_1 : decode cX12_keyOf 1 = .ok (.istore_n 1, 1) := by decide +kernel
theorem dX12_keyOf_2 : decode cX12_keyOf 2 = .ok (.iconst 0, 1) := by decide +kernel
theorem dX12_keyOf_3 : decode cX12_keyOf 3 = .ok (.istore_n 2, 1) := by decide +kernel
theorem dX12_keyOf_4 : decode cX12_keyOf 4 = .ok (.iload_n 2, 1) := by decide +kernel
theorem dX12_keyOf_5 : decode cX12_keyOf 5 = .ok (.bipush 12, 2) := by decide +kernel
theorem dX12_keyOf_7 : decode cX12_keyOf 7 = .ok (.if_icmp .ge 23, 3) := by decide +kernel
theorem dX12_keyOf_10 : decode cX12_keyOf 10 = .ok (.iload_n 2, 1) := by decide +kernel
theorem dX12_keyOf_11 : decode cX12_keyOf 11 = .ok (.invokestatic 64, 3) := by decide +kernel
theorem dX12_keyOf_14 : decode cX12_keyOf 14 = .ok (.iload_n 0, 1) := by decide +kernel
theorem dX12_keyOf_15 : decode cX12_keyOf 15 = .ok (.if_icmp .ne 7, 3) := by decide +kernel
theorem dX12_keyOf_18 : decode cX12_keyOf 18 = .ok (.iload_n 2, 1) := by decide +kernel
theorem dX12_keyOf_19 : decode cX12_keyOf 19 = .ok (.goto 4, 3) := by decide +kernel
theorem dX12_keyOf_22 : decode cX12_keyOf 22 = .ok (.iload_n 1, 1) := by decide +kernel
theorem dX12_keyOf_23 : decode cX12_keyOf 23 = .ok (.istore_n 1, 1) := by decide +kernel
theorem dX12_keyOf_24 : decode cX12_keyOf 24 = .ok (.iinc 2 1, 3) := by decide +kernel
theorem dX12_keyOf_27 : decode cX12_keyOf 27 = .ok (.goto (-23), 3) := by decide +kernel
theorem dX12_keyOf_30 : decode cX12_keyOf 30 = .ok (.iload_n 1, 1) := by decide +kernel
theorem dX12_keyOf_31 : decode cX12_keyOf 31 = .ok (.ireturn, 1) := by decide +kernel
set_option maxRecDepth 20000 in
theorem ggX12_takesOutline_X12_keyOf : GoodIn wsX12_takesOutline wsX12_keyOf := goodIn_r _ [7, 8, 9, 6, 10] (by decide +kernel) (by decide +kernel)
set_option maxRecDepth 20000 in
theorem gX12_takesOutline_X12_keyOf : GoodIn wsX12_takesOutline (va_wsS RX12 131 yX12_keyOf wsX12_keyOf) := goodIn_app (goodIn_of _ (by decide +kernel)) ggX12_takesOutline_X12_keyOf
theorem dX12_takesOutline_0 : decode cX12_takesOutline 0 = .ok (.bipush 14, 2) := by decide +kernel
theorem dX12_takesOutline_2 : decode cX12_takesOutline 2 = .ok (.aload_n 0, 1) := by decide +kernel
theorem dX12_takesOutline_3 : decode cX12_takesOutline 3 = .ok (.getfield 128, 3) := by decide +kernel
theorem dX12_takesOutline_6 : decode cX12_takesOutline 6 = .ok (.imul, 1) := by decide +kernel
theorem dX12_takesOutline_7 : decode cX12_takesOutline 7 = .ok (.istore_n 2, 1) := by decide +kernel
theorem dX12_takesOutline_8 : decode cX12_takesOutline 8 = .ok (.iload_n 2, 1) := by decide +kernel
theorem dX12_takesOutline_9 : decode cX12_takesOutline 9 = .ok (.iconst 1, 1) := by decide +kernel
theorem dX12_takesOutline_10 : decode cX12_takesOutline 10 = .ok (.iadd, 1) := by decide +kernel
theorem dX12_takesOutline_11 : decode cX12_takesOutline 11 = .ok (.aload_n 0, 1) := by decide +kernel
theorem dX12_takesOutline_12 : decode cX12_takesOutline 12 = .ok (.getfield 25, 3) := by decide +kernel
theorem dX12_takesOutline_15 : decode cX12_takesOutline 15 = .ok (.iload_n 2, 1) := by decide +kernel
theorem dX12_takesOutline_16 : decode cX12_takesOutline 16 = .ok (.iaload, 1) := by decide +kernel
theorem dX12_takesOutline_17 : decode cX12_takesOutline 17 = .ok (.iadd, 1) := by decide +kernel
theorem dX12_takesOutline_18 : decode cX12_takesOutline 18 = .ok (.istore_n 3, 1) := by decide +kernel
theorem dX12_takesOutline_19 : decode cX12_takesOutline 19 = .ok (.iload_n 1, 1) := by decide +kernel
theorem dX12_takesOutline_20 : decode cX12_takesOutline 20 = .ok (.invokestatic 131, 3) := by decide +kernel
theorem dX12_takesOutline_23 : decode cX12_takesOutline 23 = .ok (.istore 4, 2) := by decide +kernel
theorem dX12_takesOutline_25 : decode cX12_takesOutline 25 = .ok (.iload 4, 2) := by decide +kernel
theorem dX12_takesOutline_27 : decode cX12_takesOutline 27 = .ok (.iconst (-1), 1) := by decide +kernel
theorem dX12_takesOutline_28 : decode cX12_takesOutline 28 = .ok (.if_icmp .eq 30, 3) := by decide +kernel
theorem dX12_takesOutline_31 : decode cX12_takesOutline 31 = .ok (.aload_n 0, 1) := by decide +kernel
theorem dX12_takesOutline_32 : decode cX12_takesOutline 32 = .ok (.getfield 25, 3) := by decide +kernel
theorem dX12_takesOutline_35 : decode cX12_takesOutline 35 = .ok (.iload_n 3, 1) := by decide +kernel
theorem dX12_takesOutline_36 : decode cX12_takesOutline 36 = .ok (.iaload, 1) := by decide +kernel
theorem dX12_takesOutline_37 : decode cX12_takesOutline 37 = .ok (.iload 4, 2) := by decide +kernel
theorem dX12_takesOutline_39 : decode cX12_takesOutline 39 = .ok (.ishr, 1) := by decide +kernel
theorem dX12_takesOutline_40 : decode cX12_takesOutline 40 = .ok (.ifCond .ne 18, 3) := by decide +kernel
theorem dX12_takesOutline_43 : decode cX12_takesOutline 43 = .ok (.aload_n 0, 1) := by decide +kernel
theorem dX12_takesOutline_44 : decode cX12_takesOutline 44 = .ok (.getfield 25, 3) := by decide +kernel
theorem dX12_takesOutline_47 : decode cX12_takesOutline 47 = .ok (.iload_n 3, 1) := by decide +kernel
theorem dX12_takesOutline_48 : decode cX12_takesOutline 48 = .ok (.dup2, 1) := by decide +kernel
theorem dX12_takesOutline_49 : decode cX12_takesOutline 49 = .ok (.iaload, 1) := by decide +kernel
theorem dX12_takesOutline_50 : decode cX12_takesOutline 50 = .ok (.iconst 1, 1) := by decide +kernel
theorem dX12_takesOutline_51 : decode cX12_takesOutline 51 = .ok (.iload 4, 2) := by decide +kernel
theorem dX12_takesOutline_53 : decode cX12_takesOutline 53 = .ok (.ishl, 1) := by decide +kernel
theorem dX12_takesOutline_54 : decode cX12_takesOutline 54 = .ok (.ior, 1) := by decide +kernel
theorem dX12_takesOutline_55 : decode cX12_takesOutline 55 = .ok (.iastore, 1) := by decide +kernel
theorem dX12_takesOutline_56 : decode cX12_takesOutline 56 = .ok (.iconst 1, 1) := by decide +kernel
theorem dX12_takesOutline_57 : decode cX12_takesOutline 57 = .ok (.ireturn, 1) := by decide +kernel
theorem dX12_takesOutline_58 : decode cX12_takesOutline 58 = .ok (.aload_n 0, 1) := by decide +kernel
theorem dX12_takesOutline_59 : decode cX12_takesOutline 59 = .ok (.getfield 25, 3) := by decide +kernel
theorem dX12_takesOutline_62 : decode cX12_takesOutline 62 = .ok (.iload_n 3, 1) := by decide +kernel
theorem dX12_takesOutline_63 : decode cX12_takesOutline 63 = .ok (.iaload, 1) := by decide +kernel
theorem dX12_takesOutline_64 : decode cX12_takesOutline 64 = .ok (.ifCond .le 29, 3) := by decide +kernel
theorem dX12_takesOutline_67 : decode cX12_takesOutline 67 = .ok (.iload_n 1, 1) := by decide +kernel
theorem dX12_takesOutline_68 : decode cX12_takesOutline 68 = .ok (.bipush 61, 2) := by decide +kernel
theorem dX12_takesOutline_70 : decode cX12_takesOutline 70 = .ok (.if_icmp .eq 19, 3) := by decide +kernel
theorem dX12_takesOutline_73 : decode cX12_takesOutline 73 = .ok (.iload_n 1, 1) := by decide +kernel
theorem dX12_takesOutline_74 : decode cX12_takesOutline 74 = .ok (.bipush 47, 2) := by decide +kernel
theorem dX12_takesOutline_76 : decode cX12_takesOutline 76 = .ok (.if_icmp .ne 17, 3) := by decide +kernel
theorem dX12_takesOutline_79 : decode cX12_takesOutline 79 = .ok (.aload_n 0, 1) := by decide +kernel
theorem dX12_takesOutline_80 : decode cX12_takesOutline 80 = .ok (.getfield 25, 3) := by decide +kernel
theorem dX12_takesOutline_83 : decode cX12_takesOutline 83 = .ok (.iload_n 2, 1) := by decide +kernel
theorem dX12_takesOutline_84 : decode cX12_takesOutline 84 = .ok (.iaload, 1) := by decide +kernel
theorem dX12_takesOutline_85 : decode cX12_takesOutline 85 = .ok (.iconst 3, 1) := by decide +kernel
theorem dX12_takesOutline_86 : decode cX12_takesOutline 86 = .ok (.if_icmp .ge 7, 3) := by decide +kernel
theorem dX12_takesOutline_89 : decode cX12_takesOutline 89 = .ok (.iconst 1, 1) := by decide +kernel
theorem dX12_takesOutline_90 : decode cX12_takesOutline 90 = .ok (.goto 4, 3) := by decide +kernel
theorem dX12_takesOutline_93 : decode cX12_takesOutline 93 = .ok (.iconst 0, 1) := by decide +kernel
theorem dX12_takesOutline_94 : decode cX12_takesOutline 94 = .ok (.istore 5, 2) := by decide +kernel
theorem dX12_takesOutline_96 : decode cX12_takesOutline 96 = .ok (.aload_n 0, 1) := by decide +kernel
theorem dX12_takesOutline_97 : decode cX12_takesOutline 97 = .ok (.getfield 25, 3) := by decide +kernel
theorem dX12_takesOutline_100 : decode cX12_takesOutline 100 = .ok (.iload_n 2, 1) := by decide +kernel
theorem dX12_takesOutline_101 : decode cX12_takesOutline 101 = .ok (.dup2, 1) := by decide +kernel
theorem dX12_takesOutline_102 : decode cX12_takesOutline 102 = .ok (.iaload, 1) := by decide +kernel
theorem dX12_takesOutline_103 : decode cX12_takesOutline 103 = .ok (.iload 5, 2) := by decide +kernel
theorem dX12_takesOutline_105 : decode cX12_takesOutline 105 = .ok (.ifCond .eq 7, 3) := by decide +kernel
theorem dX12_takesOutline_108 : decode cX12_takesOutline 108 = .ok (.iconst 1, 1) := by decide +kernel
theorem dX12_takesOutline_109 : decode cX12_takesOutline 109 = .ok (.goto 4, 3) := by decide +kernel
theorem dX12_takesOutline_112 : decode cX12_takesOutline 112 = .ok (.iconst 0, 1) := by decide +kernel
theorem dX12_takesOutline_113 : decode cX12_takesOutline 113 = .ok (.iadd, 1) := by decide +kernel
theorem dX12_takesOutline_114 : decode cX12_takesOutline 114 = .ok (.iastore, 1) := by decide +kernel
theorem dX12_takesOutline_115 : decode cX12_takesOutline 115 = .ok (.aload_n 0, 1) := by decide +kernel
theorem dX12_takesOutline_116 : decode cX12_takesOutline 116 = .ok (.iload 5, 2) := by decide +kernel
theorem dX12_takesOutline_118 : decode cX12_takesOutline 118 = .ok (.ifCond .eq 13, 3) := by decide +kernel
theorem dX12_takesOutline_121 : decode cX12_takesOutline 121 = .ok (.iload_n 1, 1) := by decide +kernel
theorem dX12_takesOutline_122 : decode cX12_takesOutline 122 = .ok (.bipush 61, 2) := by decide +kernel
theorem dX12_takesOutline_124 : decode cX12_takesOutline 124 = .ok (.if_icmp .ne 7, 3) := by decide +kernel
theorem dX12_takesOutline_127 : decode cX12_takesOutline 127 = .ok (.iconst 1, 1) := by decide +kernel
theorem dX12_takesOutline_128 : decode cX12_takesOutline 128 = .ok (.goto 4, 3) := by decide +kernel
theorem dX12_takesOutline_131 : decode cX12_takesOutline 131 = .ok (.iconst 0, 1) := by decide +kernel
theorem dX12_takesOutline_132 : decode cX12_takesOutline 132 = .ok (.putfield 124, 3) := by decide +kernel
theorem dX12_takesOutline_135 : decode cX12_takesOutline 135 = .ok (.iload 5, 2) := by decide +kernel
theorem dX12_takesOutline_137 : decode cX12_takesOutline 137 = .ok (.ireturn, 1) := by decide +kernel
set_option maxRecDepth 20000 in
theorem ggX12_takesWord_X12_beginEntry : GoodIn wsX12_takesWord wsX12_beginEntry := goodIn_r _ [7, 8, 2, 1, 12, 13, 14, 15, 16, 17, 18, 19, 20, 21, 22, 23, 24, 25] (by decide +kernel) (by decide +kernel)
set_option maxRecDepth 20000 in
theorem gX12_takesWord_X12_beginEntry : GoodIn wsX12_takesWord (wsV RX12 134 RX12 yX12_beginEntry wsX12_beginEntry) := goodIn_app (goodIn_of _ (by decide +kernel)) ggX12_takesWord_X12_beginEntry
set_option maxRecDepth 20000 in
theorem ggX12_takesWord_X12_within : GoodIn wsX12_takesWord wsX12_within := goodIn_r _ [11] (by decide +kernel) (by decide +kernel)
set_option maxRecDepth 20000 in
theorem gX12_takesWord_X12_within : GoodIn wsX12_takesWord (va_wsS RX12 35 yX12_within wsX12_within) := goodIn_app (goodIn_of _ (by decide +kernel)) ggX12_takesWord_X12_within
theorem dX12_takesWord_0 : decode cX12_takesWord 0 = .ok (.bipush 14, 2) := by decide +kernel
theorem dX12_takesWord_2 : decode cX12_takesWord 2 = .ok (.aload_n 0, 1) := by decide +kernel
theorem dX12_takesWord_3 : decode cX12_takesWord 3 = .ok (.getfield 128, 3) := by decide +kernel
theorem dX12_takesWord_6 : decode cX12_takesWord 6 = .ok (.imul, 1) := by decide +kernel
theorem dX12_takesWord_7 : decode cX12_takesWord 7 = .ok (.istore_n 2, 1) := by decide +kernel
theorem dX12_takesWord_8 : decode cX12_takesWord 8 = .ok (.iload_n 1, 1) := by decide +kernel
theorem dX12_takesWord_9 : decode cX12_takesWord 9 = .ok (.bipush 59, 2) := by decide +kernel
theorem dX12_takesWord_11 : decode cX12_takesWord 11 = .ok (.if_icmp .ne 30, 3) := by decide +kernel
theorem dX12_takesWord_14 : decode cX12_takesWord 14 = .ok (.aload_n 0, 1) := by decide +kernel
theorem dX12_takesWord_15 : decode cX12_takesWord 15 = .ok (.getfield 25, 3) := by decide +kernel
theorem dX12_takesWord_18 : decode cX12_takesWord 18 = .ok (.iload_n 2, 1) := by decide +kernel
theorem dX12_takesWord_19 : decode cX12_takesWord 19 = .ok (.iconst 5, 1) := by decide +kernel
theorem dX12_takesWord_20 : decode cX12_takesWord 20 = .ok (.iadd, 1) := by decide +kernel
theorem dX12_takesWord_21 : decode cX12_takesWord 21 = .ok (.iaload, 1) := by decide +kernel
theorem dX12_takesWord_22 : decode cX12_takesWord 22 = .ok (.ifCond .le 19, 3) := by decide +kernel
theorem dX12_takesWord_25 : decode cX12_takesWord 25 = .ok (.aload_n 0, 1) := by decide +kernel
theorem dX12_takesWord_26 : decode cX12_takesWord 26 = .ok (.dup, 1) := by decide +kernel
theorem dX12_takesWord_27 : decode cX12_takesWord 27 = .ok (.getfield 128, 3) := by decide +kernel
theorem dX12_takesWord_30 : decode cX12_takesWord 30 = .ok (.iconst 1, 1) := by decide +kernel
theorem dX12_takesWord_31 : decode cX12_takesWord 31 = .ok (.iadd, 1) := by decide +kernel
theorem dX12_takesWord_32 : decode cX12_takesWord 32 = .ok (.putfield 128, 3) := by decide +kernel
theorem dX12_takesWord_35 : decode cX12_takesWord 35 = .ok (.aload_n 0, 1) := by decide +kernel
theorem dX12_takesWord_36 : decode cX12_takesWord 36 = .ok (.invokevirtual 134, 3) := by decide +kernel
theorem dX12_takesWord_39 : decode cX12_takesWord 39 = .ok (.iconst 1, 1) := by decide +kernel
theorem dX12_takesWord_40 : decode cX12_takesWord 40 = .ok (.ireturn, 1) := by decide +kernel
theorem dX12_takesWord_41 : decode cX12_takesWord 41 = .ok (.iload_n 1, 1) := by decide +kernel
theorem dX12_takesWord_42 : decode cX12_takesWord 42 = .ok (.bipush 97, 2) := by decide +kernel
theorem dX12_takesWord_44 : decode cX12_takesWord 44 = .ok (.bipush 122, 2) := by decide +kernel
theorem dX12_takesWord_46 : decode cX12_takesWord 46 = .ok (.invokestatic 35, 3) := by decide +kernel
theorem dX12_takesWord_49 : decode cX12_takesWord 49 = .ok (.ifCond .eq 20, 3) := by decide +kernel
theorem dX12_takesWord_52 : decode cX12_takesWord 52 = .ok (.aload_n 0, 1) := by decide +kernel
theorem dX12_takesWord_53 : decode cX12_takesWord 53 = .ok (.getfield 25, 3) := by decide +kernel
theorem dX12_takesWord_56 : decode cX12_takesWord 56 = .ok (.iload_n 2, 1) := by decide +kernel
theorem dX12_takesWord_57 : decode cX12_takesWord 57 = .ok (.iconst 5, 1) := by decide +kernel
theorem dX12_takesWord_58 : decode cX12_takesWord 58 = .ok (.iadd, 1) := by decide +kernel
theorem dX12_takesWord_59 : decode cX12_takesWord 59 = .ok (.iaload, 1) := by decide +kernel
theorem dX12_takesWord_60 : decode cX12_takesWord 60 = .ok (.bipush 8, 2) := by decide +kernel
theorem dX12_takesWord_62 : decode cX12_takesWord 62 = .ok (.if_icmp .ge 7, 3) := by decide +kernel
theorem dX12_takesWord_65 : decode cX12_takesWord 65 = .ok (.iconst 1, 1) := by decide +kernel
theorem dX12_takesWord_66 : decode cX12_takesWord 66 = .ok (.goto 4, 3) := by decide +kernel
theorem dX12_takesWord_69 : decode cX12_takesWord 69 = .ok (.iconst 0, 1) := by decide +kernel
theorem dX12_takesWord_70 : decode cX12_takesWord 70 = .ok (.istore_n 3, 1) := by decide +kernel
theorem dX12_takesWord_71 : decode cX12_takesWord 71 = .ok (.iload_n 3, 1) := by decide +kernel
theorem dX12_takesWord_72 : decode cX12_takesWord 72 = .ok (.ifCond .eq 34, 3) := by decide +kernel
theorem dX12_takesWord_75 : decode cX12_takesWord 75 = .ok (.aload_n 0, 1) := by decide +kernel
theorem dX12_takesWord_76 : decode cX12_takesWord 76 = .ok (.getfield 25, 3) := by decide +kernel
theorem dX12_takesWord_79 : decode cX12_takesWord 79 = .ok (.iload_n 2, 1) := by decide +kernel
theorem dX12_takesWord_80 : decode cX12_takesWord 80 = .ok (.bipush 6, 2) := by decide +kernel
theorem dX12_takesWord_82 : decode cX12_takesWord 82 = .ok (.iadd, 1) := by decide +kernel
theorem dX12_takesWord_83 : decode cX12_takesWord 83 = .ok (.aload_n 0, 1) := by decide +kernel
theorem dX12_takesWord_84 : decode cX12_takesWord 84 = .ok (.getfield 25, 3) := by decide +kernel
theorem dX12_takesWord_87 : decode cX12_takesWord 87 = .ok (.iload_n 2, 1) := by decide +kernel
theorem dX12_takesWord_88 : decode cX12_takesWord 88 = .ok (.iconst 5, 1) := by decide +kernel
theorem dX12_takesWord_89 : decode cX12_takesWord 89 = .ok (.iadd, 1) := by decide +kernel
theorem dX12_takesWord_90 : decode cX12_takesWord 90 = .ok (.iaload, 1) := by decide +kernel
theorem dX12_takesWord_91 : decode cX12_takesWord 91 = .ok (.iadd, 1) := by decide +kernel
theorem dX12_takesWord_92 : decode cX12_takesWord 92 = .ok (.iload_n 1, 1) := by decide +kernel
theorem dX12_takesWord_93 : decode cX12_takesWord 93 = .ok (.iastore, 1) := by decide +kernel
theorem dX12_takesWord_94 : decode cX12_takesWord 94 = .ok (.aload_n 0, 1) := by decide +kernel
theorem dX12_takesWord_95 : decode cX12_takesWord 95 = .ok (.getfield 25, 3) := by decide +kernel
theorem dX12_takesWord_98 : decode cX12_takesWord 98 = .ok (.iload_n 2, 1) := by decide +kernel
theorem dX12_takesWord_99 : decode cX12_takesWord 99 = .ok (.iconst 5, 1) := by decide +kernel
theorem dX12_takesWord_100 : decode cX12_takesWord 100 = .ok (.iadd, 1) := by decide +kernel
theorem dX12_takesWord_101 : decode cX12_takesWord 101 = .ok (.dup2, 1) := by decide +kernel
theorem dX12_takesWord_102 : decode cX12_takesWord 102 = .ok (.iaload, 1) := by decide +kernel
theorem dX12_takesWord_103 : decode cX12_takesWord 103 = .ok (.iconst 1, 1) := by decide +kernel
theorem dX12_takesWord_104 : decode cX12_takesWord 104 = .ok (.iadd, 1) := by decide +kernel
theorem dX12_takesWord_105 : decode cX12_takesWord 105 = .ok (.iastore, 1) := by decide +kernel
theorem dX12_takesWord_106 : decode cX12_takesWord 106 = .ok (.iload_n 3, 1) := by decide +kernel
theorem dX12_takesWord_107 : decode cX12_takesWord 107 = .ok (.ireturn, 1) := by decide +kernel
set_option maxRecDepth 20000 in
theorem ggX12_readText_X12_beginEntry : GoodIn wsX12_readText wsX12_beginEntry := goodIn_r _ [9, 3, 10, 1, 28, 29, 30, 31, 32, 33, 34, 35, 36, 37, 38, 39, 40, 41] (by decide +kernel) (by decide +kernel)
set_option maxRecDepth 20000 in
theorem gX12_readText_X12_beginEntry : GoodIn wsX12_readText (wsV RX12 134 RX12 yX12_beginEntry wsX12_beginEntry) := goodIn_app (goodIn_of _ (by decide +kernel)) ggX12_readText_X12_beginEntry
set_option maxRecDepth 20000 in
theorem ggX12_readText_X12_takesWord : GoodIn wsX12_readText wsX12_takesWord := goodIn_r _ [14, 1, 10, 5, 6, 7, 8, 9, 3, 15, 16, 17, 28, 29, 30, 31, 32, 33, 34, 35, 36, 37, 38, 39, 40, 41] (by decide +kernel) (by decide +kernel)
set_option maxRecDepth 20000 in
theorem gX12_readText_X12_takesWord : GoodIn wsX12_readText (wsV RX12 137 RX12 yX12_takesWord wsX12_takesWord) := goodIn_app (goodIn_of _ (by decide +kernel)) ggX12_readText_X12_takesWord
set_option maxRecDepth 20000 in
theorem ggX12_readText_X12_takesOutline : GoodIn wsX12_readText wsX12_takesOutline := goodIn_r _ [21, 1, 10, 3, 22, 23, 8, 24, 25, 26, 27, 28, 29, 30, 31, 32, 33, 34, 35, 36, 37, 38, 39, 40, 41] (by decide +kernel) (by decide +kernel)
set_option maxRecDepth 20000 in
theorem gX12_readText_X12_takesOutline : GoodIn wsX12_readText (wsV RX12 140 RX12 yX12_takesOutline wsX12_takesOutline) := goodIn_app (goodIn_of _ (by decide +kernel)) ggX12_readText_X12_takesOutline
theorem dX12_readText_0 : decode cX12_readText 0 = .ok (.aload_n 0, 1) := by decide +kernel
theorem dX12_readText_1 : decode cX12_readText 1 = .ok (.iconst 0, 1) := by decide +kernel
theorem dX12_readText_2 : decode cX12_readText 2 = .ok (.putfield 128, 3) := by decide +kernel
theorem dX12_readText_5 : decode cX12_readText 5 = .ok (.aload_n 0, 1) := by decide +kernel
theorem dX12_readText_6 : decode cX12_readText 6 = .ok (.invokevirtual 134, 3) := by decide +kernel
theorem dX12_readText_9 : decode cX12_readText 9 = .ok (.iconst 0, 1) := by decide +kernel
theorem dX12_readText_10 : decode cX12_readText 10 = .ok (.istore_n 1, 1) := by decide +kernel
theorem dX12_readText_11 : decode cX12_readText 11 = .ok (.iload_n 1, 1) := by decide +kernel
theorem dX12_readText_12 : decode cX12_readText 12 = .ok (.aload_n 0, 1) := by decide +kernel
theorem dX12_readText_13 : decode cX12_readText 13 = .ok (.getfield 121, 3) := by decide +kernel
theorem dX12_readText_16 : decode cX12_readText 16 = .ok (.if_icmp .ge 45, 3) := by decide +kernel
theorem dX12_readText_19 : decode cX12_readText 19 = .ok (.aload_n 0, 1) := by decide +kernel
theorem dX12_readText_20 : decode cX12_readText 20 = .ok (.getfield 124, 3) := by decide +kernel
theorem dX12_readText_23 : decode cX12_readText 23 = .ok (.ifCond .eq 19, 3) := by decide +kernel
theorem dX12_readText_26 : decode cX12_readText 26 = .ok (.aload_n 0, 1) := by decide +kernel
theorem dX12_readText_27 : decode cX12_readText 27 = .ok (.aload_n 0, 1) := by decide +kernel
theorem dX12_readText_28 : decode cX12_readText 28 = .ok (.getfield 16, 3) := by decide +kernel
theorem dX12_readText_31 : decode cX12_readText 31 = .ok (.iload_n 1, 1) := by decide +kernel
theorem dX12_readText_32 : decode cX12_readText 32 = .ok (.iaload, 1) := by decide +kernel
theorem dX12_readText_33 : decode cX12_readText 33 = .ok (.invokevirtual 137, 3) := by decide +kernel
theorem dX12_readText_36 : decode cX12_readText 36 = .ok (.ifCond .eq 25, 3) := by decide +kernel
theorem dX12_readText_39 : decode cX12_readText 39 = .ok (.goto 16, 3) := by decide +kernel
theorem dX12_readText_42 : decode cX12_readText 42 = .ok (.aload_n 0, 1) := by decide +kernel
theorem dX12_readText_43 : decode cX12_readText 43 = .ok (.aload_n 0, 1) := by decide +kernel
theorem dX12_readText_44 : decode cX12_readText 44 = .ok (.getfield 16, 3) := by decide +kernel
theorem dX12_readText_47 : decode cX12_readText 47 = .ok (.iload_n 1, 1) := by decide +kernel
theorem dX12_readText_48 : decode cX12_readText 48 = .ok (.iaload, 1) := by decide +kernel
theorem dX12_readText_49 : decode cX12_readText 49 = .ok (.invokevirtual 140, 3) := by decide +kernel
theorem dX12_readText_52 : decode cX12_readText 52 = .ok (.ifCond .eq 9, 3) := by decide +kernel
theorem dX12_readText_55 : decode cX12_readText 55 = .ok (.iinc 1 1, 3) := by decide +kernel
theorem dX12_readText_58 : decode cX12_readText 58 = .ok (.goto (-47), 3) := by decide +kernel
theorem dX12_readText_61 : decode cX12_readText 61 = .ok (.iload_n 1, 1) := by decide +kernel
theorem dX12_readText_62 : decode cX12_readText 62 = .ok (.ireturn, 1) := by decide +kernel
set_option maxRecDepth 20000 in
theorem ggX12_firstError_X12_readText : GoodIn wsX12_firstError wsX12_readText := goodIn_r _ [6, 7, 8, 9, 10, 11, 12, 13, 5, 14, 15, 16, 17, 18, 19, 20, 21, 22, 23, 24, 25, 26, 27, 28, 29, 30, 31, 32, 33, 34, 35, 36, 37, 38, 39, 40, 41, 42, 43, 44, 45, 46] (by decide +kernel) (by decide +kernel)
set_option maxRecDepth 20000 in
theorem gX12_firstError_X12_readText : GoodIn wsX12_firstError (wsV RX12 143 RX12 yX12_readText wsX12_readText) := goodIn_app (goodIn_of _ (by decide +kernel)) ggX12_firstError_X12_readText
theorem dX12_firstError_0 : decode cX12_firstError 0 = .ok (.aload_n 0, 1) := by decide +kernel
theorem dX12_firstError_1 : decode cX12_firstError 1 = .ok (.iconst 0, 1) := by decide +kernel
theorem dX12_firstError_2 : decode cX12_firstError 2 = .ok (.putfield 31, 3) := by decide +kernel
theorem dX12_firstError_5 : decode cX12_firstError 5 = .ok (.aload_n 0, 1) := by decide +kernel
theorem dX12_firstError_6 : decode cX12_firstError 6 = .ok (.invokevirtual 143, 3) := by decide +kernel
theorem dX12_firstError_9 : decode cX12_firstError 9 = .ok (.ireturn, 1) := by decide +kernel
set_option maxRecDepth 20000 in
theorem ggX12_bringAll_X12_entryAt : GoodIn wsX12_bringAll wsX12_entryAt := goodIn_r _ [7] (by decide +kernel) (by decide +kernel)
set_option maxRecDepth 20000 in
theorem gX12_bringAll_X12_entryAt : GoodIn wsX12_bringAll (va_wsS RX12 39 yX12_entryAt wsX12_entryAt) := goodIn_app (goodIn_of _ (by decide +kernel)) ggX12_bringAll_X12_entryAt
set_option maxRecDepth 20000 in
theorem ggX12_bringAll_X12_isOutlineThere : GoodIn wsX12_bringAll wsX12_isOutlineThere := goodIn_r _ [11, 1, 4, 5, 6, 7, 12, 13, 14, 15, 16, 17, 18, 19, 20, 21, 22, 23, 24, 25, 26, 27, 28, 29] (by decide +kernel) (by decide +kernel)
set_option maxRecDepth 20000 in
theorem gX12_bringAll_X12_isOutlineThere : GoodIn wsX12_bringAll (wsV RX12 111 RX12 yX12_isOutlineThere wsX12_isOutlineThere) := goodIn_app (goodIn_of _ (by decide +kernel)) ggX12_bringAll_X12_isOutlineThere
theorem dX12_bringAll_0 : decode cX12_bringAll 0 = .ok (.aload_n 0, 1) := by decide +kernel
theorem dX12_bringAll_1 : decode cX12_bringAll 1 = .ok (.getfield 7, 3) := by decide +kernel
theorem dX12_bringAll_4 : decode cX12_bringAll 4 = .ok (.iconst 0, 1) := by decide +kernel
theorem dX12_bringAll_5 : decode cX12_bringAll 5 = .ok (.iaload, 1) := by decide +kernel
theorem dX12_bringAll_6 : decode cX12_bringAll 6 = .ok (.aload_n 0, 1) := by decide +kernel
theorem dX12_bringAll_7 : decode cX12_bringAll 7 = .ok (.getfield 128, 3) := by decide +kernel
theorem dX12_bringAll_10 : decode cX12_bringAll 10 = .ok (.iadd, 1) := by decide +kernel
theorem dX12_bringAll_11 : decode cX12_bringAll 11 = .ok (.bipush 24, 2) := by decide +kernel
theorem dX12_bringAll_13 : decode cX12_bringAll 13 = .ok (.if_icmp .gt 7, 3) := by decide +kernel
theorem dX12_bringAll_16 : decode cX12_bringAll 16 = .ok (.iconst 1, 1) := by decide +kernel
theorem dX12_bringAll_17 : decode cX12_bringAll 17 = .ok (.goto 4, 3) := by decide +kernel
theorem dX12_bringAll_20 : decode cX12_bringAll 20 = .ok (.iconst 0, 1) := by decide +kernel
theorem dX12_bringAll_21 : decode cX12_bringAll 21 = .ok (.istore_n 1, 1) := by decide +kernel
theorem dX12_bringAll_22 : decode cX12_bringAll 22 = .ok (.iconst 0, 1) := by decide +kernel
theorem dX12_bringAll_23 : decode cX12_bringAll 23 = .ok (.istore_n 2, 1) := by decide +kernel
theorem dX12_bringAll_24 : decode cX12_bringAll 24 = .ok (.iload_n 2, 1) := by decide +kernel
theorem dX12_bringAll_25 : decode cX12_bringAll 25 = .ok (.aload_n 0, 1) := by decide +kernel
theorem dX12_bringAll_26 : decode cX12_bringAll 26 = .ok (.getfield 128, 3) := by decide +kernel
theorem dX12_bringAll_29 : decode cX12_bringAll 29 = .ok (.if_icmp .ge 77, 3) := by decide +kernel
theorem dX12_bringAll_32 : decode cX12_bringAll 32 = .ok (.iload_n 1, 1) := by decide +kernel
theorem dX12_bringAll_33 : decode cX12_bringAll 33 = .ok (.ifCond .eq 73, 3) := by decide +kernel
theorem dX12_bringAll_36 : decode cX12_bringAll 36 = .ok (.iconst 0, 1) := by decide +kernel
theorem dX12_bringAll_37 : decode cX12_bringAll 37 = .ok (.istore_n 3, 1) := by decide +kernel
theorem dX12_bringAll_38 : decode cX12_bringAll 38 = .ok (.iload_n 3, 1) := by decide +kernel
theorem dX12_bringAll_39 : decode cX12_bringAll 39 = .ok (.bipush 14, 2) := by decide +kernel
theorem dX12_bringAll_41 : decode cX12_bringAll 41 = .ok (.if_icmp .ge 36, 3) := by decide +kernel
theorem dX12_bringAll_44 : decode cX12_bringAll 44 = .ok (.aload_n 0, 1) := by decide +kernel
theorem dX12_bringAll_45 : decode cX12_bringAll 45 = .ok (.getfield 7, 3) := by decide +kernel
theorem dX12_bringAll_48 : decode cX12_bringAll 48 = .ok (.aload_n 0, 1) := by decide +kernel
theorem dX12_bringAll_49 : decode cX12_bringAll 49 = .ok (.getfield 7, 3) := by decide +kernel
theorem dX12_bringAll_52 : decode cX12_bringAll 52 = .ok (.iconst 0, 1) := by decide +kernel
theorem dX12_bringAll_53 : decode cX12_bringAll 53 = .ok (.iaload, 1) := by decide +kernel
theorem dX12_bringAll_54 : decode cX12_bringAll 54 = .ok (.invokestatic 39, 3) := by decide +kernel
theorem dX12_bringAll_57 : decode cX12_bringAll 57 = .ok (.iload_n 3, 1) := by decide +kernel
theorem dX12_bringAll_58 : decode cX12_bringAll 58 = .ok (.iadd, 1) := by decide +kernel
theorem dX12_bringAll_59 : decode cX12_bringAll 59 = .ok (.aload_n 0, 1) := by decide +kernel
theorem dX12_bringAll_60 : decode cX12_bringAll 60 = .ok (.getfield 25, 3) := by decide +kernel
theorem dX12_bringAll_63 : decode cX12_bringAll 63 = .ok (.bipush 14, 2) := by decide +kernel
theorem dX12_bringAll_65 : decode cX12_bringAll 65 = .ok (.iload_n 2, 1) := by decide +kernel
theorem dX12_bringAll_66 : decode cX12_bringAll 66 = .ok (.imul, 1) := by decide +kernel
theorem dX12_bringAll_67 : decode cX12_bringAll 67 = .ok (.iload_n 3, 1) := by decide +kernel
theorem dX12_bringAll_68 : decode cX12_bringAll 68 = .ok (.iadd, 1) := by decide +kernel
theorem dX12_bringAll_69 : decode cX12_bringAll 69 = .ok (.iaload, 1) := by decide +kernel
theorem dX12_bringAll_70 : decode cX12_bringAll 70 = .ok (.iastore, 1) := by decide +kernel
theorem dX12_bringAll_71 : decode cX12_bringAll 71 = .ok (.iinc 3 1, 3) := by decide +kernel
theorem dX12_bringAll_74 : decode cX12_bringAll 74 = .ok (.goto (-36), 3) := by decide +kernel
theorem dX12_bringAll_77 : decode cX12_bringAll 77 = .ok (.aload_n 0, 1) := by decide +kernel
theorem dX12_bringAll_78 : decode cX12_bringAll 78 = .ok (.invokevirtual 111, 3) := by decide +kernel
theorem dX12_bringAll_81 : decode cX12_bringAll 81 = .ok (.ifCond .ne 7, 3) := by decide +kernel
theorem dX12_bringAll_84 : decode cX12_bringAll 84 = .ok (.iconst 1, 1) := by decide +kernel
theorem dX12_bringAll_85 : decode cX12_bringAll 85 = .ok (.goto 4, 3) := by decide +kernel
theorem dX12_bringAll_88 : decode cX12_bringAll 88 = .ok (.iconst 0, 1) := by decide +kernel
theorem dX12_bringAll_89 : decode cX12_bringAll 89 = .ok (.istore_n 1, 1) := by decide +kernel
theorem dX12_bringAll_90 : decode cX12_bringAll 90 = .ok (.aload_n 0, 1) := by decide +kernel
theorem dX12_bringAll_91 : decode cX12_bringAll 91 = .ok (.getfield 7, 3) := by decide +kernel
theorem dX12_bringAll_94 : decode cX12_bringAll 94 = .ok (.iconst 0, 1) := by decide +kernel
theorem dX12_bringAll_95 : decode cX12_bringAll 95 = .ok (.dup2, 1) := by decide +kernel
theorem dX12_bringAll_96 : decode cX12_bringAll 96 = .ok (.iaload, 1) := by decide +kernel
theorem dX12_bringAll_97 : decode cX12_bringAll 97 = .ok (.iconst 1, 1) := by decide +kernel
theorem dX12_bringAll_98 : decode cX12_bringAll 98 = .ok (.iadd, 1) := by decide +kernel
theorem dX12_bringAll_99 : decode cX12_bringAll 99 = .ok (.iastore, 1) := by decide +kernel
theorem dX12_bringAll_100 : decode cX12_bringAll 100 = .ok (.iinc 2 1, 3) := by decide +kernel
theorem dX12_bringAll_103 : decode cX12_bringAll 103 = .ok (.goto (-79), 3) := by decide +kernel
theorem dX12_bringAll_106 : decode cX12_bringAll 106 = .ok (.iload_n 1, 1) := by decide +kernel
theorem dX12_bringAll_107 : decode cX12_bringAll 107 = .ok (.ireturn, 1) := by decide +kernel
set_option maxRecDepth 20000 in
theorem ggX12_canBring_X12_keepAside : GoodIn wsX12_canBring wsX12_keepAside := goodIn_r _ [5, 6, 7, 29, 30, 31, 32, 33, 34, 35, 36, 37, 38, 39, 40, 41, 42] (by decide +kernel) (by decide +kernel)
set_option maxRecDepth 20000 in
theorem gX12_canBring_X12_keepAside : GoodIn wsX12_canBring (wsV RX12 146 RX12 yX12_keepAside wsX12_keepAside) := goodIn_app (goodIn_of _ (by decide +kernel)) ggX12_canBring_X12_keepAside
set_option maxRecDepth 20000 in
theorem ggX12_canBring_X12_bringAll : GoodIn wsX12_canBring wsX12_bringAll := goodIn_r _ [11, 7, 12, 13, 14, 15, 4, 16, 17, 18, 19, 20, 21, 22, 23, 24, 29, 30, 31, 32, 33, 34, 35, 36, 37, 38, 39, 40, 41, 42] (by decide +kernel) (by decide +kernel)
set_option maxRecDepth 20000 in
theorem gX12_canBring_X12_bringAll : GoodIn wsX12_canBring (wsV RX12 149 RX12 yX12_bringAll wsX12_bringAll) := goodIn_app (goodIn_of _ (by decide +kernel)) ggX12_canBring_X12_bringAll
set_option maxRecDepth 20000 in
theorem ggX12_canBring_X12_takeAside : GoodIn wsX12_canBring wsX12_takeAside := goodIn_r _ [28, 7, 6, 29, 30, 31, 32, 33, 34, 35, 36, 37, 38, 39, 40, 41, 42] (by decide +kernel) (by decide +kernel)
set_option maxRecDepth 20000 in
theorem gX12_canBring_X12_takeAside : GoodIn wsX12_canBring (wsV RX12 152 RX12 yX12_takeAside wsX12_takeAside) := goodIn_app (goodIn_of _ (by decide +kernel)) ggX12_canBring_X12_takeAside
theorem dX12_canBring_0 : decode cX12_canBring 0 = .ok (.aload_n 0, 1) := by decide +kernel
theorem dX12_canBring_1 : decode cX12_canBring 1 = .ok (.invokevirtual 146, 3) := by decide +kernel
theorem dX12_canBring_4 : decode cX12_canBring 4 = .ok (.aload_n 0, 1) := by decide +kernel
theorem dX12_canBring_5 : decode cX12_canBring 5 = .ok (.invokevirtual 149, 3) := by decide +kernel
theorem dX12_canBring_8 : decode cX12_canBring 8 = .ok (.istore_n 1, 1) := by decide +kernel
theorem dX12_canBring_9 : decode cX12_canBring 9 = .ok (.aload_n 0, 1) := by decide +kernel
theorem dX12_canBring_10 : decode cX12_canBring 10 = .ok (.invokevirtual 152, 3) := by decide +kernel
theorem dX12_canBring_13 : decode cX12_canBring 13 = .ok (.iload_n 1, 1) := by decide +kernel
theorem dX12_canBring_14 : decode cX12_canBring 14 = .ok (.ireturn, 1) := by decide +kernel
set_option maxRecDepth 20000 in
theorem ggX12_load_X12_readText : GoodIn wsX12_load wsX12_readText := goodIn_r _ [11, 4, 1, 2, 12, 13, 14, 15, 10, 16, 3, 17, 18, 19, 20, 21, 22, 23, 24, 25, 26, 27, 28, 29, 30, 31, 32, 33, 97, 98, 99, 100, 101, 102, 103, 104, 105, 106, 107, 108, 109, 110] (by decide +kernel) (by decide +kernel)
set_option maxRecDepth 20000 in
theorem gX12_load_X12_readText : GoodIn wsX12_load (wsV RX12 143 RX12 yX12_readText wsX12_readText) := goodIn_app (goodIn_of _ (by decide +kernel)) ggX12_load_X12_readText
set_option maxRecDepth 20000 in
theorem ggX12_load_X12_canBring : GoodIn wsX12_load wsX12_canBring := goodIn_r _ [37, 38, 39, 40, 10, 41, 42, 6, 43, 44, 45, 46, 4, 3, 47, 48, 49, 50, 51, 52, 53, 54, 55, 56, 57, 58, 59, 60, 61, 97, 98, 99, 100, 101, 102, 103, 104, 105, 106, 107, 108, 109, 110] (by decide +kernel) (by decide +kernel)
set_option maxRecDepth 20000 in
theorem gX12_load_X12_canBring : GoodIn wsX12_load (wsV RX12 155 RX12 yX12_canBring wsX12_canBring) := goodIn_app (goodIn_of _ (by decide +kernel)) ggX12_load_X12_canBring
set_option maxRecDepth 20000 in
theorem ggX12_load_X12_save : GoodIn wsX12_load wsX12_save := goodIn_r _ [65, 66, 67, 6, 97, 98, 99, 100, 101, 102, 103, 104, 105, 106, 107, 108, 109, 110] (by decide +kernel) (by decide +kernel)
set_option maxRecDepth 20000 in
theorem gX12_load_X12_save : GoodIn wsX12_load (wsV RX12 89 RX12 yX12_save wsX12_save) := goodIn_app (goodIn_of _ (by decide +kernel)) ggX12_load_X12_save
set_option maxRecDepth 20000 in
theorem ggX12_load_X12_bringAll : GoodIn wsX12_load wsX12_bringAll := goodIn_r _ [46, 6, 4, 3, 47, 48, 10, 49, 50, 51, 52, 53, 54, 55, 56, 57, 97, 98, 99, 100, 101, 102, 103, 104, 105, 106, 107, 108, 109, 110] (by decide +kernel) (by decide +kernel)
set_option maxRecDepth 20000 in
theorem gX12_load_X12_bringAll : GoodIn wsX12_load (wsV RX12 149 RX12 yX12_bringAll wsX12_bringAll) := goodIn_app (goodIn_of _ (by decide +kernel)) ggX12_load_X12_bringAll
set_option maxRecDepth 20000 in
theorem ggX12_load_X12_translate : GoodIn wsX12_load wsX12_translate := goodIn_r _ [71, 6, 72, 73, 74, 75, 76, 10, 77, 78, 79, 80, 81, 82, 83, 84, 47, 48, 49, 85, 86, 87, 88, 31, 32, 33, 89, 90, 91, 92, 93, 94, 95, 96, 97, 98, 99, 100, 101, 102, 103, 104, 105, 106, 107, 108, 109, 110] (by decide +kernel) (by decide +kernel)
set_option maxRecDepth 20000 in
theorem gX12_load_X12_translate : GoodIn wsX12_load (wsV RX12 83 RX12 yX12_translate wsX12_translate) := goodIn_app (goodIn_of _ (by decide +kernel)) ggX12_load_X12_translate
theorem dX12_load_0 : decode cX12_load 0 = .ok (.aload_n 0, 1) := by decide +kernel
theorem dX12_load_1 : decode cX12_load 1 = .ok (.invokevirtual 143, 3) := by decide +kernel
theorem dX12_load_4 : decode cX12_load 4 = .ok (.aload_n 0, 1) := by decide +kernel
theorem dX12_load_5 : decode cX12_load 5 = .ok (.getfield 121, 3) := by decide +kernel
theorem dX12_load_8 : decode cX12_load 8 = .ok (.if_icmp .ne 31, 3) := by decide +kernel
theorem dX12_load_11 : decode cX12_load 11 = .ok (.aload_n 0, 1) := by decide +kernel
theorem dX12_load_12 : decode cX12_load 12 = .ok (.getfield 124, 3) := by decide +kernel
theorem dX12_load_15 : decode cX12_load 15 = .ok (.ifCond .eq 24, 3) := by decide +kernel
theorem dX12_load_18 : decode cX12_load 18 = .ok (.aload_n 0, 1) := by decide +kernel
theorem dX12_load_19 : decode cX12_load 19 = .ok (.getfield 25, 3) := by decide +kernel
theorem dX12_load_22 : decode cX12_load 22 = .ok (.bipush 14, 2) := by decide +kernel
theorem dX12_load_24 : decode cX12_load 24 = .ok (.aload_n 0, 1) := by decide +kernel
theorem dX12_load_25 : decode cX12_load 25 = .ok (.getfield 128, 3) := by decide +kernel
theorem dX12_load_28 : decode cX12_load 28 = .ok (.imul, 1) := by decide +kernel
theorem dX12_load_29 : decode cX12_load 29 = .ok (.iconst 5, 1) := by decide +kernel
theorem dX12_load_30 : decode cX12_load 30 = .ok (.iadd, 1) := by decide +kernel
theorem dX12_load_31 : decode cX12_load 31 = .ok (.iaload, 1) := by decide +kernel
theorem dX12_load_32 : decode cX12_load 32 = .ok (.ifCond .le 7, 3) := by decide +kernel
theorem dX12_load_35 : decode cX12_load 35 = .ok (.iconst 1, 1) := by decide +kernel
theorem dX12_load_36 : decode cX12_load 36 = .ok (.goto 4, 3) := by decide +kernel
theorem dX12_load_39 : decode cX12_load 39 = .ok (.iconst 0, 1) := by decide +kernel
theorem dX12_load_40 : decode cX12_load 40 = .ok (.istore_n 1, 1) := by decide +kernel
theorem dX12_load_41 : decode cX12_load 41 = .ok (.aload_n 0, 1) := by decide +kernel
theorem dX12_load_42 : decode cX12_load 42 = .ok (.dup, 1) := by decide +kernel
theorem dX12_load_43 : decode cX12_load 43 = .ok (.getfield 128, 3) := by decide +kernel
theorem dX12_load_46 : decode cX12_load 46 = .ok (.iload_n 1, 1) := by decide +kernel
theorem dX12_load_47 : decode cX12_load 47 = .ok (.ifCond .eq 7, 3) := by decide +kernel
theorem dX12_load_50 : decode cX12_load 50 = .ok (.iconst 1, 1) := by decide +kernel
theorem dX12_load_51 : decode cX12_load 51 = .ok (.goto 4, 3) := by decide +kernel
theorem dX12_load_54 : decode cX12_load 54 = .ok (.iconst 0, 1) := by decide +kernel
theorem dX12_load_55 : decode cX12_load 55 = .ok (.iadd, 1) := by decide +kernel
theorem dX12_load_56 : decode cX12_load 56 = .ok (.putfield 128, 3) := by decide +kernel
theorem dX12_load_59 : decode cX12_load 59 = .ok (.aload_n 0, 1) := by decide +kernel
theorem dX12_load_60 : decode cX12_load 60 = .ok (.iload_n 1, 1) := by decide +kernel
theorem dX12_load_61 : decode cX12_load 61 = .ok (.ifCond .ne 7, 3) := by decide +kernel
theorem dX12_load_64 : decode cX12_load 64 = .ok (.iconst 1, 1) := by decide +kernel
theorem dX12_load_65 : decode cX12_load 65 = .ok (.goto 15, 3) := by decide +kernel
theorem dX12_load_68 : decode cX12_load 68 = .ok (.aload_n 0, 1) := by decide +kernel
theorem dX12_load_69 : decode cX12_load 69 = .ok (.invokevirtual 155, 3) := by decide +kernel
theorem dX12_load_72 : decode cX12_load 72 = .ok (.ifCond .eq 7, 3) := by decide +kernel
theorem dX12_load_75 : decode cX12_load 75 = .ok (.iconst 0, 1) := by decide +kernel
theorem dX12_load_76 : decode cX12_load 76 = .ok (.goto 4, 3) := by decide +kernel
theorem dX12_load_79 : decode cX12_load 79 = .ok (.iconst 2, 1) := by decide +kernel
theorem dX12_load_80 : decode cX12_load 80 = .ok (.putfield 31, 3) := by decide +kernel
theorem dX12_load_83 : decode cX12_load 83 = .ok (.aload_n 0, 1) := by decide +kernel
theorem dX12_load_84 : decode cX12_load 84 = .ok (.getfield 31, 3) := by decide +kernel
theorem dX12_load_87 : decode cX12_load 87 = .ok (.ifCond .le 5, 3) := by decide +kernel
theorem dX12_load_90 : decode cX12_load 90 = .ok (.iconst 0, 1) := by decide +kernel
theorem dX12_load_91 : decode cX12_load 91 = .ok (.ireturn, 1) := by decide +kernel
theorem dX12_load_92 : decode cX12_load 92 = .ok (.aload_n 0, 1) := by decide +kernel
theorem dX12_load_93 : decode cX12_load 93 = .ok (.invokevirtual 89, 3) := by decide +kernel
theorem dX12_load_96 : decode cX12_load 96 = .ok (.aload_n 0, 1) := by decide +kernel
theorem dX12_load_97 : decode cX12_load 97 = .ok (.invokevirtual 149, 3) := by decide +kernel
theorem dX12_load_100 : decode cX12_load 100 = .ok (.pop, 1) := by decide +kernel
theorem dX12_load_101 : decode cX12_load 101 = .ok (.aload_n 0, 1) := by decide +kernel
theorem dX12_load_102 : decode cX12_load 102 = .ok (.invokevirtual 83, 3) := by decide +kernel
theorem dX12_load_105 : decode cX12_load 105 = .ok (.aload_n 0, 1) := by decide +kernel
theorem dX12_load_106 : decode cX12_load 106 = .ok (.iconst 0, 1) := by decide +kernel
theorem dX12_load_107 : decode cX12_load 107 = .ok (.putfield 121, 3) := by decide +kernel
theorem dX12_load_110 : decode cX12_load 110 = .ok (.aload_n 0, 1) := by decide +kernel
theorem dX12_load_111 : decode cX12_load 111 = .ok (.getfield 7, 3) := by decide +kernel
theorem dX12_load_114 : decode cX12_load 114 = .ok (.iconst 0, 1) := by decide +kernel
theorem dX12_load_115 : decode cX12_load 115 = .ok (.iaload, 1) := by decide +kernel
theorem dX12_load_116 : decode cX12_load 116 = .ok (.ireturn, 1) := by decide +kernel
set_option maxRecDepth 20000 in
theorem ggX12_itemOf_X12_strokesAhead : GoodIn wsX12_itemOf wsX12_strokesAhead := goodIn_r _ [5, 6, 7, 8, 4, 9, 10, 11, 12, 13, 14, 15, 16, 17, 18, 19, 20, 21, 22, 23] (by decide +kernel) (by decide +kernel)
set_option maxRecDepth 20000 in
theorem gX12_itemOf_X12_strokesAhead : GoodIn wsX12_itemOf (wsV RX12 105 RX12 yX12_strokesAhead wsX12_strokesAhead) := goodIn_app (goodIn_of _ (by decide +kernel)) ggX12_itemOf_X12_strokesAhead
theorem dX12_itemOf_0 : decode cX12_itemOf 0 = .ok (.iconst 0, 1) := by decide +kernel
theorem dX12_itemOf_1 : decode cX12_itemOf 1 = .ok (.istore_n 2, 1) := by decide +kernel
theorem dX12_itemOf_2 : decode cX12_itemOf 2 = .ok (.aload_n 0, 1) := by decide +kernel
theorem dX12_itemOf_3 : decode cX12_itemOf 3 = .ok (.iload_n 2, 1) := by decide +kernel
theorem dX12_itemOf_4 : decode cX12_itemOf 4 = .ok (.iconst 1, 1) := by decide +kernel
theorem dX12_itemOf_5 : decode cX12_itemOf 5 = .ok (.iadd, 1) := by decide +kernel
theorem dX12_itemOf_6 : decode cX12_itemOf 6 = .ok (.invokevirtual 105, 3) := by decide +kernel
theorem dX12_itemOf_9 : decode cX12_itemOf 9 = .ok (.iload_n 1, 1) := by decide +kernel
theorem dX12_itemOf_10 : decode cX12_itemOf 10 = .ok (.if_icmp .gt 9, 3) := by decide +kernel
theorem dX12_itemOf_13 : decode cX12_itemOf 13 = .ok (.iinc 2 1, 3) := by decide +kernel
theorem dX12_itemOf_16 : decode cX12_itemOf 16 = .ok (.goto (-14), 3) := by decide +kernel
theorem dX12_itemOf_19 : decode cX12_itemOf 19 = .ok (.iload_n 2, 1) := by decide +kernel
theorem dX12_itemOf_20 : decode cX12_itemOf 20 = .ok (.ireturn, 1) := by decide +kernel
set_option maxRecDepth 20000 in
theorem ggX12_strokeNow_X12_keysOf : GoodIn wsX12_strokeNow wsX12_keysOf := goodIn_r _ [5] (by decide +kernel) (by decide +kernel)
set_option maxRecDepth 20000 in
theorem gX12_strokeNow_X12_keysOf : GoodIn wsX12_strokeNow (va_wsS RX12 158 yX12_keysOf wsX12_keysOf) := goodIn_app (goodIn_of _ (by decide +kernel)) ggX12_strokeNow_X12_keysOf
set_option maxRecDepth 20000 in
theorem ggX12_strokeNow_X12_itemOf : GoodIn wsX12_strokeNow wsX12_itemOf := goodIn_r _ [9, 10, 11, 12, 4, 13, 1, 14, 15, 16, 17, 18, 19, 20, 21, 22, 23, 24, 25, 26, 27, 28, 29, 30] (by decide +kernel) (by decide +kernel)
set_option maxRecDepth 20000 in
theorem gX12_strokeNow_X12_itemOf : GoodIn wsX12_strokeNow (wsV RX12 161 RX12 yX12_itemOf wsX12_itemOf) := goodIn_app (goodIn_of _ (by decide +kernel)) ggX12_strokeNow_X12_itemOf
theorem dX12_strokeNow_0 : decode cX12_strokeNow 0 = .ok (.aload_n 0, 1) := by decide +kernel
theorem dX12_strokeNow_1 : decode cX12_strokeNow 1 = .ok (.getfield 7, 3) := by decide +kernel
theorem dX12_strokeNow_4 : decode cX12_strokeNow 4 = .ok (.sipush 338, 3) := by decide +kernel
theorem dX12_strokeNow_7 : decode cX12_strokeNow 7 = .ok (.iload_n 1, 1) := by decide +kernel
theorem dX12_strokeNow_8 : decode cX12_strokeNow 8 = .ok (.iadd, 1) := by decide +kernel
theorem dX12_strokeNow_9 : decode cX12_strokeNow 9 = .ok (.iaload, 1) := by decide +kernel
theorem dX12_strokeNow_10 : decode cX12_strokeNow 10 = .ok (.istore_n 3, 1) := by decide +kernel
theorem dX12_strokeNow_11 : decode cX12_strokeNow 11 = .ok (.iload_n 2, 1) := by decide +kernel
theorem dX12_strokeNow_12 : decode cX12_strokeNow 12 = .ok (.ifCond .ne 7, 3) := by decide +kernel
theorem dX12_strokeNow_15 : decode cX12_strokeNow 15 = .ok (.iload_n 3, 1) := by decide +kernel
theorem dX12_strokeNow_16 : decode cX12_strokeNow 16 = .ok (.goto 20, 3) := by decide +kernel
theorem dX12_strokeNow_19 : decode cX12_strokeNow 19 = .ok (.iload_n 2, 1) := by decide +kernel
theorem dX12_strokeNow_20 : decode cX12_strokeNow 20 = .ok (.iconst 1, 1) := by decide +kernel
theorem dX12_strokeNow_21 : decode cX12_strokeNow 21 = .ok (.if_icmp .ne 10, 3) := by decide +kernel
theorem dX12_strokeNow_24 : decode cX12_strokeNow 24 = .ok (.iload_n 3, 1) := by decide +kernel
theorem dX12_strokeNow_25 : decode cX12_strokeNow 25 = .ok (.invokestatic 158, 3) := by decide +kernel
theorem dX12_strokeNow_28 : decode cX12_strokeNow 28 = .ok (.goto 8, 3) := by decide +kernel
theorem dX12_strokeNow_31 : decode cX12_strokeNow 31 = .ok (.aload_n 0, 1) := by decide +kernel
theorem dX12_strokeNow_32 : decode cX12_strokeNow 32 = .ok (.iload_n 1, 1) := by decide +kernel
theorem dX12_strokeNow_33 : decode cX12_strokeNow 33 = .ok (.invokevirtual 161, 3) := by decide +kernel
theorem dX12_strokeNow_36 : decode cX12_strokeNow 36 = .ok (.ireturn, 1) := by decide +kernel
set_option maxRecDepth 20000 in
theorem ggX12_strokeAt_X12_within : GoodIn wsX12_strokeAt wsX12_within := goodIn_r _ [6] (by decide +kernel) (by decide +kernel)
set_option maxRecDepth 20000 in
theorem gX12_strokeAt_X12_within : GoodIn wsX12_strokeAt (va_wsS RX12 35 yX12_within wsX12_within) := goodIn_app (goodIn_of _ (by decide +kernel)) ggX12_strokeAt_X12_within
set_option maxRecDepth 20000 in
theorem ggX12_strokeAt_X12_strokeNow : GoodIn wsX12_strokeAt wsX12_strokeNow := goodIn_r _ [10, 1, 11, 12, 5, 13, 14, 15, 16, 17, 18, 19, 20, 21, 22, 23, 24, 25, 26, 27, 28, 29, 30, 31, 32, 33, 34, 35, 36, 37, 38] (by decide +kernel) (by decide +kernel)
set_option maxRecDepth 20000 in
theorem gX12_strokeAt_X12_strokeNow : GoodIn wsX12_strokeAt (wsV RX12 164 RX12 yX12_strokeNow wsX12_strokeNow) := goodIn_app (goodIn_of _ (by decide +kernel)) ggX12_strokeAt_X12_strokeNow
theorem dX12_strokeAt_0 : decode cX12_strokeAt 0 = .ok (.aload_n 0, 1) := by decide +kernel
theorem dX12_strokeAt_1 : decode cX12_strokeAt 1 = .ok (.iload_n 1, 1) := by decide +kernel
theorem dX12_strokeAt_2 : decode cX12_strokeAt 2 = .ok (.iconst 0, 1) := by decide +kernel
theorem dX12_strokeAt_3 : decode cX12_strokeAt 3 = .ok (.aload_n 0, 1) := by decide +kernel
theorem dX12_strokeAt_4 : decode cX12_strokeAt 4 = .ok (.getfield 7, 3) := by decide +kernel
theorem dX12_strokeAt_7 : decode cX12_strokeAt 7 = .ok (.sipush 337, 3) := by decide +kernel
theorem dX12_strokeAt_10 : decode cX12_strokeAt 10 = .ok (.iaload, 1) := by decide +kernel
theorem dX12_strokeAt_11 : decode cX12_strokeAt 11 = .ok (.iconst 1, 1) := by decide +kernel
theorem dX12_strokeAt_12 : decode cX12_strokeAt 12 = .ok (.isub, 1) := by decide +kernel
theorem dX12_strokeAt_13 : decode cX12_strokeAt 13 = .ok (.invokestatic 35, 3) := by decide +kernel
theorem dX12_strokeAt_16 : decode cX12_strokeAt 16 = .ok (.ifCond .ne 7, 3) := by decide +kernel
theorem dX12_strokeAt_19 : decode cX12_strokeAt 19 = .ok (.iconst 1, 1) := by decide +kernel
theorem dX12_strokeAt_20 : decode cX12_strokeAt 20 = .ok (.goto 17, 3) := by decide +kernel
theorem dX12_strokeAt_23 : decode cX12_strokeAt 23 = .ok (.iload_n 2, 1) := by decide +kernel
theorem dX12_strokeAt_24 : decode cX12_strokeAt 24 = .ok (.iconst 0, 1) := by decide +kernel
theorem dX12_strokeAt_25 : decode cX12_strokeAt 25 = .ok (.iconst 2, 1) := by decide +kernel
theorem dX12_strokeAt_26 : decode cX12_strokeAt 26 = .ok (.invokestatic 35, 3) := by decide +kernel
theorem dX12_strokeAt_29 : decode cX12_strokeAt 29 = .ok (.ifCond .eq 7, 3) := by decide +kernel
theorem dX12_strokeAt_32 : decode cX12_strokeAt 32 = .ok (.iconst 0, 1) := by decide +kernel
theorem dX12_strokeAt_33 : decode cX12_strokeAt 33 = .ok (.goto 4, 3) := by decide +kernel
theorem dX12_strokeAt_36 : decode cX12_strokeAt 36 = .ok (.iconst 2, 1) := by decide +kernel
theorem dX12_strokeAt_37 : decode cX12_strokeAt 37 = .ok (.putfield 31, 3) := by decide +kernel
theorem dX12_strokeAt_40 : decode cX12_strokeAt 40 = .ok (.aload_n 0, 1) := by decide +kernel
theorem dX12_strokeAt_41 : decode cX12_strokeAt 41 = .ok (.getfield 31, 3) := by decide +kernel
theorem dX12_strokeAt_44 : decode cX12_strokeAt 44 = .ok (.ifCond .le 7, 3) := by decide +kernel
theorem dX12_strokeAt_47 : decode cX12_strokeAt 47 = .ok (.iconst 0, 1) := by decide +kernel
theorem dX12_strokeAt_48 : decode cX12_strokeAt 48 = .ok (.goto 9, 3) := by decide +kernel
theorem dX12_strokeAt_51 : decode cX12_strokeAt 51 = .ok (.aload_n 0, 1) := by decide +kernel
theorem dX12_strokeAt_52 : decode cX12_strokeAt 52 = .ok (.iload_n 1, 1) := by decide +kernel
theorem dX12_strokeAt_53 : decode cX12_strokeAt 53 = .ok (.iload_n 2, 1) := by decide +kernel
theorem dX12_strokeAt_54 : decode cX12_strokeAt 54 = .ok (.invokevirtual 164, 3) := by decide +kernel
theorem dX12_strokeAt_57 : decode cX12_strokeAt 57 = .ok (.ireturn, 1) := by decide +kernel
set_option maxRecDepth 20000 in
theorem ggX12_itemNow_X12_strokesAhead : GoodIn wsX12_itemNow wsX12_strokesAhead := goodIn_r _ [6, 1, 7, 8, 5, 9, 10, 11, 12, 13, 14, 15, 16, 17, 18, 19, 20, 21, 22, 23] (by decide +kernel) (by decide +kernel)
set_option maxRecDepth 20000 in
theorem gX12_itemNow_X12_strokesAhead : GoodIn wsX12_itemNow (wsV RX12 105 RX12 yX12_strokesAhead wsX12_strokesAhead) := goodIn_app (goodIn_of _ (by decide +kernel)) ggX12_itemNow_X12_strokesAhead
set_option maxRecDepth 20000 in
theorem ggX12_itemNow_X12_itemAt : GoodIn wsX12_itemNow wsX12_itemAt := goodIn_r _ [9] (by decide +kernel) (by decide +kernel)
set_option maxRecDepth 20000 in
theorem gX12_itemNow_X12_itemAt : GoodIn wsX12_itemNow (va_wsS RX12 57 yX12_itemAt wsX12_itemAt) := goodIn_app (goodIn_of _ (by decide +kernel)) ggX12_itemNow_X12_itemAt
theorem dX12_itemNow_0 : decode cX12_itemNow 0 = .ok (.iload_n 2, 1) := by decide +kernel
theorem dX12_itemNow_1 : decode cX12_itemNow 1 = .ok (.tableswitch 93 0 4 #[35, 41, 51, 63, 81], 35) := by decide +kernel
theorem dX12_itemNow_36 : decode cX12_itemNow 36 = .ok (.aload_n 0, 1) := by decide +kernel
theorem dX12_itemNow_37 : decode cX12_itemNow 37 = .ok (.iload_n 1, 1) := by decide +kernel
theorem dX12_itemNow_38 : decode cX12_itemNow 38 = .ok (.invokevirtual 105, 3) := by decide +kernel
theorem dX12_itemNow_41 : decode cX12_itemNow 41 = .ok (.ireturn, 1) := by decide +kernel
theorem dX12_itemNow_42 : decode cX12_itemNow 42 = .ok (.aload_n 0, 1) := by decide +kernel
theorem dX12_itemNow_43 : decode cX12_itemNow 43 = .ok (.getfield 7, 3) := by decide +kernel
theorem dX12_itemNow_46 : decode cX12_itemNow 46 = .ok (.iload_n 1, 1) := by decide +kernel
theorem dX12_itemNow_47 : decode cX12_itemNow 47 = .ok (.invokestatic 57, 3) := by decide +kernel
theorem dX12_itemNow_50 : decode cX12_itemNow 50 = .ok (.iaload, 1) := by decide +kernel
theorem dX12_itemNow_51 : decode cX12_itemNow 51 = .ok (.ireturn, 1) := by decide +kernel
theorem dX12_itemNow_52 : decode cX12_itemNow 52 = .ok (.aload_n 0, 1) := by decide +kernel
theorem dX12_itemNow_53 : decode cX12_itemNow 53 = .ok (.getfield 7, 3) := by decide +kernel
theorem dX12_itemNow_56 : decode cX12_itemNow 56 = .ok (.iload_n 1, 1) := by decide +kernel
theorem dX12_itemNow_57 : decode cX12_itemNow 57 = .ok (.invokestatic 57, 3) := by decide +kernel
theorem dX12_itemNow_60 : decode cX12_itemNow 60 = .ok (.iconst 1, 1) := by decide +kernel
theorem dX12_itemNow_61 : decode cX12_itemNow 61 = .ok (.iadd, 1) := by decide +kernel
theorem dX12_itemNow_62 : decode cX12_itemNow 62 = .ok (.iaload, 1) := by decide +kernel
theorem dX12_itemNow_63 : decode cX12_itemNow 63 = .ok (.ireturn, 1) := by decide +kernel
theorem dX12_itemNow_64 : decode cX12_itemNow 64 = .ok (.iload_n 1, 1) := by decide +kernel
theorem dX12_itemNow_65 : decode cX12_itemNow 65 = .ok (.aload_n 0, 1) := by decide +kernel
theorem dX12_itemNow_66 : decode cX12_itemNow 66 = .ok (.getfield 7, 3) := by decide +kernel
theorem dX12_itemNow_69 : decode cX12_itemNow 69 = .ok (.sipush 1315, 3) := by decide +kernel
theorem dX12_itemNow_72 : decode cX12_itemNow 72 = .ok (.iaload, 1) := by decide +kernel
theorem dX12_itemNow_73 : decode cX12_itemNow 73 = .ok (.if_icmp .ge 7, 3) := by decide +kernel
theorem dX12_itemNow_76 : decode cX12_itemNow 76 = .ok (.iconst 1, 1) := by decide +kernel
theorem dX12_itemNow_77 : decode cX12_itemNow 77 = .ok (.goto 4, 3) := by decide +kernel
theorem dX12_itemNow_80 : decode cX12_itemNow 80 = .ok (.iconst 0, 1) := by decide +kernel
theorem dX12_itemNow_81 : decode cX12_itemNow 81 = .ok (.ireturn, 1) := by decide +kernel
theorem dX12_itemNow_82 : decode cX12_itemNow 82 = .ok (.aload_n 0, 1) := by decide +kernel
theorem dX12_itemNow_83 : decode cX12_itemNow 83 = .ok (.getfield 7, 3) := by decide +kernel
theorem dX12_itemNow_86 : decode cX12_itemNow 86 = .ok (.iload_n 1, 1) := by decide +kernel
theorem dX12_itemNow_87 : decode cX12_itemNow 87 = .ok (.invokestatic 57, 3) := by decide +kernel
theorem dX12_itemNow_90 : decode cX12_itemNow 90 = .ok (.iconst 2, 1) := by decide +kernel
theorem dX12_itemNow_91 : decode cX12_itemNow 91 = .ok (.iadd, 1) := by decide +kernel
theorem dX12_itemNow_92 : decode cX12_itemNow 92 = .ok (.iaload, 1) := by decide +kernel
theorem dX12_itemNow_93 : decode cX12_itemNow 93 = .ok (.ireturn, 1) := by decide +kernel
theorem dX12_itemNow_94 : decode cX12_itemNow 94 = .ok (.aload_n 0, 1) := by decide +kernel
theorem dX12_itemNow_95 : decode cX12_itemNow 95 = .ok (.getfield 7, 3) := by decide +kernel
theorem dX12_itemNow_98 : decode cX12_itemNow 98 = .ok (.iload_n 1, 1) := by decide +kernel
theorem dX12_itemNow_99 : decode cX12_itemNow 99 = .ok (.invokestatic 57, 3) := by decide +kernel
theorem dX12_itemNow_102 : decode cX12_itemNow 102 = .ok (.iconst 3, 1) := by decide +kernel
theorem dX12_itemNow_103 : decode cX12_itemNow 103 = .ok (.iadd, 1) := by decide +kernel
theorem dX12_itemNow_104 : decode cX12_itemNow 104 = .ok (.iload_n 2, 1) := by decide +kernel
theorem dX12_itemNow_105 : decode cX12_itemNow 105 = .ok (.iadd, 1) := by decide +kernel
theorem dX12_itemNow_106 : decode cX12_itemNow 106 = .ok (.iconst 5, 1) := by decide +kernel
theorem dX12_itemNow_107 : decode cX12_itemNow 107 = .ok (.isub, 1) := by decide +kernel
theorem dX12_itemNow_108 : decode cX12_itemNow 108 = .ok (.iaload, 1) := by decide +kernel
theorem dX12_itemNow_109 : decode cX12_itemNow 109 = .ok (.ireturn, 1) := by decide +kernel
set_option maxRecDepth 20000 in
theorem ggX12_item_X12_isItem : GoodIn wsX12_item wsX12_isItem := goodIn_r _ [7, 2, 8, 9, 6, 10, 22, 23, 24, 25, 26, 27, 28, 29, 30, 31, 32, 33, 34, 35] (by decide +kernel) (by decide +kernel)
set_option maxRecDepth 20000 in
theorem gX12_item_X12_isItem : GoodIn wsX12_item (wsV RX12 115 RX12 yX12_isItem wsX12_isItem) := goodIn_app (goodIn_of _ (by decide +kernel)) ggX12_item_X12_isItem
set_option maxRecDepth 20000 in
theorem ggX12_item_X12_itemAt : GoodIn wsX12_item wsX12_itemAt := goodIn_r _ [13] (by decide +kernel) (by decide +kernel)
set_option maxRecDepth 20000 in
theorem gX12_item_X12_itemAt : GoodIn wsX12_item (va_wsS RX12 57 yX12_itemAt wsX12_itemAt) := goodIn_app (goodIn_of _ (by decide +kernel)) ggX12_item_X12_itemAt
set_option maxRecDepth 20000 in
theorem ggX12_item_X12_within : GoodIn wsX12_item wsX12_within := goodIn_r _ [10] (by decide +kernel) (by decide +kernel)
set_option maxRecDepth 20000 in
theorem gX12_item_X12_within : GoodIn wsX12_item (va_wsS RX12 35 yX12_within wsX12_within) := goodIn_app (goodIn_of _ (by decide +kernel)) ggX12_item_X12_within
set_option maxRecDepth 20000 in
theorem ggX12_item_X12_itemNow : GoodIn wsX12_item wsX12_itemNow := goodIn_r _ [17, 2, 18, 19, 20, 6, 21, 11, 12, 13, 22, 23, 24, 25, 26, 27, 28, 29, 30, 31, 32, 33, 34, 35] (by decide +kernel) (by decide +kernel)
set_option maxRecDepth 20000 in
theorem gX12_item_X12_itemNow : GoodIn wsX12_item (wsV RX12 168 RX12 yX12_itemNow wsX12_itemNow) := goodIn_app (goodIn_of _ (by decide +kernel)) ggX12_item_X12_itemNow
theorem dX12_item_0 : decode cX12_item 0 = .ok (.aload_n 0, 1) := by decide +kernel
theorem dX12_item_1 : decode cX12_item 1 = .ok (.iload_n 1, 1) := by decide +kernel
theorem dX12_item_2 : decode cX12_item 2 = .ok (.invokevirtual 115, 3) := by decide +kernel
theorem dX12_item_5 : decode cX12_item 5 = .ok (.ifCond .ne 10, 3) := by decide +kernel
theorem dX12_item_8 : decode cX12_item 8 = .ok (.aload_n 0, 1) := by decide +kernel
theorem dX12_item_9 : decode cX12_item 9 = .ok (.iconst 1, 1) := by decide +kernel
theorem dX12_item_10 : decode cX12_item 10 = .ok (.putfield 31, 3) := by decide +kernel
theorem dX12_item_13 : decode cX12_item 13 = .ok (.iconst 0, 1) := by decide +kernel
theorem dX12_item_14 : decode cX12_item 14 = .ok (.ireturn, 1) := by decide +kernel
theorem dX12_item_15 : decode cX12_item 15 = .ok (.aload_n 0, 1) := by decide +kernel
theorem dX12_item_16 : decode cX12_item 16 = .ok (.iload_n 2, 1) := by decide +kernel
theorem dX12_item_17 : decode cX12_item 17 = .ok (.iconst 0, 1) := by decide +kernel
theorem dX12_item_18 : decode cX12_item 18 = .ok (.iconst 4, 1) := by decide +kernel
theorem dX12_item_19 : decode cX12_item 19 = .ok (.aload_n 0, 1) := by decide +kernel
theorem dX12_item_20 : decode cX12_item 20 = .ok (.getfield 7, 3) := by decide +kernel
theorem dX12_item_23 : decode cX12_item 23 = .ok (.iload_n 1, 1) := by decide +kernel
theorem dX12_item_24 : decode cX12_item 24 = .ok (.invokestatic 57, 3) := by decide +kernel
theorem dX12_item_27 : decode cX12_item 27 = .ok (.iconst 2, 1) := by decide +kernel
theorem dX12_item_28 : decode cX12_item 28 = .ok (.iadd, 1) := by decide +kernel
theorem dX12_item_29 : decode cX12_item 29 = .ok (.iaload, 1) := by decide +kernel
theorem dX12_item_30 : decode cX12_item 30 = .ok (.iadd, 1) := by decide +kernel
theorem dX12_item_31 : decode cX12_item 31 = .ok (.invokestatic 35, 3) := by decide +kernel
theorem dX12_item_34 : decode cX12_item 34 = .ok (.ifCond .eq 7, 3) := by decide +kernel
theorem dX12_item_37 : decode cX12_item 37 = .ok (.iconst 0, 1) := by decide +kernel
theorem dX12_item_38 : decode cX12_item 38 = .ok (.goto 4, 3) := by decide +kernel
theorem dX12_item_41 : decode cX12_item 41 = .ok (.iconst 2, 1) := by decide +kernel
theorem dX12_item_42 : decode cX12_item 42 = .ok (.putfield 31, 3) := by decide +kernel
theorem dX12_item_45 : decode cX12_item 45 = .ok (.aload_n 0, 1) := by decide +kernel
theorem dX12_item_46 : decode cX12_item 46 = .ok (.getfield 31, 3) := by decide +kernel
theorem dX12_item_49 : decode cX12_item 49 = .ok (.ifCond .le 7, 3) := by decide +kernel
theorem dX12_item_52 : decode cX12_item 52 = .ok (.iconst 0, 1) := by decide +kernel
theorem dX12_item_53 : decode cX12_item 53 = .ok (.goto 9, 3) := by decide +kernel
theorem dX12_item_56 : decode cX12_item 56 = .ok (.aload_n 0, 1) := by decide +kernel
theorem dX12_item_57 : decode cX12_item 57 = .ok (.iload_n 1, 1) := by decide +kernel
theorem dX12_item_58 : decode cX12_item 58 = .ok (.iload_n 2, 1) := by decide +kernel
theorem dX12_item_59 : decode cX12_item 59 = .ok (.invokevirtual 168, 3) := by decide +kernel
theorem dX12_item_62 : decode cX12_item 62 = .ok (.ireturn, 1) := by decide +kernel
set_option maxRecDepth 20000 in
theorem ggX12_entryNow_X12_entryAt : GoodIn wsX12_entryNow wsX12_entryAt := goodIn_r _ [5] (by decide +kernel) (by decide +kernel)
set_option maxRecDepth 20000 in
theorem gX12_entryNow_X12_entryAt : GoodIn wsX12_entryNow (va_wsS RX12 39 yX12_entryAt wsX12_entryAt) := goodIn_app (goodIn_of _ (by decide +kernel)) ggX12_entryNow_X12_entryAt
set_option maxRecDepth 20000 in
theorem ggX12_entryNow_X12_clash : GoodIn wsX12_entryNow wsX12_clash := goodIn_r _ [9, 1, 10, 11, 12, 4, 13, 2, 3, 5, 14, 15, 16, 17, 18, 19, 20, 21, 29, 30, 31, 32, 33, 34, 35, 36, 37, 38, 39, 40, 41, 42] (by decide +kernel) (by decide +kernel)
set_option maxRecDepth 20000 in
theorem gX12_entryNow_X12_clash : GoodIn wsX12_entryNow (wsV RX12 171 RX12 yX12_clash wsX12_clash) := goodIn_app (goodIn_of _ (by decide +kernel)) ggX12_entryNow_X12_clash
set_option maxRecDepth 20000 in
theorem ggX12_entryNow_X12_madeBy : GoodIn wsX12_entryNow wsX12_madeBy := goodIn_r _ [25, 1, 26, 27, 4, 28, 29, 30, 31, 32, 33, 34, 35, 36, 37, 38, 39, 40, 41, 42] (by decide +kernel) (by decide +kernel)
set_option maxRecDepth 20000 in
theorem gX12_entryNow_X12_madeBy : GoodIn wsX12_entryNow (wsV RX12 102 RX12 yX12_madeBy wsX12_madeBy) := goodIn_app (goodIn_of _ (by decide +kernel)) ggX12_entryNow_X12_madeBy
theorem dX12_entryNow_0 : decode cX12_entryNow 0 = .ok (.iload_n 1, 1) := by decide +kernel
theorem dX12_entryNow_1 : decode cX12_entryNow 1 = .ok (.invokestatic 39, 3) := by decide +kernel
theorem dX12_entryNow_4 : decode cX12_entryNow 4 = .ok (.istore_n 3, 1) := by decide +kernel
theorem dX12_entryNow_5 : decode cX12_entryNow 5 = .ok (.iload_n 2, 1) := by decide +kernel
theorem dX12_entryNow_6 : decode cX12_entryNow 6 = .ok (.tableswitch 74 0 7 #[46, 74, 74, 74, 74, 53, 62, 68], 46) := by decide +kernel
theorem dX12_entryNow_52 : decode cX12_entryNow 52 = .ok (.aload_n 0, 1) := by decide +kernel
theorem dX12_entryNow_53 : decode cX12_entryNow 53 = .ok (.getfield 7, 3) := by decide +kernel
theorem dX12_entryNow_56 : decode cX12_entryNow 56 = .ok (.iload_n 3, 1) := by decide +kernel
theorem dX12_entryNow_57 : decode cX12_entryNow 57 = .ok (.iaload, 1) := by decide +kernel
theorem dX12_entryNow_58 : decode cX12_entryNow 58 = .ok (.ireturn, 1) := by decide +kernel
theorem dX12_entryNow_59 : decode cX12_entryNow 59 = .ok (.aload_n 0, 1) := by decide +kernel
theorem dX12_entryNow_60 : decode cX12_entryNow 60 = .ok (.getfield 7, 3) := by decide +kernel
theorem dX12_entryNow_63 : decode cX12_entryNow 63 = .ok (.iload_n 3, 1) := by decide +kernel
theorem dX12_entryNow_64 : decode cX12_entryNow 64 = .ok (.iconst 5, 1) := by decide +kernel
theorem dX12_entryNow_65 : decode cX12_entryNow 65 = .ok (.iadd, 1) := by decide +kernel
theorem dX12_entryNow_66 : decode cX12_entryNow 66 = .ok (.iaload, 1) := by decide +kernel
theorem dX12_entryNow_67 : decode cX12_entryNow 67 = .ok (.ireturn, 1) := by decide +kernel
theorem dX12_entryNow_68 : decode cX12_entryNow 68 = .ok (.aload_n 0, 1) := by decide +kernel
theorem dX12_entryNow_69 : decode cX12_entryNow 69 = .ok (.iload_n 1, 1) := by decide +kernel
theorem dX12_entryNow_70 : decode cX12_entryNow 70 = .ok (.invokevirtual 171, 3) := by decide +kernel
theorem dX12_entryNow_73 : decode cX12_entryNow 73 = .ok (.ireturn, 1) := by decide +kernel
theorem dX12_entryNow_74 : decode cX12_entryNow 74 = .ok (.aload_n 0, 1) := by decide +kernel
theorem dX12_entryNow_75 : decode cX12_entryNow 75 = .ok (.iload_n 1, 1) := by decide +kernel
theorem dX12_entryNow_76 : decode cX12_entryNow 76 = .ok (.invokevirtual 102, 3) := by decide +kernel
theorem dX12_entryNow_79 : decode cX12_entryNow 79 = .ok (.ireturn, 1) := by decide +kernel
theorem dX12_entryNow_80 : decode cX12_entryNow 80 = .ok (.iload_n 2, 1) := by decide +kernel
theorem dX12_entryNow_81 : decode cX12_entryNow 81 = .ok (.iconst 5, 1) := by decide +kernel
theorem dX12_entryNow_82 : decode cX12_entryNow 82 = .ok (.if_icmp .ge 30, 3) := by decide +kernel
theorem dX12_entryNow_85 : decode cX12_entryNow 85 = .ok (.iload_n 2, 1) := by decide +kernel
theorem dX12_entryNow_86 : decode cX12_entryNow 86 = .ok (.iconst 1, 1) := by decide +kernel
theorem dX12_entryNow_87 : decode cX12_entryNow 87 = .ok (.isub, 1) := by decide +kernel
theorem dX12_entryNow_88 : decode cX12_entryNow 88 = .ok (.aload_n 0, 1) := by decide +kernel
theorem dX12_entryNow_89 : decode cX12_entryNow 89 = .ok (.getfield 7, 3) := by decide +kernel
theorem dX12_entryNow_92 : decode cX12_entryNow 92 = .ok (.iload_n 3, 1) := by decide +kernel
theorem dX12_entryNow_93 : decode cX12_entryNow 93 = .ok (.iaload, 1) := by decide +kernel
theorem dX12_entryNow_94 : decode cX12_entryNow 94 = .ok (.if_icmp .ge 14, 3) := by decide +kernel
theorem dX12_entryNow_97 : decode cX12_entryNow 97 = .ok (.aload_n 0, 1) := by decide +kernel
theorem dX12_entryNow_98 : decode cX12_entryNow 98 = .ok (.getfield 7, 3) := by decide +kernel
theorem dX12_entryNow_101 : decode cX12_entryNow 101 = .ok (.iload_n 3, 1) := by decide +kernel
theorem dX12_entryNow_102 : decode cX12_entryNow 102 = .ok (.iload_n 2, 1) := by decide +kernel
theorem dX12_entryNow_103 : decode cX12_entryNow 103 = .ok (.iadd, 1) := by decide +kernel
theorem dX12_entryNow_104 : decode cX12_entryNow 104 = .ok (.iaload, 1) := by decide +kernel
theorem dX12_entryNow_105 : decode cX12_entryNow 105 = .ok (.goto 40, 3) := by decide +kernel
theorem dX12_entryNow_108 : decode cX12_entryNow 108 = .ok (.iconst (-1), 1) := by decide +kernel
theorem dX12_entryNow_109 : decode cX12_entryNow 109 = .ok (.goto 36, 3) := by decide +kernel
theorem dX12_entryNow_112 : decode cX12_entryNow 112 = .ok (.iload_n 2, 1) := by decide +kernel
theorem dX12_entryNow_113 : decode cX12_entryNow 113 = .ok (.bipush 8, 2) := by decide +kernel
theorem dX12_entryNow_115 : decode cX12_entryNow 115 = .ok (.isub, 1) := by decide +kernel
theorem dX12_entryNow_116 : decode cX12_entryNow 116 = .ok (.aload_n 0, 1) := by decide +kernel
theorem dX12_entryNow_117 : decode cX12_entryNow 117 = .ok (.getfield 7, 3) := by decide +kernel
theorem dX12_entryNow_120 : decode cX12_entryNow 120 = .ok (.iload_n 3, 1) := by decide +kernel
theorem dX12_entryNow_121 : decode cX12_entryNow 121 = .ok (.iconst 5, 1) := by decide +kernel
theorem dX12_entryNow_122 : decode cX12_entryNow 122 = .ok (.iadd, 1) := by decide +kernel
theorem dX12_entryNow_123 : decode cX12_entryNow 123 = .ok (.iaload, 1) := by decide +kernel
theorem dX12_entryNow_124 : decode cX12_entryNow 124 = .ok (.if_icmp .ge 20, 3) := by decide +kernel
theorem dX12_entryNow_127 : decode cX12_entryNow 127 = .ok (.aload_n 0, 1) := by decide +kernel
theorem dX12_entryNow_128 : decode cX12_entryNow 128 = .ok (.getfield 7, 3) := by decide +kernel
theorem dX12_entryNow_131 : decode cX12_entryNow 131 = .ok (.iload_n 3, 1) := by decide +kernel
theorem dX12_entryNow_132 : decode cX12_entryNow 132 = .ok (.bipush 6, 2) := by decide +kernel
theorem dX12_entryNow_134 : decode cX12_entryNow 134 = .ok (.iadd, 1) := by decide +kernel
theorem dX12_entryNow_135 : decode cX12_entryNow 135 = .ok (.iload_n 2, 1) := by decide +kernel
theorem dX12_entryNow_136 : decode cX12_entryNow 136 = .ok (.iadd, 1) := by decide +kernel
theorem dX12_entryNow_137 : decode cX12_entryNow 137 = .ok (.bipush 8, 2) := by decide +kernel
theorem dX12_entryNow_139 : decode cX12_entryNow 139 = .ok (.isub, 1) := by decide +kernel
theorem dX12_entryNow_140 : decode cX12_entryNow 140 = .ok (.iaload, 1) := by decide +kernel
theorem dX12_entryNow_141 : decode cX12_entryNow 141 = .ok (.goto 4, 3) := by decide +kernel
theorem dX12_entryNow_144 : decode cX12_entryNow 144 = .ok (.iconst (-1), 1) := by decide +kernel
theorem dX12_entryNow_145 : decode cX12_entryNow 145 = .ok (.ireturn, 1) := by decide +kernel
set_option maxRecDepth 20000 in
theorem ggX12_entry_X12_isEntry : GoodIn wsX12_entry wsX12_isEntry := goodIn_r _ [6, 7, 8, 9, 5, 10, 41, 42, 43, 44, 45, 46, 47, 48, 49, 50, 51, 52, 53, 54] (by decide +kernel) (by decide +kernel)
set_option maxRecDepth 20000 in
theorem gX12_entry_X12_isEntry : GoodIn wsX12_entry (wsV RX12 96 RX12 yX12_isEntry wsX12_isEntry) := goodIn_app (goodIn_of _ (by decide +kernel)) ggX12_entry_X12_isEntry
set_option maxRecDepth 20000 in
theorem ggX12_entry_X12_within : GoodIn wsX12_entry wsX12_within := goodIn_r _ [10] (by decide +kernel) (by decide +kernel)
set_option maxRecDepth 20000 in
theorem gX12_entry_X12_within : GoodIn wsX12_entry (va_wsS RX12 35 yX12_within wsX12_within) := goodIn_app (goodIn_of _ (by decide +kernel)) ggX12_entry_X12_within
set_option maxRecDepth 20000 in
theorem ggX12_entry_X12_entryNow : GoodIn wsX12_entry wsX12_entryNow := goodIn_r _ [14, 7, 15, 16, 5, 17, 18, 19, 20, 21, 22, 23, 24, 25, 26, 27, 28, 29, 30, 31, 32, 33, 34, 35, 36, 37, 38, 39, 40, 41, 42, 43, 44, 45, 46, 47, 48, 49, 50, 51, 52, 53, 54] (by decide +kernel) (by decide +kernel)
set_option maxRecDepth 20000 in
theorem gX12_entry_X12_entryNow : GoodIn wsX12_entry (wsV RX12 174 RX12 yX12_entryNow wsX12_entryNow) := goodIn_app (goodIn_of _ (by decide +kernel)) ggX12_entry_X12_entryNow
theorem dX12_entry_0 : decode cX12_entry 0 = .ok (.aload_n 0, 1) := by decide +kernel
theorem dX12_entry_1 : decode cX12_entry 1 = .ok (.aload_n 0, 1) := by decide +kernel
theorem dX12_entry_2 : decode cX12_entry 2 = .ok (.iload_n 1, 1) := by decide +kernel
theorem dX12_entry_3 : decode cX12_entry 3 = .ok (.invokevirtual 96, 3) := by decide +kernel
theorem dX12_entry_6 : decode cX12_entry 6 = .ok (.ifCond .ne 7, 3) := by decide +kernel
theorem dX12_entry_9 : decode cX12_entry 9 = .ok (.iconst 1, 1) := by decide +kernel
theorem dX12_entry_10 : decode cX12_entry 10 = .ok (.goto 18, 3) := by decide +kernel
theorem dX12_entry_13 : decode cX12_entry 13 = .ok (.iload_n 2, 1) := by decide +kernel
theorem dX12_entry_14 : decode cX12_entry 14 = .ok (.iconst 0, 1) := by decide +kernel
theorem dX12_entry_15 : decode cX12_entry 15 = .ok (.bipush 15, 2) := by decide +kernel
theorem dX12_entry_17 : decode cX12_entry 17 = .ok (.invokestatic 35, 3) := by decide +kernel
theorem dX12_entry_20 : decode cX12_entry 20 = .ok (.ifCond .eq 7, 3) := by decide +kernel
theorem dX12_entry_23 : decode cX12_entry 23 = .ok (.iconst 0, 1) := by decide +kernel
theorem dX12_entry_24 : decode cX12_entry 24 = .ok (.goto 4, 3) := by decide +kernel
theorem dX12_entry_27 : decode cX12_entry 27 = .ok (.iconst 2, 1) := by decide +kernel
theorem dX12_entry_28 : decode cX12_entry 28 = .ok (.putfield 31, 3) := by decide +kernel
theorem dX12_entry_31 : decode cX12_entry 31 = .ok (.aload_n 0, 1) := by decide +kernel
theorem dX12_entry_32 : decode cX12_entry 32 = .ok (.getfield 31, 3) := by decide +kernel
theorem dX12_entry_35 : decode cX12_entry 35 = .ok (.ifCond .le 7, 3) := by decide +kernel
theorem dX12_entry_38 : decode cX12_entry 38 = .ok (.iconst 0, 1) := by decide +kernel
theorem dX12_entry_39 : decode cX12_entry 39 = .ok (.goto 9, 3) := by decide +kernel
theorem dX12_entry_42 : decode cX12_entry 42 = .ok (.aload_n 0, 1) := by decide +kernel
theorem dX12_entry_43 : decode cX12_entry 43 = .ok (.iload_n 1, 1) := by decide +kernel
theorem dX12_entry_44 : decode cX12_entry 44 = .ok (.iload_n 2, 1) := by decide +kernel
theorem dX12_entry_45 : decode cX12_entry 45 = .ok (.invokevirtual 174, 3) := by decide +kernel
theorem dX12_entry_48 : decode cX12_entry 48 = .ok (.ireturn, 1) := by decide +kernel
set_option maxRecDepth 20000 in
theorem ggX12_letters_X12_itemAt : GoodIn wsX12_letters wsX12_itemAt := goodIn_r _ [5] (by decide +kernel) (by decide +kernel)
set_option maxRecDepth 20000 in
theorem gX12_letters_X12_itemAt : GoodIn wsX12_letters (va_wsS RX12 57 yX12_itemAt wsX12_itemAt) := goodIn_app (goodIn_of _ (by decide +kernel)) ggX12_letters_X12_itemAt
theorem dX12_letters_0 : decode cX12_letters 0 = .ok (.iconst 0, 1) := by decide +kernel
theorem dX12_letters_1 : decode cX12_letters 1 = .ok (.istore_n 1, 1) := by decide +kernel
theorem dX12_letters_2 : decode cX12_letters 2 = .ok (.iconst 0, 1) := by decide +kernel
theorem dX12_letters_3 : decode cX12_letters 3 = .ok (.istore_n 2, 1) := by decide +kernel
theorem dX12_letters_4 : decode cX12_letters 4 = .ok (.iload_n 2, 1) := by decide +kernel
theorem dX12_letters_5 : decode cX12_letters 5 = .ok (.aload_n 0, 1) := by decide +kernel
theorem dX12_letters_6 : decode cX12_letters 6 = .ok (.getfield 7, 3) := by decide +kernel
theorem dX12_letters_9 : decode cX12_letters 9 = .ok (.sipush 399, 3) := by decide +kernel
theorem dX12_letters_12 : decode cX12_letters 12 = .ok (.iaload, 1) := by decide +kernel
theorem dX12_letters_13 : decode cX12_letters 13 = .ok (.if_icmp .ge 23, 3) := by decide +kernel
theorem dX12_letters_16 : decode cX12_letters 16 = .ok (.iload_n 1, 1) := by decide +kernel
theorem dX12_letters_17 : decode cX12_letters 17 = .ok (.aload_n 0, 1) := by decide +kernel
theorem dX12_letters_18 : decode cX12_letters 18 = .ok (.getfield 7, 3) := by decide +kernel
theorem dX12_letters_21 : decode cX12_letters 21 = .ok (.iload_n 2, 1) := by decide +kernel
theorem dX12_letters_22 : decode cX12_letters 22 = .ok (.invokestatic 57, 3) := by decide +kernel
theorem dX12_letters_25 : decode cX12_letters 25 = .ok (.iconst 2, 1) := by decide +kernel
theorem dX12_letters_26 : decode cX12_letters 26 = .ok (.iadd, 1) := by decide +kernel
theorem dX12_letters_27 : decode cX12_letters 27 = .ok (.iaload, 1) := by decide +kernel
theorem dX12_letters_28 : decode cX12_letters 28 = .ok (.iadd, 1) := by decide +kernel
theorem dX12_letters_29 : decode cX12_letters 29 = .ok (.istore_n 1, 1) := by decide +kernel
theorem dX12_letters_30 : decode cX12_letters 30 = .ok (.iinc 2 1, 3) := by decide +kernel
theorem dX12_letters_33 : decode cX12_letters 33 = .ok (.goto (-29), 3) := by decide +kernel
theorem dX12_letters_36 : decode cX12_letters 36 = .ok (.iload_n 1, 1) := by decide +kernel
theorem dX12_letters_37 : decode cX12_letters 37 = .ok (.ireturn, 1) := by decide +kernel
set_option maxRecDepth 20000 in
theorem ggX12_clashes_X12_clash : GoodIn wsX12_clashes wsX12_clash := goodIn_r _ [6, 1, 7, 8, 9, 5, 10, 11, 12, 13, 14, 15, 16, 17, 18, 19, 20, 21, 22, 23, 24, 25, 26, 27, 28, 29, 30, 31, 32, 33, 34, 35] (by decide +kernel) (by decide +kernel)
set_option maxRecDepth 20000 in
theorem gX12_clashes_X12_clash : GoodIn wsX12_clashes (wsV RX12 171 RX12 yX12_clash wsX12_clash) := goodIn_app (goodIn_of _ (by decide +kernel)) ggX12_clashes_X12_clash
theorem dX12_clashes_0 : decode cX12_clashes 0 = .ok (.iconst 0, 1) := by decide +kernel
theorem dX12_clashes_1 : decode cX12_clashes 1 = .ok (.istore_n 1, 1) := by decide +kernel
theorem dX12_clashes_2 : decode cX12_clashes 2 = .ok (.iconst 0, 1) := by decide +kernel
theorem dX12_clashes_3 : decode cX12_clashes 3 = .ok (.istore_n 2, 1) := by decide +kernel
theorem dX12_clashes_4 : decode cX12_clashes 4 = .ok (.iload_n 2, 1) := by decide +kernel
theorem dX12_clashes_5 : decode cX12_clashes 5 = .ok (.aload_n 0, 1) := by decide +kernel
theorem dX12_clashes_6 : decode cX12_clashes 6 = .ok (.getfield 7, 3) := by decide +kernel
theorem dX12_clashes_9 : decode cX12_clashes 9 = .ok (.iconst 0, 1) := by decide +kernel
theorem dX12_clashes_10 : decode cX12_clashes 10 = .ok (.iaload, 1) := by decide +kernel
theorem dX12_clashes_11 : decode cX12_clashes 11 = .ok (.if_icmp .ge 25, 3) := by decide +kernel
theorem dX12_clashes_14 : decode cX12_clashes 14 = .ok (.iload_n 1, 1) := by decide +kernel
theorem dX12_clashes_15 : decode cX12_clashes 15 = .ok (.aload_n 0, 1) := by decide +kernel
theorem dX12_clashes_16 : decode cX12_clashes 16 = .ok (.iload_n 2, 1) := by decide +kernel
theorem dX12_clashes_17 : decode cX12_clashes 17 = .ok (.invokevirtual 171, 3) := by decide +kernel
theorem dX12_clashes_20 : decode cX12_clashes 20 = .ok (.ifCond .le 7, 3) := by decide +kernel
theorem dX12_clashes_23 : decode cX12_clashes 23 = .ok (.iconst 1, 1) := by decide +kernel
theorem dX12_clashes_24 : decode cX12_clashes 24 = .ok (.goto 4, 3) := by decide +kernel
theorem dX12_clashes_27 : decode cX12_clashes 27 = .ok (.iconst 0, 1) := by decide +kernel
theorem dX12_clashes_28 : decode cX12_clashes 28 = .ok (.iadd, 1) := by decide +kernel
theorem dX12_clashes_29 : decode cX12_clashes 29 = .ok (.istore_n 1, 1) := by decide +kernel
theorem dX12_clashes_30 : decode cX12_clashes 30 = .ok (.iinc 2 1, 3) := by decide +kernel
theorem dX12_clashes_33 : decode cX12_clashes 33 = .ok (.goto (-29), 3) := by decide +kernel
theorem dX12_clashes_36 : decode cX12_clashes 36 = .ok (.iload_n 1, 1) := by decide +kernel
theorem dX12_clashes_37 : decode cX12_clashes 37 = .ok (.ireturn, 1) := by decide +kernel
set_option maxRecDepth 20000 in
theorem ggX12_counted_X12_openStrokes : GoodIn wsX12_counted wsX12_openStrokes := goodIn_r _ [7, 1, 8, 9, 10, 6, 11, 12, 13, 14, 46, 47, 48, 49, 50, 51, 52, 53, 54, 55, 56, 57, 58, 59] (by decide +kernel) (by decide +kernel)
set_option maxRecDepth 20000 in
theorem gX12_counted_X12_openStrokes : GoodIn wsX12_counted (wsV RX12 74 RX12 yX12_openStrokes wsX12_openStrokes) := goodIn_app (goodIn_of _ (by decide +kernel)) ggX12_counted_X12_openStrokes
set_option maxRecDepth 20000 in
theorem ggX12_counted_X12_letters : GoodIn wsX12_counted wsX12_letters := goodIn_r _ [18, 1, 12, 13, 6, 14, 46, 47, 48, 49, 50, 51, 52, 53, 54, 55, 56, 57, 58, 59] (by decide +kernel) (by decide +kernel)
set_option maxRecDepth 20000 in
theorem gX12_counted_X12_letters : GoodIn wsX12_counted (wsV RX12 177 RX12 yX12_letters wsX12_letters) := goodIn_app (goodIn_of _ (by decide +kernel)) ggX12_counted_X12_letters
set_option maxRecDepth 20000 in
theorem ggX12_counted_X12_madeBy : GoodIn wsX12_counted wsX12_madeBy := goodIn_r _ [22, 1, 12, 13, 6, 14, 46, 47, 48, 49, 50, 51, 52, 53, 54, 55, 56, 57, 58, 59] (by decide +kernel) (by decide +kernel)
set_option maxRecDepth 20000 in
theorem gX12_counted_X12_madeBy : GoodIn wsX12_counted (wsV RX12 102 RX12 yX12_madeBy wsX12_madeBy) := goodIn_app (goodIn_of _ (by decide +kernel)) ggX12_counted_X12_madeBy
set_option maxRecDepth 20000 in
theorem ggX12_counted_X12_clashes : GoodIn wsX12_counted wsX12_clashes := goodIn_r _ [26, 1, 27, 28, 29, 6, 30, 31, 32, 33, 34, 35, 36, 37, 38, 39, 40, 41, 42, 43, 44, 45, 46, 47, 48, 49, 50, 51, 52, 53, 54, 55, 56, 57, 58, 59] (by decide +kernel) (by decide +kernel)
set_option maxRecDepth 20000 in
theorem gX12_counted_X12_clashes : GoodIn wsX12_counted (wsV RX12 180 RX12 yX12_clashes wsX12_clashes) := goodIn_app (goodIn_of _ (by decide +kernel)) ggX12_counted_X12_clashes
theorem dX12_counted_0 : decode cX12_counted 0 = .ok (.iload_n 1, 1) := by decide +kernel
theorem dX12_counted_1 : decode cX12_counted 1 = .ok (.tableswitch 115 0 8 #[51, 60, 69, 78, 83, 90, 99, 104, 110], 51) := by decide +kernel
theorem dX12_counted_52 : decode cX12_counted 52 = .ok (.aload_n 0, 1) := by decide +kernel
theorem dX12_counted_53 : decode cX12_counted 53 = .ok (.getfield 7, 3) := by decide +kernel
theorem dX12_counted_56 : decode cX12_counted 56 = .ok (.sipush 337, 3) := by decide +kernel
theorem dX12_counted_59 : decode cX12_counted 59 = .ok (.iaload, 1) := by decide +kernel
theorem dX12_counted_60 : decode cX12_counted 60 = .ok (.ireturn, 1) := by decide +kernel
theorem dX12_counted_61 : decode cX12_counted 61 = .ok (.aload_n 0, 1) := by decide +kernel
theorem dX12_counted_62 : decode cX12_counted 62 = .ok (.getfield 7, 3) := by decide +kernel
theorem dX12_counted_65 : decode cX12_counted 65 = .ok (.sipush 399, 3) := by decide +kernel
theorem dX12_counted_68 : decode cX12_counted 68 = .ok (.iaload, 1) := by decide +kernel
theorem dX12_counted_69 : decode cX12_counted 69 = .ok (.ireturn, 1) := by decide +kernel
theorem dX12_counted_70 : decode cX12_counted 70 = .ok (.aload_n 0, 1) := by decide +kernel
theorem dX12_counted_71 : decode cX12_counted 71 = .ok (.getfield 7, 3) := by decide +kernel
theorem dX12_counted_74 : decode cX12_counted 74 = .ok (.sipush 1315, 3) := by decide +kernel
theorem dX12_counted_77 : decode cX12_counted 77 = .ok (.iaload, 1) := by decide +kernel
theorem dX12_counted_78 : decode cX12_counted 78 = .ok (.ireturn, 1) := by decide +kernel
theorem dX12_counted_79 : decode cX12_counted 79 = .ok (.aload_n 0, 1) := by decide +kernel
theorem dX12_counted_80 : decode cX12_counted 80 = .ok (.invokevirtual 74, 3) := by decide +kernel
theorem dX12_counted_83 : decode cX12_counted 83 = .ok (.ireturn, 1) := by decide +kernel
theorem dX12_counted_84 : decode cX12_counted 84 = .ok (.aload_n 0, 1) := by decide +kernel
theorem dX12_counted_85 : decode cX12_counted 85 = .ok (.getfield 7, 3) := by decide +kernel
theorem dX12_counted_88 : decode cX12_counted 88 = .ok (.iconst 0, 1) := by decide +kernel
theorem dX12_counted_89 : decode cX12_counted 89 = .ok (.iaload, 1) := by decide +kernel
theorem dX12_counted_90 : decode cX12_counted 90 = .ok (.ireturn, 1) := by decide +kernel
theorem dX12_counted_91 : decode cX12_counted 91 = .ok (.aload_n 0, 1) := by decide +kernel
theorem dX12_counted_92 : decode cX12_counted 92 = .ok (.getfield 7, 3) := by decide +kernel
theorem dX12_counted_95 : decode cX12_counted 95 = .ok (.sipush 1316, 3) := by decide +kernel
theorem dX12_counted_98 : decode cX12_counted 98 = .ok (.iaload, 1) := by decide +kernel
theorem dX12_counted_99 : decode cX12_counted 99 = .ok (.ireturn, 1) := by decide +kernel
theorem dX12_counted_100 : decode cX12_counted 100 = .ok (.aload_n 0, 1) := by decide +kernel
theorem dX12_counted_101 : decode cX12_counted 101 = .ok (.invokevirtual 177, 3) := by decide +kernel
theorem dX12_counted_104 : decode cX12_counted 104 = .ok (.ireturn, 1) := by decide +kernel
theorem dX12_counted_105 : decode cX12_counted 105 = .ok (.aload_n 0, 1) := by decide +kernel
theorem dX12_counted_106 : decode cX12_counted 106 = .ok (.iconst (-1), 1) := by decide +kernel
theorem dX12_counted_107 : decode cX12_counted 107 = .ok (.invokevirtual 102, 3) := by decide +kernel
theorem dX12_counted_110 : decode cX12_counted 110 = .ok (.ireturn, 1) := by decide +kernel
theorem dX12_counted_111 : decode cX12_counted 111 = .ok (.aload_n 0, 1) := by decide +kernel
theorem dX12_counted_112 : decode cX12_counted 112 = .ok (.invokevirtual 180, 3) := by decide +kernel
theorem dX12_counted_115 : decode cX12_counted 115 = .ok (.ireturn, 1) := by decide +kernel
theorem dX12_counted_116 : decode cX12_counted 116 = .ok (.aload_n 0, 1) := by decide +kernel
theorem dX12_counted_117 : decode cX12_counted 117 = .ok (.getfield 80, 3) := by decide +kernel
theorem dX12_counted_120 : decode cX12_counted 120 = .ok (.ireturn, 1) := by decide +kernel
set_option maxRecDepth 20000 in
theorem ggX12_count_X12_within : GoodIn wsX12_count wsX12_within := goodIn_r _ [5] (by decide +kernel) (by decide +kernel)
set_option maxRecDepth 20000 in
theorem gX12_count_X12_within : GoodIn wsX12_count (va_wsS RX12 35 yX12_within wsX12_within) := goodIn_app (goodIn_of _ (by decide +kernel)) ggX12_count_X12_within
set_option maxRecDepth 20000 in
theorem ggX12_count_X12_counted : GoodIn wsX12_count wsX12_counted := goodIn_r _ [9, 10, 11, 12, 13, 14, 4, 15, 16, 17, 18, 19, 20, 21, 22, 23, 24, 25, 26, 27, 28, 29, 30, 31, 32, 33, 34, 35, 36, 37, 38, 39, 40, 41, 42, 43, 44, 45, 46, 47, 48, 49, 50, 51, 52, 53, 54, 55, 56, 57, 58, 59, 60, 61, 62, 63, 64, 65, 66, 67] (by decide +kernel) (by decide +kernel)
set_option maxRecDepth 20000 in
theorem gX12_count_X12_counted : GoodIn wsX12_count (wsV RX12 183 RX12 yX12_counted wsX12_counted) := goodIn_app (goodIn_of _ (by decide +kernel)) ggX12_count_X12_counted
theorem dX12_count_0 : decode cX12_count 0 = .ok (.aload_n 0, 1) := by decide +kernel
theorem dX12_count_1 : decode cX12_count 1 = .ok (.iload_n 1, 1) := by decide +kernel
theorem dX12_count_2 : decode cX12_count 2 = .ok (.iconst 0, 1) := by decide +kernel
theorem dX12_count_3 : decode cX12_count 3 = .ok (.bipush 9, 2) := by decide +kernel
theorem dX12_count_5 : decode cX12_count 5 = .ok (.invokestatic 35, 3) := by decide +kernel
theorem dX12_count_8 : decode cX12_count 8 = .ok (.ifCond .eq 7, 3) := by decide +kernel
theorem dX12_count_11 : decode cX12_count 11 = .ok (.iconst 0, 1) := by decide +kernel
theorem dX12_count_12 : decode cX12_count 12 = .ok (.goto 4, 3) := by decide +kernel
theorem dX12_count_15 : decode cX12_count 15 = .ok (.iconst 1, 1) := by decide +kernel
theorem dX12_count_16 : decode cX12_count 16 = .ok (.putfield 31, 3) := by decide +kernel
theorem dX12_count_19 : decode cX12_count 19 = .ok (.aload_n 0, 1) := by decide +kernel
theorem dX12_count_20 : decode cX12_count 20 = .ok (.getfield 31, 3) := by decide +kernel
theorem dX12_count_23 : decode cX12_count 23 = .ok (.ifCond .le 7, 3) := by decide +kernel
theorem dX12_count_26 : decode cX12_count 26 = .ok (.iconst 0, 1) := by decide +kernel
theorem dX12_count_27 : decode cX12_count 27 = .ok (.goto 8, 3) := by decide +kernel
theorem dX12_count_30 : decode cX12_count 30 = .ok (.aload_n 0, 1) := by decide +kernel
theorem dX12_count_31 : decode cX12_count 31 = .ok (.iload_n 1, 1) := by decide +kernel
theorem dX12_count_32 : decode cX12_count 32 = .ok (.invokevirtual 183, 3) := by decide +kernel
theorem dX12_count_35 : decode cX12_count 35 = .ok (.ireturn, 1) := by decide +kernel
set_option maxRecDepth 20000 in
theorem ggX12_strokeAnswer_X12_letters : GoodIn wsX12_strokeAnswer wsX12_letters := goodIn_r _ [6, 1, 7, 8, 5, 9, 10, 11, 12, 13, 14, 15, 16, 17, 18, 19, 20, 21, 22, 23] (by decide +kernel) (by decide +kernel)
set_option maxRecDepth 20000 in
theorem gX12_strokeAnswer_X12_letters : GoodIn wsX12_strokeAnswer (wsV RX12 177 RX12 yX12_letters wsX12_letters) := goodIn_app (goodIn_of _ (by decide +kernel)) ggX12_strokeAnswer_X12_letters
set_option maxRecDepth 20000 in
theorem ggX12_strokeAnswer_X12_itemAt : GoodIn wsX12_strokeAnswer wsX12_itemAt := goodIn_r _ [9] (by decide +kernel) (by decide +kernel)
set_option maxRecDepth 20000 in
theorem gX12_strokeAnswer_X12_itemAt : GoodIn wsX12_strokeAnswer (va_wsS RX12 57 yX12_itemAt wsX12_itemAt) := goodIn_app (goodIn_of _ (by decide +kernel)) ggX12_strokeAnswer_X12_itemAt
theorem dX12_strokeAnswer_0 : decode cX12_strokeAnswer 0 = .ok (.iload_n 1, 1) := by decide +kernel
theorem dX12_strokeAnswer_1 : decode cX12_strokeAnswer 1 = .ok (.ifCond .ne 14, 3) := by decide +kernel
theorem dX12_strokeAnswer_4 : decode cX12_strokeAnswer 4 = .ok (.aload_n 0, 1) := by decide +kernel
theorem dX12_strokeAnswer_5 : decode cX12_strokeAnswer 5 = .ok (.getfield 7, 3) := by decide +kernel
theorem dX12_strokeAnswer_8 : decode cX12_strokeAnswer 8 = .ok (.sipush 399, 3) := by decide +kernel
theorem dX12_strokeAnswer_11 : decode cX12_strokeAnswer 11 = .ok (.iaload, 1) := by decide +kernel
theorem dX12_strokeAnswer_12 : decode cX12_strokeAnswer 12 = .ok (.goto 49, 3) := by decide +kernel
theorem dX12_strokeAnswer_15 : decode cX12_strokeAnswer 15 = .ok (.iload_n 1, 1) := by decide +kernel
theorem dX12_strokeAnswer_16 : decode cX12_strokeAnswer 16 = .ok (.iconst 1, 1) := by decide +kernel
theorem dX12_strokeAnswer_17 : decode cX12_strokeAnswer 17 = .ok (.if_icmp .ne 14, 3) := by decide +kernel
theorem dX12_strokeAnswer_20 : decode cX12_strokeAnswer 20 = .ok (.aload_n 0, 1) := by decide +kernel
theorem dX12_strokeAnswer_21 : decode cX12_strokeAnswer 21 = .ok (.getfield 7, 3) := by decide +kernel
theorem dX12_strokeAnswer_24 : decode cX12_strokeAnswer 24 = .ok (.sipush 1315, 3) := by decide +kernel
theorem dX12_strokeAnswer_27 : decode cX12_strokeAnswer 27 = .ok (.iaload, 1) := by decide +kernel
theorem dX12_strokeAnswer_28 : decode cX12_strokeAnswer 28 = .ok (.goto 33, 3) := by decide +kernel
theorem dX12_strokeAnswer_31 : decode cX12_strokeAnswer 31 = .ok (.iload_n 1, 1) := by decide +kernel
theorem dX12_strokeAnswer_32 : decode cX12_strokeAnswer 32 = .ok (.iconst 2, 1) := by decide +kernel
theorem dX12_strokeAnswer_33 : decode cX12_strokeAnswer 33 = .ok (.if_icmp .ne 10, 3) := by decide +kernel
theorem dX12_strokeAnswer_36 : decode cX12_strokeAnswer 36 = .ok (.aload_n 0, 1) := by decide +kernel
theorem dX12_strokeAnswer_37 : decode cX12_strokeAnswer 37 = .ok (.invokevirtual 177, 3) := by decide +kernel
theorem dX12_strokeAnswer_40 : decode cX12_strokeAnswer 40 = .ok (.goto 21, 3) := by decide +kernel
theorem dX12_strokeAnswer_43 : decode cX12_strokeAnswer 43 = .ok (.aload_n 0, 1) := by decide +kernel
theorem dX12_strokeAnswer_44 : decode cX12_strokeAnswer 44 = .ok (.getfield 7, 3) := by decide +kernel
theorem dX12_strokeAnswer_47 : decode cX12_strokeAnswer 47 = .ok (.aload_n 0, 1) := by decide +kernel
theorem dX12_strokeAnswer_48 : decode cX12_strokeAnswer 48 = .ok (.getfield 7, 3) := by decide +kernel
theorem dX12_strokeAnswer_51 : decode cX12_strokeAnswer 51 = .ok (.sipush 399, 3) := by decide +kernel
theorem dX12_strokeAnswer_54 : decode cX12_strokeAnswer 54 = .ok (.iaload, 1) := by decide +kernel
theorem dX12_strokeAnswer_55 : decode cX12_strokeAnswer 55 = .ok (.iconst 1, 1) := by decide +kernel
theorem dX12_strokeAnswer_56 : decode cX12_strokeAnswer 56 = .ok (.isub, 1) := by decide +kernel
theorem dX12_strokeAnswer_57 : decode cX12_strokeAnswer 57 = .ok (.invokestatic 57, 3) := by decide +kernel
theorem dX12_strokeAnswer_60 : decode cX12_strokeAnswer 60 = .ok (.iaload, 1) := by decide +kernel
theorem dX12_strokeAnswer_61 : decode cX12_strokeAnswer 61 = .ok (.ireturn, 1) := by decide +kernel
set_option maxRecDepth 20000 in
theorem ggX12_ifStroke_X12_isStroke : GoodIn wsX12_ifStroke wsX12_isStroke := goodIn_r _ [5, 6, 7, 4, 8] (by decide +kernel) (by decide +kernel)
set_option maxRecDepth 20000 in
theorem gX12_ifStroke_X12_isStroke : GoodIn wsX12_ifStroke (va_wsS RX12 86 yX12_isStroke wsX12_isStroke) := goodIn_app (goodIn_of _ (by decide +kernel)) ggX12_ifStroke_X12_isStroke
set_option maxRecDepth 20000 in
theorem ggX12_ifStroke_X12_within : GoodIn wsX12_ifStroke wsX12_within := goodIn_r _ [8] (by decide +kernel) (by decide +kernel)
set_option maxRecDepth 20000 in
theorem gX12_ifStroke_X12_within : GoodIn wsX12_ifStroke (va_wsS RX12 35 yX12_within wsX12_within) := goodIn_app (goodIn_of _ (by decide +kernel)) ggX12_ifStroke_X12_within
set_option maxRecDepth 20000 in
theorem ggX12_ifStroke_X12_keepAside : GoodIn wsX12_ifStroke wsX12_keepAside := goodIn_r _ [12, 13, 14, 66, 67, 68, 69, 70, 71, 72, 73, 74, 75, 76, 77, 78, 79] (by decide +kernel) (by decide +kernel)
set_option maxRecDepth 20000 in
theorem gX12_ifStroke_X12_keepAside : GoodIn wsX12_ifStroke (wsV RX12 146 RX12 yX12_keepAside wsX12_keepAside) := goodIn_app (goodIn_of _ (by decide +kernel)) ggX12_ifStroke_X12_keepAside
set_option maxRecDepth 20000 in
theorem ggX12_ifStroke_X12_addStroke : GoodIn wsX12_ifStroke wsX12_addStroke := goodIn_r _ [18, 14, 19, 20, 21, 4, 22, 23, 24, 25, 26, 27, 28, 29, 30, 31, 32, 33, 34, 35, 36, 37, 38, 39, 40, 41, 42, 43, 44, 45, 46, 47, 48, 49, 50, 51, 52, 53, 66, 67, 68, 69, 70, 71, 72, 73, 74, 75, 76, 77, 78, 79] (by decide +kernel) (by decide +kernel)
set_option maxRecDepth 20000 in
theorem gX12_ifStroke_X12_addStroke : GoodIn wsX12_ifStroke (wsV RX12 92 RX12 yX12_addStroke wsX12_addStroke) := goodIn_app (goodIn_of _ (by decide +kernel)) ggX12_ifStroke_X12_addStroke
set_option maxRecDepth 20000 in
theorem ggX12_ifStroke_X12_strokeAnswer : GoodIn wsX12_ifStroke wsX12_strokeAnswer := goodIn_r _ [57, 14, 58, 59, 60, 4, 61, 29, 30, 31, 66, 67, 68, 69, 70, 71, 72, 73, 74, 75, 76, 77, 78, 79] (by decide +kernel) (by decide +kernel)
set_option maxRecDepth 20000 in
theorem gX12_ifStroke_X12_strokeAnswer : GoodIn wsX12_ifStroke (wsV RX12 186 RX12 yX12_strokeAnswer wsX12_strokeAnswer) := goodIn_app (goodIn_of _ (by decide +kernel)) ggX12_ifStroke_X12_strokeAnswer
set_option maxRecDepth 20000 in
theorem ggX12_ifStroke_X12_takeAside : GoodIn wsX12_ifStroke wsX12_takeAside := goodIn_r _ [65, 14, 13, 66, 67, 68, 69, 70, 71, 72, 73, 74, 75, 76, 77, 78, 79] (by decide +kernel) (by decide +kernel)
set_option maxRecDepth 20000 in
theorem gX12_ifStroke_X12_takeAside : GoodIn wsX12_ifStroke (wsV RX12 152 RX12 yX12_takeAside wsX12_takeAside) := goodIn_app (goodIn_of _ (by decide +kernel)) ggX12_ifStroke_X12_takeAside
theorem dX12_ifStroke_0 : decode cX12_ifStroke 0 = .ok (.aload_n 0, 1) := by decide +kernel
theorem dX12_ifStroke_1 : decode cX12_ifStroke 1 = .ok (.iload_n 1, 1) := by decide +kernel
theorem dX12_ifStroke_2 : decode cX12_ifStroke 2 = .ok (.invokestatic 86, 3) := by decide +kernel
theorem dX12_ifStroke_5 : decode cX12_ifStroke 5 = .ok (.ifCond .eq 16, 3) := by decide +kernel
theorem dX12_ifStroke_8 : decode cX12_ifStroke 8 = .ok (.iload_n 2, 1) := by decide +kernel
theorem dX12_ifStroke_9 : decode cX12_ifStroke 9 = .ok (.iconst 0, 1) := by decide +kernel
theorem dX12_ifStroke_10 : decode cX12_ifStroke 10 = .ok (.iconst 3, 1) := by decide +kernel
theorem dX12_ifStroke_11 : decode cX12_ifStroke 11 = .ok (.invokestatic 35, 3) := by decide +kernel
theorem dX12_ifStroke_14 : decode cX12_ifStroke 14 = .ok (.ifCond .eq 7, 3) := by decide +kernel
theorem dX12_ifStroke_17 : decode cX12_ifStroke 17 = .ok (.iconst 0, 1) := by decide +kernel
theorem dX12_ifStroke_18 : decode cX12_ifStroke 18 = .ok (.goto 4, 3) := by decide +kernel
theorem dX12_ifStroke_21 : decode cX12_ifStroke 21 = .ok (.iconst 1, 1) := by decide +kernel
theorem dX12_ifStroke_22 : decode cX12_ifStroke 22 = .ok (.putfield 31, 3) := by decide +kernel
theorem dX12_ifStroke_25 : decode cX12_ifStroke 25 = .ok (.aload_n 0, 1) := by decide +kernel
theorem dX12_ifStroke_26 : decode cX12_ifStroke 26 = .ok (.getfield 31, 3) := by decide +kernel
theorem dX12_ifStroke_29 : decode cX12_ifStroke 29 = .ok (.ifCond .le 5, 3) := by decide +kernel
theorem dX12_ifStroke_32 : decode cX12_ifStroke 32 = .ok (.iconst 0, 1) := by decide +kernel
theorem dX12_ifStroke_33 : decode cX12_ifStroke 33 = .ok (.ireturn, 1) := by decide +kernel
theorem dX12_ifStroke_34 : decode cX12_ifStroke 34 = .ok (.aload_n 0, 1) := by decide +kernel
theorem dX12_ifStroke_35 : decode cX12_ifStroke 35 = .ok (.invokevirtual 146, 3) := by decide +kernel
theorem dX12_ifStroke_38 : decode cX12_ifStroke 38 = .ok (.aload_n 0, 1) := by decide +kernel
theorem dX12_ifStroke_39 : decode cX12_ifStroke 39 = .ok (.iload_n 1, 1) := by decide +kernel
theorem dX12_ifStroke_40 : decode cX12_ifStroke 40 = .ok (.invokevirtual 92, 3) := by decide +kernel
theorem dX12_ifStroke_43 : decode cX12_ifStroke 43 = .ok (.aload_n 0, 1) := by decide +kernel
theorem dX12_ifStroke_44 : decode cX12_ifStroke 44 = .ok (.iload_n 2, 1) := by decide +kernel
theorem dX12_ifStroke_45 : decode cX12_ifStroke 45 = .ok (.invokevirtual 186, 3) := by decide +kernel
theorem dX12_ifStroke_48 : decode cX12_ifStroke 48 = .ok (.istore_n 3, 1) := by decide +kernel
theorem dX12_ifStroke_49 : decode cX12_ifStroke 49 = .ok (.aload_n 0, 1) := by decide +kernel
theorem dX12_ifStroke_50 : decode cX12_ifStroke 50 = .ok (.invokevirtual 152, 3) := by decide +kernel
theorem dX12_ifStroke_53 : decode cX12_ifStroke 53 = .ok (.iload_n 3, 1) := by decide +kernel
theorem dX12_ifStroke_54 : decode cX12_ifStroke 54 = .ok (.ireturn, 1) := by decide +kernel
set_option maxRecDepth 20000 in
theorem ggX12_ifRemoved_X12_isEntry : GoodIn wsX12_ifRemoved wsX12_isEntry := goodIn_r _ [7, 2, 8, 9, 6, 10, 59, 60, 61, 62, 63, 64, 65, 66, 67, 68, 69, 70, 71, 72] (by decide +kernel) (by decide +kernel)
set_option maxRecDepth 20000 in
theorem gX12_ifRemoved_X12_isEntry : GoodIn wsX12_ifRemoved (wsV RX12 96 RX12 yX12_isEntry wsX12_isEntry) := goodIn_app (goodIn_of _ (by decide +kernel)) ggX12_ifRemoved_X12_isEntry
set_option maxRecDepth 20000 in
theorem ggX12_ifRemoved_X12_keepAside : GoodIn wsX12_ifRemoved wsX12_keepAside := goodIn_r _ [14, 15, 2, 59, 60, 61, 62, 63, 64, 65, 66, 67, 68, 69, 70, 71, 72] (by decide +kernel) (by decide +kernel)
set_option maxRecDepth 20000 in
theorem gX12_ifRemoved_X12_keepAside : GoodIn wsX12_ifRemoved (wsV RX12 146 RX12 yX12_keepAside wsX12_keepAside) := goodIn_app (goodIn_of _ (by decide +kernel)) ggX12_ifRemoved_X12_keepAside
set_option maxRecDepth 20000 in
theorem ggX12_ifRemoved_X12_drop : GoodIn wsX12_ifRemoved wsX12_drop := goodIn_r _ [19, 2, 20, 21, 6, 22, 23, 24, 25, 26, 27, 28, 29, 30, 31, 32, 33, 34, 35, 36, 37, 38, 39, 40, 41, 42, 43, 44, 45, 46, 47, 48, 49, 50, 51, 52, 53, 54, 59, 60, 61, 62, 63, 64, 65, 66, 67, 68, 69, 70, 71, 72] (by decide +kernel) (by decide +kernel)
set_option maxRecDepth 20000 in
theorem gX12_ifRemoved_X12_drop : GoodIn wsX12_ifRemoved (wsV RX12 99 RX12 yX12_drop wsX12_drop) := goodIn_app (goodIn_of _ (by decide +kernel)) ggX12_ifRemoved_X12_drop
set_option maxRecDepth 20000 in
theorem ggX12_ifRemoved_X12_takeAside : GoodIn wsX12_ifRemoved wsX12_takeAside := goodIn_r _ [58, 2, 15, 59, 60, 61, 62, 63, 64, 65, 66, 67, 68, 69, 70, 71, 72] (by decide +kernel) (by decide +kernel)
set_option maxRecDepth 20000 in
theorem gX12_ifRemoved_X12_takeAside : GoodIn wsX12_ifRemoved (wsV RX12 152 RX12 yX12_takeAside wsX12_takeAside) := goodIn_app (goodIn_of _ (by decide +kernel)) ggX12_ifRemoved_X12_takeAside
theorem dX12_ifRemoved_0 : decode cX12_ifRemoved 0 = .ok (.aload_n 0, 1) := by decide +kernel
theorem dX12_ifRemoved_1 : decode cX12_ifRemoved 1 = .ok (.aload_n 0, 1) := by decide +kernel
theorem dX12_ifRemoved_2 : decode cX12_ifRemoved 2 = .ok (.iload_n 1, 1) := by decide +kernel
theorem dX12_ifRemoved_3 : decode cX12_ifRemoved 3 = .ok (.invokevirtual 96, 3) := by decide +kernel
theorem dX12_ifRemoved_6 : decode cX12_ifRemoved 6 = .ok (.ifCond .eq 7, 3) := by decide +kernel
theorem dX12_ifRemoved_9 : decode cX12_ifRemoved 9 = .ok (.iconst 0, 1) := by decide +kernel
theorem dX12_ifRemoved_10 : decode cX12_ifRemoved 10 = .ok (.goto 4, 3) := by decide +kernel
theorem dX12_ifRemoved_13 : decode cX12_ifRemoved 13 = .ok (.iconst 1, 1) := by decide +kernel
theorem dX12_ifRemoved_14 : decode cX12_ifRemoved 14 = .ok (.putfield 31, 3) := by decide +kernel
theorem dX12_ifRemoved_17 : decode cX12_ifRemoved 17 = .ok (.aload_n 0, 1) := by decide +kernel
theorem dX12_ifRemoved_18 : decode cX12_ifRemoved 18 = .ok (.getfield 31, 3) := by decide +kernel
theorem dX12_ifRemoved_21 : decode cX12_ifRemoved 21 = .ok (.ifCond .le 5, 3) := by decide +kernel
theorem dX12_ifRemoved_24 : decode cX12_ifRemoved 24 = .ok (.iconst 0, 1) := by decide +kernel
theorem dX12_ifRemoved_25 : decode cX12_ifRemoved 25 = .ok (.ireturn, 1) := by decide +kernel
theorem dX12_ifRemoved_26 : decode cX12_ifRemoved 26 = .ok (.aload_n 0, 1) := by decide +kernel
theorem dX12_ifRemoved_27 : decode cX12_ifRemoved 27 = .ok (.invokevirtual 146, 3) := by decide +kernel
theorem dX12_ifRemoved_30 : decode cX12_ifRemoved 30 = .ok (.aload_n 0, 1) := by decide +kernel
theorem dX12_ifRemoved_31 : decode cX12_ifRemoved 31 = .ok (.iload_n 1, 1) := by decide +kernel
theorem dX12_ifRemoved_32 : decode cX12_ifRemoved 32 = .ok (.invokevirtual 99, 3) := by decide +kernel
theorem dX12_ifRemoved_35 : decode cX12_ifRemoved 35 = .ok (.aload_n 0, 1) := by decide +kernel
theorem dX12_ifRemoved_36 : decode cX12_ifRemoved 36 = .ok (.getfield 7, 3) := by decide +kernel
theorem dX12_ifRemoved_39 : decode cX12_ifRemoved 39 = .ok (.sipush 399, 3) := by decide +kernel
theorem dX12_ifRemoved_42 : decode cX12_ifRemoved 42 = .ok (.iaload, 1) := by decide +kernel
theorem dX12_ifRemoved_43 : decode cX12_ifRemoved 43 = .ok (.aload_n 0, 1) := by decide +kernel
theorem dX12_ifRemoved_44 : decode cX12_ifRemoved 44 = .ok (.getfield 7, 3) := by decide +kernel
theorem dX12_ifRemoved_47 : decode cX12_ifRemoved 47 = .ok (.sipush 1315, 3) := by decide +kernel
theorem dX12_ifRemoved_50 : decode cX12_ifRemoved 50 = .ok (.iaload, 1) := by decide +kernel
theorem dX12_ifRemoved_51 : decode cX12_ifRemoved 51 = .ok (.isub, 1) := by decide +kernel
theorem dX12_ifRemoved_52 : decode cX12_ifRemoved 52 = .ok (.istore_n 2, 1) := by decide +kernel
theorem dX12_ifRemoved_53 : decode cX12_ifRemoved 53 = .ok (.aload_n 0, 1) := by decide +kernel
theorem dX12_ifRemoved_54 : decode cX12_ifRemoved 54 = .ok (.invokevirtual 152, 3) := by decide +kernel
theorem dX12_ifRemoved_57 : decode cX12_ifRemoved 57 = .ok (.iload_n 2, 1) := by decide +kernel
theorem dX12_ifRemoved_58 : decode cX12_ifRemoved 58 = .ok (.ireturn, 1) := by decide +kernel
set_option maxRecDepth 20000 in
theorem ggX12_isWordAt_X12_entryAt : GoodIn wsX12_isWordAt wsX12_entryAt := goodIn_r _ [7] (by decide +kernel) (by decide +kernel)
set_option maxRecDepth 20000 in
theorem gX12_isWordAt_X12_entryAt : GoodIn wsX12_isWordAt (va_wsS RX12 39 yX12_entryAt wsX12_entryAt) := goodIn_app (goodIn_of _ (by decide +kernel)) ggX12_isWordAt_X12_entryAt
theorem dX12_isWordAt_0 : decode cX12_isWordAt 0 = .ok (.aload_n 0, 1) := by decide +kernel
theorem dX12_isWordAt_1 : decode cX12_isWordAt 1 = .ok (.getfield 7, 3) := by decide +kernel
theorem dX12_isWordAt_4 : decode cX12_isWordAt 4 = .ok (.iload_n 1, 1) := by decide +kernel
theorem dX12_isWordAt_5 : decode cX12_isWordAt 5 = .ok (.invokestatic 39, 3) := by decide +kernel
theorem dX12_isWordAt_8 : decode cX12_isWordAt 8 = .ok (.iconst 5, 1) := by decide +kernel
theorem dX12_isWordAt_9 : decode cX12_isWordAt 9 = .ok (.iadd, 1) := by decide +kernel
theorem dX12_isWordAt_10 : decode cX12_isWordAt 10 = .ok (.iaload, 1) := by decide +kernel
theorem dX12_isWordAt_11 : decode cX12_isWordAt 11 = .ok (.istore_n 3, 1) := by decide +kernel
theorem dX12_isWordAt_12 : decode cX12_isWordAt 12 = .ok (.iload_n 2, 1) := by decide +kernel
theorem dX12_isWordAt_13 : decode cX12_isWordAt 13 = .ok (.iload_n 3, 1) := by decide +kernel
theorem dX12_isWordAt_14 : decode cX12_isWordAt 14 = .ok (.iadd, 1) := by decide +kernel
theorem dX12_isWordAt_15 : decode cX12_isWordAt 15 = .ok (.aload_n 0, 1) := by decide +kernel
theorem dX12_isWordAt_16 : decode cX12_isWordAt 16 = .ok (.getfield 121, 3) := by decide +kernel
theorem dX12_isWordAt_19 : decode cX12_isWordAt 19 = .ok (.if_icmp .gt 7, 3) := by decide +kernel
theorem dX12_isWordAt_22 : decode cX12_isWordAt 22 = .ok (.iconst 1, 1) := by decide +kernel
theorem dX12_isWordAt_23 : decode cX12_isWordAt 23 = .ok (.goto 4, 3) := by decide +kernel
theorem dX12_isWordAt_26 : decode cX12_isWordAt 26 = .ok (.iconst 0, 1) := by decide +kernel
theorem dX12_isWordAt_27 : decode cX12_isWordAt 27 = .ok (.istore 4, 2) := by decide +kernel
theorem dX12_isWordAt_29 : decode cX12_isWordAt 29 = .ok (.iconst 0, 1) := by decide +kernel
theorem dX12_isWordAt_30 : decode cX12_isWordAt 30 = .ok (.istore 5, 2) := by decide +kernel
theorem dX12_isWordAt_32 : decode cX12_isWordAt 32 = .ok (.iload 5, 2) := by decide +kernel
theorem dX12_isWordAt_34 : decode cX12_isWordAt 34 = .ok (.iload_n 3, 1) := by decide +kernel
theorem dX12_isWordAt_35 : decode cX12_isWordAt 35 = .ok (.if_icmp .ge 48, 3) := by decide +kernel
theorem dX12_isWordAt_38 : decode cX12_isWordAt 38 = .ok (.iload 4, 2) := by decide +kernel
theorem dX12_isWordAt_40 : decode cX12_isWordAt 40 = .ok (.ifCond .eq 43, 3) := by decide +kernel
theorem dX12_isWordAt_43 : decode cX12_isWordAt 43 = .ok (.aload_n 0, 1) := by decide +kernel
theorem dX12_isWordAt_44 : decode cX12_isWordAt 44 = .ok (.getfield 16, 3) := by decide +kernel
theorem dX12_isWordAt_47 : decode cX12_isWordAt 47 = .ok (.iload_n 2, 1) := by decide +kernel
theorem dX12_isWordAt_48 : decode cX12_isWordAt 48 = .ok (.iload 5, 2) := by decide +kernel
theorem dX12_isWordAt_50 : decode cX12_isWordAt 50 = .ok (.iadd, 1) := by decide +kernel
theorem dX12_isWordAt_51 : decode cX12_isWordAt 51 = .ok (.iaload, 1) := by decide +kernel
theorem dX12_isWordAt_52 : decode cX12_isWordAt 52 = .ok (.aload_n 0, 1) := by decide +kernel
theorem dX12_isWordAt_53 : decode cX12_isWordAt 53 = .ok (.getfield 7, 3) := by decide +kernel
theorem dX12_isWordAt_56 : decode cX12_isWordAt 56 = .ok (.iload_n 1, 1) := by decide +kernel
theorem dX12_isWordAt_57 : decode cX12_isWordAt 57 = .ok (.invokestatic 39, 3) := by decide +kernel
theorem dX12_isWordAt_60 : decode cX12_isWordAt 60 = .ok (.bipush 6, 2) := by decide +kernel
theorem dX12_isWordAt_62 : decode cX12_isWordAt 62 = .ok (.iadd, 1) := by decide +kernel
theorem dX12_isWordAt_63 : decode cX12_isWordAt 63 = .ok (.iload 5, 2) := by decide +kernel
theorem dX12_isWordAt_65 : decode cX12_isWordAt 65 = .ok (.iadd, 1) := by decide +kernel
theorem dX12_isWordAt_66 : decode cX12_isWordAt 66 = .ok (.iaload, 1) := by decide +kernel
theorem dX12_isWordAt_67 : decode cX12_isWordAt 67 = .ok (.if_icmp .ne 7, 3) := by decide +kernel
theorem dX12_isWordAt_70 : decode cX12_isWordAt 70 = .ok (.iconst 1, 1) := by decide +kernel
theorem dX12_isWordAt_71 : decode cX12_isWordAt 71 = .ok (.goto 4, 3) := by decide +kernel
theorem dX12_isWordAt_74 : decode cX12_isWordAt 74 = .ok (.iconst 0, 1) := by decide +kernel
theorem dX12_isWordAt_75 : decode cX12_isWordAt 75 = .ok (.istore 4, 2) := by decide +kernel
theorem dX12_isWordAt_77 : decode cX12_isWordAt 77 = .ok (.iinc 5 1, 3) := by decide +kernel
theorem dX12_isWordAt_80 : decode cX12_isWordAt 80 = .ok (.goto (-48), 3) := by decide +kernel
theorem dX12_isWordAt_83 : decode cX12_isWordAt 83 = .ok (.iload 4, 2) := by decide +kernel
theorem dX12_isWordAt_85 : decode cX12_isWordAt 85 = .ok (.ireturn, 1) := by decide +kernel
set_option maxRecDepth 20000 in
theorem ggX12_strokesWith_X12_isWordAt : GoodIn wsX12_strokesWith wsX12_isWordAt := goodIn_r _ [7, 2, 8, 9, 10, 11, 6, 12, 13, 14, 15, 16, 17, 18, 19, 20, 21, 22, 23, 24, 25, 26] (by decide +kernel) (by decide +kernel)
set_option maxRecDepth 20000 in
theorem gX12_strokesWith_X12_isWordAt : GoodIn wsX12_strokesWith (wsV RX12 189 RX12 yX12_isWordAt wsX12_isWordAt) := goodIn_app (goodIn_of _ (by decide +kernel)) ggX12_strokesWith_X12_isWordAt
set_option maxRecDepth 20000 in
theorem ggX12_strokesWith_X12_entryAt : GoodIn wsX12_strokesWith wsX12_entryAt := goodIn_r _ [12] (by decide +kernel) (by decide +kernel)
set_option maxRecDepth 20000 in
theorem gX12_strokesWith_X12_entryAt : GoodIn wsX12_strokesWith (va_wsS RX12 39 yX12_entryAt wsX12_entryAt) := goodIn_app (goodIn_of _ (by decide +kernel)) ggX12_strokesWith_X12_entryAt
theorem dX12_strokesWith_0 : decode cX12_strokesWith 0 = .ok (.aload_n 0, 1) := by decide +kernel
theorem dX12_strokesWith_1 : decode cX12_strokesWith 1 = .ok (.iload_n 1, 1) := by decide +kernel
theorem dX12_strokesWith_2 : decode cX12_strokesWith 2 = .ok (.iload_n 2, 1) := by decide +kernel
theorem dX12_strokesWith_3 : decode cX12_strokesWith 3 = .ok (.invokevirtual 189, 3) := by decide +kernel
theorem dX12_strokesWith_6 : decode cX12_strokesWith 6 = .ok (.ifCond .eq 24, 3) := by decide +kernel
theorem dX12_strokesWith_9 : decode cX12_strokesWith 9 = .ok (.aload_n 0, 1) := by decide +kernel
theorem dX12_strokesWith_10 : decode cX12_strokesWith 10 = .ok (.getfield 28, 3) := by decide +kernel
theorem dX12_strokesWith_13 : decode cX12_strokesWith 13 = .ok (.iload_n 2, 1) := by decide +kernel
theorem dX12_strokesWith_14 : decode cX12_strokesWith 14 = .ok (.aload_n 0, 1) := by decide +kernel
theorem dX12_strokesWith_15 : decode cX12_strokesWith 15 = .ok (.getfield 7, 3) := by decide +kernel
theorem dX12_strokesWith_18 : decode cX12_strokesWith 18 = .ok (.iload_n 1, 1) := by decide +kernel
theorem dX12_strokesWith_19 : decode cX12_strokesWith 19 = .ok (.invokestatic 39, 3) := by decide +kernel
theorem dX12_strokesWith_22 : decode cX12_strokesWith 22 = .ok (.iconst 5, 1) := by decide +kernel
theorem dX12_strokesWith_23 : decode cX12_strokesWith 23 = .ok (.iadd, 1) := by decide +kernel
theorem dX12_strokesWith_24 : decode cX12_strokesWith 24 = .ok (.iaload, 1) := by decide +kernel
theorem dX12_strokesWith_25 : decode cX12_strokesWith 25 = .ok (.iadd, 1) := by decide +kernel
theorem dX12_strokesWith_26 : decode cX12_strokesWith 26 = .ok (.iaload, 1) := by decide +kernel
theorem dX12_strokesWith_27 : decode cX12_strokesWith 27 = .ok (.goto 4, 3) := by decide +kernel
theorem dX12_strokesWith_30 : decode cX12_strokesWith 30 = .ok (.iconst (-1), 1) := by decide +kernel
theorem dX12_strokesWith_31 : decode cX12_strokesWith 31 = .ok (.istore_n 3, 1) := by decide +kernel
theorem dX12_strokesWith_32 : decode cX12_strokesWith 32 = .ok (.iload_n 3, 1) := by decide +kernel
theorem dX12_strokesWith_33 : decode cX12_strokesWith 33 = .ok (.iconst (-1), 1) := by decide +kernel
theorem dX12_strokesWith_34 : decode cX12_strokesWith 34 = .ok (.if_icmp .ne 7, 3) := by decide +kernel
theorem dX12_strokesWith_37 : decode cX12_strokesWith 37 = .ok (.iconst (-1), 1) := by decide +kernel
theorem dX12_strokesWith_38 : decode cX12_strokesWith 38 = .ok (.goto 14, 3) := by decide +kernel
theorem dX12_strokesWith_41 : decode cX12_strokesWith 41 = .ok (.iload_n 3, 1) := by decide +kernel
theorem dX12_strokesWith_42 : decode cX12_strokesWith 42 = .ok (.aload_n 0, 1) := by decide +kernel
theorem dX12_strokesWith_43 : decode cX12_strokesWith 43 = .ok (.getfield 7, 3) := by decide +kernel
theorem dX12_strokesWith_46 : decode cX12_strokesWith 46 = .ok (.iload_n 1, 1) := by decide +kernel
theorem dX12_strokesWith_47 : decode cX12_strokesWith 47 = .ok (.invokestatic 39, 3) := by decide +kernel
theorem dX12_strokesWith_50 : decode cX12_strokesWith 50 = .ok (.iaload, 1) := by decide +kernel
theorem dX12_strokesWith_51 : decode cX12_strokesWith 51 = .ok (.iadd, 1) := by decide +kernel
theorem dX12_strokesWith_52 : decode cX12_strokesWith 52 = .ok (.ireturn, 1) := by decide +kernel
set_option maxRecDepth 20000 in
theorem ggX12_fewestNow_X12_strokesWith : GoodIn wsX12_fewestNow wsX12_strokesWith := goodIn_r _ [8, 1, 3, 9, 10, 11, 7, 12, 2, 13, 14, 15, 16, 17, 18, 19, 20, 21, 22, 23, 24, 25, 26, 27, 28, 29, 30] (by decide +kernel) (by decide +kernel)
set_option maxRecDepth 20000 in
theorem gX12_fewestNow_X12_strokesWith : GoodIn wsX12_fewestNow (wsV RX12 192 RX12 yX12_strokesWith wsX12_strokesWith) := goodIn_app (goodIn_of _ (by decide +kernel)) ggX12_fewestNow_X12_strokesWith
theorem dX12_fewestNow_0 : decode cX12_fewestNow 0 = .ok (.aload_n 0, 1) := by decide +kernel
theorem dX12_fewestNow_1 : decode cX12_fewestNow 1 = .ok (.getfield 28, 3) := by decide +kernel
theorem dX12_fewestNow_4 : decode cX12_fewestNow 4 = .ok (.aload_n 0, 1) := by decide +kernel
theorem dX12_fewestNow_5 : decode cX12_fewestNow 5 = .ok (.getfield 121, 3) := by decide +kernel
theorem dX12_fewestNow_8 : decode cX12_fewestNow 8 = .ok (.iconst 0, 1) := by decide +kernel
theorem dX12_fewestNow_9 : decode cX12_fewestNow 9 = .ok (.iastore, 1) := by decide +kernel
theorem dX12_fewestNow_10 : decode cX12_fewestNow 10 = .ok (.aload_n 0, 1) := by decide +kernel
theorem dX12_fewestNow_11 : decode cX12_fewestNow 11 = .ok (.getfield 121, 3) := by decide +kernel
theorem dX12_fewestNow_14 : decode cX12_fewestNow 14 = .ok (.iconst 1, 1) := by decide +kernel
theorem dX12_fewestNow_15 : decode cX12_fewestNow 15 = .ok (.isub, 1) := by decide +kernel
theorem dX12_fewestNow_16 : decode cX12_fewestNow 16 = .ok (.istore_n 1, 1) := by decide +kernel
theorem dX12_fewestNow_17 : decode cX12_fewestNow 17 = .ok (.iload_n 1, 1) := by decide +kernel
theorem dX12_fewestNow_18 : decode cX12_fewestNow 18 = .ok (.ifCond .lt 82, 3) := by decide +kernel
theorem dX12_fewestNow_21 : decode cX12_fewestNow 21 = .ok (.aload_n 0, 1) := by decide +kernel
theorem dX12_fewestNow_22 : decode cX12_fewestNow 22 = .ok (.getfield 28, 3) := by decide +kernel
theorem dX12_fewestNow_25 : decode cX12_fewestNow 25 = .ok (.iload_n 1, 1) := by decide +kernel
theorem dX12_fewestNow_26 : decode cX12_fewestNow 26 = .ok (.iconst (-1), 1) := by decide +kernel
theorem dX12_fewestNow_27 : decode cX12_fewestNow 27 = .ok (.iastore, 1) := by decide +kernel
theorem dX12_fewestNow_28 : decode cX12_fewestNow 28 = .ok (.iconst 0, 1) := by decide +kernel
