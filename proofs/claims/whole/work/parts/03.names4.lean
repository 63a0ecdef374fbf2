theorem dX12_fewestNow_29 : decode cX12_fewestNow 29 = .ok (.istore_n 2, 1) := by decide +kernel
theorem dX12_fewestNow_30 : decode cX12_fewestNow 30 = .ok (.iload_n 2, 1) := by decide +kernel
theorem dX12_fewestNow_31 : decode cX12_fewestNow 31 = .ok (.aload_n 0, 1) := by decide +kernel
theorem dX12_fewestNow_32 : decode cX12_fewestNow 32 = .ok (.getfield 7, 3) := by decide +kernel
theorem dX12_fewestNow_35 : decode cX12_fewestNow 35 = .ok (.iconst 0, 1) := by decide +kernel
theorem dX12_fewestNow_36 : decode cX12_fewestNow 36 = .ok (.iaload, 1) := by decide +kernel
theorem dX12_fewestNow_37 : decode cX12_fewestNow 37 = .ok (.if_icmp .ge 57, 3) := by decide +kernel
theorem dX12_fewestNow_40 : decode cX12_fewestNow 40 = .ok (.aload_n 0, 1) := by decide +kernel
theorem dX12_fewestNow_41 : decode cX12_fewestNow 41 = .ok (.iload_n 2, 1) := by decide +kernel
theorem dX12_fewestNow_42 : decode cX12_fewestNow 42 = .ok (.iload_n 1, 1) := by decide +kernel
theorem dX12_fewestNow_43 : decode cX12_fewestNow 43 = .ok (.invokevirtual 192, 3) := by decide +kernel
theorem dX12_fewestNow_46 : decode cX12_fewestNow 46 = .ok (.istore_n 3, 1) := by decide +kernel
theorem dX12_fewestNow_47 : decode cX12_fewestNow 47 = .ok (.aload_n 0, 1) := by decide +kernel
theorem dX12_fewestNow_48 : decode cX12_fewestNow 48 = .ok (.getfield 28, 3) := by decide +kernel
theorem dX12_fewestNow_51 : decode cX12_fewestNow 51 = .ok (.iload_n 1, 1) := by decide +kernel
theorem dX12_fewestNow_52 : decode cX12_fewestNow 52 = .ok (.iload_n 3, 1) := by decide +kernel
theorem dX12_fewestNow_53 : decode cX12_fewestNow 53 = .ok (.iconst (-1), 1) := by decide +kernel
theorem dX12_fewestNow_54 : decode cX12_fewestNow 54 = .ok (.if_icmp .eq 27, 3) := by decide +kernel
theorem dX12_fewestNow_57 : decode cX12_fewestNow 57 = .ok (.aload_n 0, 1) := by decide +kernel
theorem dX12_fewestNow_58 : decode cX12_fewestNow 58 = .ok (.getfield 28, 3) := by decide +kernel
theorem dX12_fewestNow_61 : decode cX12_fewestNow 61 = .ok (.iload_n 1, 1) := by decide +kernel
theorem dX12_fewestNow_62 : decode cX12_fewestNow 62 = .ok (.iaload, 1) := by decide +kernel
theorem dX12_fewestNow_63 : decode cX12_fewestNow 63 = .ok (.iconst (-1), 1) := by decide +kernel
theorem dX12_fewestNow_64 : decode cX12_fewestNow 64 = .ok (.if_icmp .eq 13, 3) := by decide +kernel
theorem dX12_fewestNow_67 : decode cX12_fewestNow 67 = .ok (.iload_n 3, 1) := by decide +kernel
theorem dX12_fewestNow_68 : decode cX12_fewestNow 68 = .ok (.aload_n 0, 1) := by decide +kernel
theorem dX12_fewestNow_69 : decode cX12_fewestNow 69 = .ok (.getfield 28, 3) := by decide +kernel
theorem dX12_fewestNow_72 : decode cX12_fewestNow 72 = .ok (.iload_n 1, 1) := by decide +kernel
theorem dX12_fewestNow_73 : decode cX12_fewestNow 73 = .ok (.iaload, 1) := by decide +kernel
theorem dX12_fewestNow_74 : decode cX12_fewestNow 74 = .ok (.if_icmp .ge 7, 3) := by decide +kernel
theorem dX12_fewestNow_77 : decode cX12_fewestNow 77 = .ok (.iload_n 3, 1) := by decide +kernel
theorem dX12_fewestNow_78 : decode cX12_fewestNow 78 = .ok (.goto 9, 3) := by decide +kernel
theorem dX12_fewestNow_81 : decode cX12_fewestNow 81 = .ok (.aload_n 0, 1) := by decide +kernel
theorem dX12_fewestNow_82 : decode cX12_fewestNow 82 = .ok (.getfield 28, 3) := by decide +kernel
theorem dX12_fewestNow_85 : decode cX12_fewestNow 85 = .ok (.iload_n 1, 1) := by decide +kernel
theorem dX12_fewestNow_86 : decode cX12_fewestNow 86 = .ok (.iaload, 1) := by decide +kernel
theorem dX12_fewestNow_87 : decode cX12_fewestNow 87 = .ok (.iastore, 1) := by decide +kernel
theorem dX12_fewestNow_88 : decode cX12_fewestNow 88 = .ok (.iinc 2 1, 3) := by decide +kernel
theorem dX12_fewestNow_91 : decode cX12_fewestNow 91 = .ok (.goto (-61), 3) := by decide +kernel
theorem dX12_fewestNow_94 : decode cX12_fewestNow 94 = .ok (.iinc 1 (-1), 3) := by decide +kernel
theorem dX12_fewestNow_97 : decode cX12_fewestNow 97 = .ok (.goto (-80), 3) := by decide +kernel
theorem dX12_fewestNow_100 : decode cX12_fewestNow 100 = .ok (.aload_n 0, 1) := by decide +kernel
theorem dX12_fewestNow_101 : decode cX12_fewestNow 101 = .ok (.getfield 28, 3) := by decide +kernel
theorem dX12_fewestNow_104 : decode cX12_fewestNow 104 = .ok (.iconst 0, 1) := by decide +kernel
theorem dX12_fewestNow_105 : decode cX12_fewestNow 105 = .ok (.iaload, 1) := by decide +kernel
theorem dX12_fewestNow_106 : decode cX12_fewestNow 106 = .ok (.ireturn, 1) := by decide +kernel
set_option maxRecDepth 20000 in
theorem ggX12_fewestStrokes_X12_fewestNow : GoodIn wsX12_fewestStrokes wsX12_fewestNow := goodIn_r _ [6, 7, 8, 9, 10, 11, 12, 5, 13, 14, 15, 16, 17, 18, 19, 20, 21, 22, 23, 24, 25, 26, 27, 28, 29, 30, 31, 32, 33, 34, 35] (by decide +kernel) (by decide +kernel)
set_option maxRecDepth 20000 in
theorem gX12_fewestStrokes_X12_fewestNow : GoodIn wsX12_fewestStrokes (wsV RX12 195 RX12 yX12_fewestNow wsX12_fewestNow) := goodIn_app (goodIn_of _ (by decide +kernel)) ggX12_fewestStrokes_X12_fewestNow
theorem dX12_fewestStrokes_0 : decode cX12_fewestStrokes 0 = .ok (.aload_n 0, 1) := by decide +kernel
theorem dX12_fewestStrokes_1 : decode cX12_fewestStrokes 1 = .ok (.iconst 0, 1) := by decide +kernel
theorem dX12_fewestStrokes_2 : decode cX12_fewestStrokes 2 = .ok (.putfield 31, 3) := by decide +kernel
theorem dX12_fewestStrokes_5 : decode cX12_fewestStrokes 5 = .ok (.aload_n 0, 1) := by decide +kernel
theorem dX12_fewestStrokes_6 : decode cX12_fewestStrokes 6 = .ok (.invokevirtual 195, 3) := by decide +kernel
theorem dX12_fewestStrokes_9 : decode cX12_fewestStrokes 9 = .ok (.ireturn, 1) := by decide +kernel
set_option maxRecDepth 20000 in
theorem ggX12_layLine_X12_strokesWith : GoodIn wsX12_layLine wsX12_strokesWith := goodIn_r _ [10, 3, 4, 11, 12, 13, 9, 14, 2, 15, 16, 17, 18, 19, 20, 21, 22, 23, 24, 25, 26, 27, 28, 29, 30, 31, 32] (by decide +kernel) (by decide +kernel)
set_option maxRecDepth 20000 in
theorem gX12_layLine_X12_strokesWith : GoodIn wsX12_layLine (wsV RX12 192 RX12 yX12_strokesWith wsX12_strokesWith) := goodIn_app (goodIn_of _ (by decide +kernel)) ggX12_layLine_X12_strokesWith
set_option maxRecDepth 20000 in
theorem ggX12_layLine_X12_entryAt : GoodIn wsX12_layLine wsX12_entryAt := goodIn_r _ [18] (by decide +kernel) (by decide +kernel)
set_option maxRecDepth 20000 in
theorem gX12_layLine_X12_entryAt : GoodIn wsX12_layLine (va_wsS RX12 39 yX12_entryAt wsX12_entryAt) := goodIn_app (goodIn_of _ (by decide +kernel)) ggX12_layLine_X12_entryAt
theorem dX12_layLine_0 : decode cX12_layLine 0 = .ok (.aload_n 0, 1) := by decide +kernel
theorem dX12_layLine_1 : decode cX12_layLine 1 = .ok (.iconst 0, 1) := by decide +kernel
theorem dX12_layLine_2 : decode cX12_layLine 2 = .ok (.putfield 54, 3) := by decide +kernel
theorem dX12_layLine_5 : decode cX12_layLine 5 = .ok (.iconst 0, 1) := by decide +kernel
theorem dX12_layLine_6 : decode cX12_layLine 6 = .ok (.istore_n 1, 1) := by decide +kernel
theorem dX12_layLine_7 : decode cX12_layLine 7 = .ok (.iload_n 1, 1) := by decide +kernel
theorem dX12_layLine_8 : decode cX12_layLine 8 = .ok (.aload_n 0, 1) := by decide +kernel
theorem dX12_layLine_9 : decode cX12_layLine 9 = .ok (.getfield 121, 3) := by decide +kernel
theorem dX12_layLine_12 : decode cX12_layLine 12 = .ok (.if_icmp .ge 96, 3) := by decide +kernel
theorem dX12_layLine_15 : decode cX12_layLine 15 = .ok (.iconst 0, 1) := by decide +kernel
theorem dX12_layLine_16 : decode cX12_layLine 16 = .ok (.istore_n 2, 1) := by decide +kernel
theorem dX12_layLine_17 : decode cX12_layLine 17 = .ok (.aload_n 0, 1) := by decide +kernel
theorem dX12_layLine_18 : decode cX12_layLine 18 = .ok (.iload_n 2, 1) := by decide +kernel
theorem dX12_layLine_19 : decode cX12_layLine 19 = .ok (.iload_n 1, 1) := by decide +kernel
theorem dX12_layLine_20 : decode cX12_layLine 20 = .ok (.invokevirtual 192, 3) := by decide +kernel
theorem dX12_layLine_23 : decode cX12_layLine 23 = .ok (.aload_n 0, 1) := by decide +kernel
theorem dX12_layLine_24 : decode cX12_layLine 24 = .ok (.getfield 28, 3) := by decide +kernel
theorem dX12_layLine_27 : decode cX12_layLine 27 = .ok (.iload_n 1, 1) := by decide +kernel
theorem dX12_layLine_28 : decode cX12_layLine 28 = .ok (.iaload, 1) := by decide +kernel
theorem dX12_layLine_29 : decode cX12_layLine 29 = .ok (.if_icmp .eq 9, 3) := by decide +kernel
theorem dX12_layLine_32 : decode cX12_layLine 32 = .ok (.iinc 2 1, 3) := by decide +kernel
theorem dX12_layLine_35 : decode cX12_layLine 35 = .ok (.goto (-18), 3) := by decide +kernel
theorem dX12_layLine_38 : decode cX12_layLine 38 = .ok (.iconst 0, 1) := by decide +kernel
theorem dX12_layLine_39 : decode cX12_layLine 39 = .ok (.istore_n 3, 1) := by decide +kernel
theorem dX12_layLine_40 : decode cX12_layLine 40 = .ok (.iload_n 3, 1) := by decide +kernel
theorem dX12_layLine_41 : decode cX12_layLine 41 = .ok (.aload_n 0, 1) := by decide +kernel
theorem dX12_layLine_42 : decode cX12_layLine 42 = .ok (.getfield 7, 3) := by decide +kernel
theorem dX12_layLine_45 : decode cX12_layLine 45 = .ok (.iload_n 2, 1) := by decide +kernel
theorem dX12_layLine_46 : decode cX12_layLine 46 = .ok (.invokestatic 39, 3) := by decide +kernel
theorem dX12_layLine_49 : decode cX12_layLine 49 = .ok (.iaload, 1) := by decide +kernel
theorem dX12_layLine_50 : decode cX12_layLine 50 = .ok (.if_icmp .ge 41, 3) := by decide +kernel
theorem dX12_layLine_53 : decode cX12_layLine 53 = .ok (.aload_n 0, 1) := by decide +kernel
theorem dX12_layLine_54 : decode cX12_layLine 54 = .ok (.getfield 19, 3) := by decide +kernel
theorem dX12_layLine_57 : decode cX12_layLine 57 = .ok (.aload_n 0, 1) := by decide +kernel
theorem dX12_layLine_58 : decode cX12_layLine 58 = .ok (.getfield 54, 3) := by decide +kernel
theorem dX12_layLine_61 : decode cX12_layLine 61 = .ok (.aload_n 0, 1) := by decide +kernel
theorem dX12_layLine_62 : decode cX12_layLine 62 = .ok (.getfield 7, 3) := by decide +kernel
theorem dX12_layLine_65 : decode cX12_layLine 65 = .ok (.iload_n 2, 1) := by decide +kernel
theorem dX12_layLine_66 : decode cX12_layLine 66 = .ok (.invokestatic 39, 3) := by decide +kernel
theorem dX12_layLine_69 : decode cX12_layLine 69 = .ok (.iconst 1, 1) := by decide +kernel
theorem dX12_layLine_70 : decode cX12_layLine 70 = .ok (.iadd, 1) := by decide +kernel
theorem dX12_layLine_71 : decode cX12_layLine 71 = .ok (.iload_n 3, 1) := by decide +kernel
theorem dX12_layLine_72 : decode cX12_layLine 72 = .ok (.iadd, 1) := by decide +kernel
theorem dX12_layLine_73 : decode cX12_layLine 73 = .ok (.iaload, 1) := by decide +kernel
theorem dX12_layLine_74 : decode cX12_layLine 74 = .ok (.iastore, 1) := by decide +kernel
theorem dX12_layLine_75 : decode cX12_layLine 75 = .ok (.aload_n 0, 1) := by decide +kernel
theorem dX12_layLine_76 : decode cX12_layLine 76 = .ok (.dup, 1) := by decide +kernel
theorem dX12_layLine_77 : decode cX12_layLine 77 = .ok (.getfield 54, 3) := by decide +kernel
theorem dX12_layLine_80 : decode cX12_layLine 80 = .ok (.iconst 1, 1) := by decide +kernel
theorem dX12_layLine_81 : decode cX12_layLine 81 = .ok (.iadd, 1) := by decide +kernel
theorem dX12_layLine_82 : decode cX12_layLine 82 = .ok (.putfield 54, 3) := by decide +kernel
theorem dX12_layLine_85 : decode cX12_layLine 85 = .ok (.iinc 3 1, 3) := by decide +kernel
theorem dX12_layLine_88 : decode cX12_layLine 88 = .ok (.goto (-48), 3) := by decide +kernel
theorem dX12_layLine_91 : decode cX12_layLine 91 = .ok (.iload_n 1, 1) := by decide +kernel
theorem dX12_layLine_92 : decode cX12_layLine 92 = .ok (.aload_n 0, 1) := by decide +kernel
theorem dX12_layLine_93 : decode cX12_layLine 93 = .ok (.getfield 7, 3) := by decide +kernel
theorem dX12_layLine_96 : decode cX12_layLine 96 = .ok (.iload_n 2, 1) := by decide +kernel
theorem dX12_layLine_97 : decode cX12_layLine 97 = .ok (.invokestatic 39, 3) := by decide +kernel
theorem dX12_layLine_100 : decode cX12_layLine 100 = .ok (.iconst 5, 1) := by decide +kernel
theorem dX12_layLine_101 : decode cX12_layLine 101 = .ok (.iadd, 1) := by decide +kernel
theorem dX12_layLine_102 : decode cX12_layLine 102 = .ok (.iaload, 1) := by decide +kernel
theorem dX12_layLine_103 : decode cX12_layLine 103 = .ok (.iadd, 1) := by decide +kernel
theorem dX12_layLine_104 : decode cX12_layLine 104 = .ok (.istore_n 1, 1) := by decide +kernel
theorem dX12_layLine_105 : decode cX12_layLine 105 = .ok (.goto (-98), 3) := by decide +kernel
theorem dX12_layLine_108 : decode cX12_layLine 108 = .ok (.return_, 1) := by decide +kernel
set_option maxRecDepth 20000 in
theorem ggX12_readStroke_X12_keyLetter : GoodIn wsX12_readStroke wsX12_keyLetter := goodIn_r _ [6] (by decide +kernel) (by decide +kernel)
set_option maxRecDepth 20000 in
theorem gX12_readStroke_X12_keyLetter : GoodIn wsX12_readStroke (va_wsS RX12 64 yX12_keyLetter wsX12_keyLetter) := goodIn_app (goodIn_of _ (by decide +kernel)) ggX12_readStroke_X12_keyLetter
theorem dX12_readStroke_0 : decode cX12_readStroke 0 = .ok (.iload_n 2, 1) := by decide +kernel
theorem dX12_readStroke_1 : decode cX12_readStroke 1 = .ok (.istore_n 3, 1) := by decide +kernel
theorem dX12_readStroke_2 : decode cX12_readStroke 2 = .ok (.iconst 0, 1) := by decide +kernel
theorem dX12_readStroke_3 : decode cX12_readStroke 3 = .ok (.istore 4, 2) := by decide +kernel
theorem dX12_readStroke_5 : decode cX12_readStroke 5 = .ok (.iload 4, 2) := by decide +kernel
theorem dX12_readStroke_7 : decode cX12_readStroke 7 = .ok (.bipush 12, 2) := by decide +kernel
theorem dX12_readStroke_9 : decode cX12_readStroke 9 = .ok (.if_icmp .ge 66, 3) := by decide +kernel
theorem dX12_readStroke_12 : decode cX12_readStroke 12 = .ok (.iload_n 1, 1) := by decide +kernel
theorem dX12_readStroke_13 : decode cX12_readStroke 13 = .ok (.iload 4, 2) := by decide +kernel
theorem dX12_readStroke_15 : decode cX12_readStroke 15 = .ok (.ishr, 1) := by decide +kernel
theorem dX12_readStroke_16 : decode cX12_readStroke 16 = .ok (.iconst 1, 1) := by decide +kernel
theorem dX12_readStroke_17 : decode cX12_readStroke 17 = .ok (.iand, 1) := by decide +kernel
theorem dX12_readStroke_18 : decode cX12_readStroke 18 = .ok (.iconst 1, 1) := by decide +kernel
theorem dX12_readStroke_19 : decode cX12_readStroke 19 = .ok (.if_icmp .ne 50, 3) := by decide +kernel
theorem dX12_readStroke_22 : decode cX12_readStroke 22 = .ok (.iload_n 3, 1) := by decide +kernel
theorem dX12_readStroke_23 : decode cX12_readStroke 23 = .ok (.ifCond .lt 29, 3) := by decide +kernel
theorem dX12_readStroke_26 : decode cX12_readStroke 26 = .ok (.iload_n 3, 1) := by decide +kernel
theorem dX12_readStroke_27 : decode cX12_readStroke 27 = .ok (.aload_n 0, 1) := by decide +kernel
theorem dX12_readStroke_28 : decode cX12_readStroke 28 = .ok (.getfield 121, 3) := by decide +kernel
theorem dX12_readStroke_31 : decode cX12_readStroke 31 = .ok (.if_icmp .ge 21, 3) := by decide +kernel
theorem dX12_readStroke_34 : decode cX12_readStroke 34 = .ok (.aload_n 0, 1) := by decide +kernel
theorem dX12_readStroke_35 : decode cX12_readStroke 35 = .ok (.getfield 16, 3) := by decide +kernel
theorem dX12_readStroke_38 : decode cX12_readStroke 38 = .ok (.iload_n 3, 1) := by decide +kernel
theorem dX12_readStroke_39 : decode cX12_readStroke 39 = .ok (.iaload, 1) := by decide +kernel
theorem dX12_readStroke_40 : decode cX12_readStroke 40 = .ok (.iload 4, 2) := by decide +kernel
theorem dX12_readStroke_42 : decode cX12_readStroke 42 = .ok (.invokestatic 64, 3) := by decide +kernel
theorem dX12_readStroke_45 : decode cX12_readStroke 45 = .ok (.if_icmp .ne 7, 3) := by decide +kernel
theorem dX12_readStroke_48 : decode cX12_readStroke 48 = .ok (.iconst 1, 1) := by decide +kernel
theorem dX12_readStroke_49 : decode cX12_readStroke 49 = .ok (.goto 4, 3) := by decide +kernel
theorem dX12_readStroke_52 : decode cX12_readStroke 52 = .ok (.iconst 0, 1) := by decide +kernel
theorem dX12_readStroke_53 : decode cX12_readStroke 53 = .ok (.istore 5, 2) := by decide +kernel
theorem dX12_readStroke_55 : decode cX12_readStroke 55 = .ok (.iload 5, 2) := by decide +kernel
theorem dX12_readStroke_57 : decode cX12_readStroke 57 = .ok (.ifCond .eq 9, 3) := by decide +kernel
theorem dX12_readStroke_60 : decode cX12_readStroke 60 = .ok (.iload_n 3, 1) := by decide +kernel
theorem dX12_readStroke_61 : decode cX12_readStroke 61 = .ok (.iconst 1, 1) := by decide +kernel
theorem dX12_readStroke_62 : decode cX12_readStroke 62 = .ok (.iadd, 1) := by decide +kernel
theorem dX12_readStroke_63 : decode cX12_readStroke 63 = .ok (.goto 5, 3) := by decide +kernel
theorem dX12_readStroke_66 : decode cX12_readStroke 66 = .ok (.bipush (-12), 2) := by decide +kernel
theorem dX12_readStroke_68 : decode cX12_readStroke 68 = .ok (.istore_n 3, 1) := by decide +kernel
theorem dX12_readStroke_69 : decode cX12_readStroke 69 = .ok (.iinc 4 1, 3) := by decide +kernel
theorem dX12_readStroke_72 : decode cX12_readStroke 72 = .ok (.goto (-67), 3) := by decide +kernel
theorem dX12_readStroke_75 : decode cX12_readStroke 75 = .ok (.iload_n 3, 1) := by decide +kernel
theorem dX12_readStroke_76 : decode cX12_readStroke 76 = .ok (.ireturn, 1) := by decide +kernel
set_option maxRecDepth 20000 in
theorem ggX12_backNow_X12_fewestNow : GoodIn wsX12_backNow wsX12_fewestNow := goodIn_r _ [9, 10, 4, 3, 11, 12, 13, 8, 14, 15, 16, 17, 18, 19, 20, 21, 22, 38, 39, 40, 41, 42, 43, 44, 45, 46, 47, 48, 49, 50, 51] (by decide +kernel) (by decide +kernel)
set_option maxRecDepth 20000 in
theorem gX12_backNow_X12_fewestNow : GoodIn wsX12_backNow (wsV RX12 195 RX12 yX12_fewestNow wsX12_fewestNow) := goodIn_app (goodIn_of _ (by decide +kernel)) ggX12_backNow_X12_fewestNow
set_option maxRecDepth 20000 in
theorem ggX12_backNow_X12_layLine : GoodIn wsX12_backNow wsX12_layLine := goodIn_r _ [26, 1, 4, 10, 3, 2, 11, 12, 13, 8, 14, 15, 16, 17, 18, 19, 20, 21, 22, 38, 39, 40, 41, 42, 43, 44, 45, 46, 47, 48, 49, 50, 51] (by decide +kernel) (by decide +kernel)
set_option maxRecDepth 20000 in
theorem gX12_backNow_X12_layLine : GoodIn wsX12_backNow (wsV RX12 198 RX12 yX12_layLine wsX12_layLine) := goodIn_app (goodIn_of _ (by decide +kernel)) ggX12_backNow_X12_layLine
set_option maxRecDepth 20000 in
theorem ggX12_backNow_X12_longestAt : GoodIn wsX12_backNow wsX12_longestAt := goodIn_r _ [30, 3, 1, 2, 20, 21, 8, 22, 38, 39, 40, 41, 42, 43, 44, 45, 46, 47, 48, 49, 50, 51] (by decide +kernel) (by decide +kernel)
set_option maxRecDepth 20000 in
theorem gX12_backNow_X12_longestAt : GoodIn wsX12_backNow (wsV RX12 67 RX12 yX12_longestAt wsX12_longestAt) := goodIn_app (goodIn_of _ (by decide +kernel)) ggX12_backNow_X12_longestAt
set_option maxRecDepth 20000 in
theorem ggX12_backNow_X12_readStroke : GoodIn wsX12_backNow wsX12_readStroke := goodIn_r _ [34, 4, 19, 35, 36, 8, 37, 38, 39, 40, 41, 42, 43, 44, 45, 46, 47, 48, 49, 50, 51] (by decide +kernel) (by decide +kernel)
set_option maxRecDepth 20000 in
theorem gX12_backNow_X12_readStroke : GoodIn wsX12_backNow (wsV RX12 201 RX12 yX12_readStroke wsX12_readStroke) := goodIn_app (goodIn_of _ (by decide +kernel)) ggX12_backNow_X12_readStroke
set_option maxRecDepth 20000 in
theorem ggX12_backNow_X12_isWordAt : GoodIn wsX12_backNow wsX12_isWordAt := goodIn_r _ [18, 3, 4, 19, 20, 21, 8, 22, 38, 39, 40, 41, 42, 43, 44, 45, 46, 47, 48, 49, 50, 51] (by decide +kernel) (by decide +kernel)
set_option maxRecDepth 20000 in
theorem gX12_backNow_X12_isWordAt : GoodIn wsX12_backNow (wsV RX12 189 RX12 yX12_isWordAt wsX12_isWordAt) := goodIn_app (goodIn_of _ (by decide +kernel)) ggX12_backNow_X12_isWordAt
set_option maxRecDepth 20000 in
theorem ggX12_backNow_X12_entryAt : GoodIn wsX12_backNow wsX12_entryAt := goodIn_r _ [22] (by decide +kernel) (by decide +kernel)
set_option maxRecDepth 20000 in
theorem gX12_backNow_X12_entryAt : GoodIn wsX12_backNow (va_wsS RX12 39 yX12_entryAt wsX12_entryAt) := goodIn_app (goodIn_of _ (by decide +kernel)) ggX12_backNow_X12_entryAt
theorem dX12_backNow_0 : decode cX12_backNow 0 = .ok (.aload_n 0, 1) := by decide +kernel
theorem dX12_backNow_1 : decode cX12_backNow 1 = .ok (.invokevirtual 195, 3) := by decide +kernel
theorem dX12_backNow_4 : decode cX12_backNow 4 = .ok (.iconst (-1), 1) := by decide +kernel
theorem dX12_backNow_5 : decode cX12_backNow 5 = .ok (.if_icmp .ne 5, 3) := by decide +kernel
theorem dX12_backNow_8 : decode cX12_backNow 8 = .ok (.iconst (-1), 1) := by decide +kernel
theorem dX12_backNow_9 : decode cX12_backNow 9 = .ok (.ireturn, 1) := by decide +kernel
theorem dX12_backNow_10 : decode cX12_backNow 10 = .ok (.aload_n 0, 1) := by decide +kernel
theorem dX12_backNow_11 : decode cX12_backNow 11 = .ok (.invokevirtual 198, 3) := by decide +kernel
theorem dX12_backNow_14 : decode cX12_backNow 14 = .ok (.iconst 0, 1) := by decide +kernel
theorem dX12_backNow_15 : decode cX12_backNow 15 = .ok (.istore_n 1, 1) := by decide +kernel
theorem dX12_backNow_16 : decode cX12_backNow 16 = .ok (.iconst 0, 1) := by decide +kernel
theorem dX12_backNow_17 : decode cX12_backNow 17 = .ok (.istore_n 2, 1) := by decide +kernel
theorem dX12_backNow_18 : decode cX12_backNow 18 = .ok (.iload_n 2, 1) := by decide +kernel
theorem dX12_backNow_19 : decode cX12_backNow 19 = .ok (.aload_n 0, 1) := by decide +kernel
theorem dX12_backNow_20 : decode cX12_backNow 20 = .ok (.getfield 54, 3) := by decide +kernel
theorem dX12_backNow_23 : decode cX12_backNow 23 = .ok (.if_icmp .ge 78, 3) := by decide +kernel
theorem dX12_backNow_26 : decode cX12_backNow 26 = .ok (.iload_n 1, 1) := by decide +kernel
theorem dX12_backNow_27 : decode cX12_backNow 27 = .ok (.ifCond .lt 74, 3) := by decide +kernel
theorem dX12_backNow_30 : decode cX12_backNow 30 = .ok (.aload_n 0, 1) := by decide +kernel
theorem dX12_backNow_31 : decode cX12_backNow 31 = .ok (.iload_n 2, 1) := by decide +kernel
theorem dX12_backNow_32 : decode cX12_backNow 32 = .ok (.invokevirtual 67, 3) := by decide +kernel
theorem dX12_backNow_35 : decode cX12_backNow 35 = .ok (.istore_n 3, 1) := by decide +kernel
theorem dX12_backNow_36 : decode cX12_backNow 36 = .ok (.iload_n 3, 1) := by decide +kernel
theorem dX12_backNow_37 : decode cX12_backNow 37 = .ok (.iconst (-1), 1) := by decide +kernel
theorem dX12_backNow_38 : decode cX12_backNow 38 = .ok (.if_icmp .ne 21, 3) := by decide +kernel
theorem dX12_backNow_41 : decode cX12_backNow 41 = .ok (.aload_n 0, 1) := by decide +kernel
theorem dX12_backNow_42 : decode cX12_backNow 42 = .ok (.aload_n 0, 1) := by decide +kernel
theorem dX12_backNow_43 : decode cX12_backNow 43 = .ok (.getfield 19, 3) := by decide +kernel
theorem dX12_backNow_46 : decode cX12_backNow 46 = .ok (.iload_n 2, 1) := by decide +kernel
theorem dX12_backNow_47 : decode cX12_backNow 47 = .ok (.iaload, 1) := by decide +kernel
theorem dX12_backNow_48 : decode cX12_backNow 48 = .ok (.iload_n 1, 1) := by decide +kernel
theorem dX12_backNow_49 : decode cX12_backNow 49 = .ok (.invokevirtual 201, 3) := by decide +kernel
theorem dX12_backNow_52 : decode cX12_backNow 52 = .ok (.istore_n 1, 1) := by decide +kernel
theorem dX12_backNow_53 : decode cX12_backNow 53 = .ok (.iinc 2 1, 3) := by decide +kernel
theorem dX12_backNow_56 : decode cX12_backNow 56 = .ok (.goto 42, 3) := by decide +kernel
theorem dX12_backNow_59 : decode cX12_backNow 59 = .ok (.aload_n 0, 1) := by decide +kernel
theorem dX12_backNow_60 : decode cX12_backNow 60 = .ok (.iload_n 3, 1) := by decide +kernel
theorem dX12_backNow_61 : decode cX12_backNow 61 = .ok (.iload_n 1, 1) := by decide +kernel
theorem dX12_backNow_62 : decode cX12_backNow 62 = .ok (.invokevirtual 189, 3) := by decide +kernel
theorem dX12_backNow_65 : decode cX12_backNow 65 = .ok (.ifCond .eq 19, 3) := by decide +kernel
theorem dX12_backNow_68 : decode cX12_backNow 68 = .ok (.iload_n 1, 1) := by decide +kernel
theorem dX12_backNow_69 : decode cX12_backNow 69 = .ok (.aload_n 0, 1) := by decide +kernel
theorem dX12_backNow_70 : decode cX12_backNow 70 = .ok (.getfield 7, 3) := by decide +kernel
theorem dX12_backNow_73 : decode cX12_backNow 73 = .ok (.iload_n 3, 1) := by decide +kernel
theorem dX12_backNow_74 : decode cX12_backNow 74 = .ok (.invokestatic 39, 3) := by decide +kernel
theorem dX12_backNow_77 : decode cX12_backNow 77 = .ok (.iconst 5, 1) := by decide +kernel
theorem dX12_backNow_78 : decode cX12_backNow 78 = .ok (.iadd, 1) := by decide +kernel
theorem dX12_backNow_79 : decode cX12_backNow 79 = .ok (.iaload, 1) := by decide +kernel
theorem dX12_backNow_80 : decode cX12_backNow 80 = .ok (.iadd, 1) := by decide +kernel
theorem dX12_backNow_81 : decode cX12_backNow 81 = .ok (.goto 4, 3) := by decide +kernel
theorem dX12_backNow_84 : decode cX12_backNow 84 = .ok (.iconst (-1), 1) := by decide +kernel
theorem dX12_backNow_85 : decode cX12_backNow 85 = .ok (.istore_n 1, 1) := by decide +kernel
theorem dX12_backNow_86 : decode cX12_backNow 86 = .ok (.iload_n 2, 1) := by decide +kernel
theorem dX12_backNow_87 : decode cX12_backNow 87 = .ok (.aload_n 0, 1) := by decide +kernel
theorem dX12_backNow_88 : decode cX12_backNow 88 = .ok (.getfield 7, 3) := by decide +kernel
theorem dX12_backNow_91 : decode cX12_backNow 91 = .ok (.iload_n 3, 1) := by decide +kernel
theorem dX12_backNow_92 : decode cX12_backNow 92 = .ok (.invokestatic 39, 3) := by decide +kernel
theorem dX12_backNow_95 : decode cX12_backNow 95 = .ok (.iaload, 1) := by decide +kernel
theorem dX12_backNow_96 : decode cX12_backNow 96 = .ok (.iadd, 1) := by decide +kernel
theorem dX12_backNow_97 : decode cX12_backNow 97 = .ok (.istore_n 2, 1) := by decide +kernel
theorem dX12_backNow_98 : decode cX12_backNow 98 = .ok (.goto (-80), 3) := by decide +kernel
theorem dX12_backNow_101 : decode cX12_backNow 101 = .ok (.iload_n 2, 1) := by decide +kernel
theorem dX12_backNow_102 : decode cX12_backNow 102 = .ok (.aload_n 0, 1) := by decide +kernel
theorem dX12_backNow_103 : decode cX12_backNow 103 = .ok (.getfield 54, 3) := by decide +kernel
theorem dX12_backNow_106 : decode cX12_backNow 106 = .ok (.if_icmp .ne 15, 3) := by decide +kernel
theorem dX12_backNow_109 : decode cX12_backNow 109 = .ok (.iload_n 1, 1) := by decide +kernel
theorem dX12_backNow_110 : decode cX12_backNow 110 = .ok (.aload_n 0, 1) := by decide +kernel
theorem dX12_backNow_111 : decode cX12_backNow 111 = .ok (.getfield 121, 3) := by decide +kernel
theorem dX12_backNow_114 : decode cX12_backNow 114 = .ok (.if_icmp .ne 7, 3) := by decide +kernel
theorem dX12_backNow_117 : decode cX12_backNow 117 = .ok (.iconst 1, 1) := by decide +kernel
theorem dX12_backNow_118 : decode cX12_backNow 118 = .ok (.goto 4, 3) := by decide +kernel
theorem dX12_backNow_121 : decode cX12_backNow 121 = .ok (.iconst 0, 1) := by decide +kernel
theorem dX12_backNow_122 : decode cX12_backNow 122 = .ok (.ireturn, 1) := by decide +kernel
set_option maxRecDepth 20000 in
theorem ggX12_readsBack_X12_backNow : GoodIn wsX12_readsBack wsX12_backNow := goodIn_r _ [6, 7, 8, 9, 10, 11, 12, 13, 5, 14, 15, 16, 17, 18, 19, 20, 21, 22, 23, 24, 25, 26, 27, 28, 29, 30, 31, 32, 33, 34, 35, 36, 37, 38, 39, 40, 41, 42, 43, 44, 45, 46, 47, 48, 49, 50, 51, 52, 53, 54, 55, 56] (by decide +kernel) (by decide +kernel)
set_option maxRecDepth 20000 in
theorem gX12_readsBack_X12_backNow : GoodIn wsX12_readsBack (wsV RX12 204 RX12 yX12_backNow wsX12_backNow) := goodIn_app (goodIn_of _ (by decide +kernel)) ggX12_readsBack_X12_backNow
theorem dX12_readsBack_0 : decode cX12_readsBack 0 = .ok (.aload_n 0, 1) := by decide +kernel
theorem dX12_readsBack_1 : decode cX12_readsBack 1 = .ok (.iconst 0, 1) := by decide +kernel
theorem dX12_readsBack_2 : decode cX12_readsBack 2 = .ok (.putfield 31, 3) := by decide +kernel
theorem dX12_readsBack_5 : decode cX12_readsBack 5 = .ok (.aload_n 0, 1) := by decide +kernel
theorem dX12_readsBack_6 : decode cX12_readsBack 6 = .ok (.invokevirtual 204, 3) := by decide +kernel
theorem dX12_readsBack_9 : decode cX12_readsBack 9 = .ok (.ireturn, 1) := by decide +kernel
set_option maxRecDepth 20000 in
theorem ggX12_keysOfOutline_X12_entryAt : GoodIn wsX12_keysOfOutline wsX12_entryAt := goodIn_r _ [5] (by decide +kernel) (by decide +kernel)
set_option maxRecDepth 20000 in
theorem gX12_keysOfOutline_X12_entryAt : GoodIn wsX12_keysOfOutline (va_wsS RX12 39 yX12_entryAt wsX12_entryAt) := goodIn_app (goodIn_of _ (by decide +kernel)) ggX12_keysOfOutline_X12_entryAt
set_option maxRecDepth 20000 in
theorem ggX12_keysOfOutline_X12_keysOf : GoodIn wsX12_keysOfOutline wsX12_keysOf := goodIn_r _ [8] (by decide +kernel) (by decide +kernel)
set_option maxRecDepth 20000 in
theorem gX12_keysOfOutline_X12_keysOf : GoodIn wsX12_keysOfOutline (va_wsS RX12 158 yX12_keysOf wsX12_keysOf) := goodIn_app (goodIn_of _ (by decide +kernel)) ggX12_keysOfOutline_X12_keysOf
theorem dX12_keysOfOutline_0 : decode cX12_keysOfOutline 0 = .ok (.iconst 0, 1) := by decide +kernel
theorem dX12_keysOfOutline_1 : decode cX12_keysOfOutline 1 = .ok (.istore_n 2, 1) := by decide +kernel
theorem dX12_keysOfOutline_2 : decode cX12_keysOfOutline 2 = .ok (.iconst 0, 1) := by decide +kernel
theorem dX12_keysOfOutline_3 : decode cX12_keysOfOutline 3 = .ok (.istore_n 3, 1) := by decide +kernel
theorem dX12_keysOfOutline_4 : decode cX12_keysOfOutline 4 = .ok (.iload_n 3, 1) := by decide +kernel
theorem dX12_keysOfOutline_5 : decode cX12_keysOfOutline 5 = .ok (.aload_n 0, 1) := by decide +kernel
theorem dX12_keysOfOutline_6 : decode cX12_keysOfOutline 6 = .ok (.getfield 7, 3) := by decide +kernel
theorem dX12_keysOfOutline_9 : decode cX12_keysOfOutline 9 = .ok (.iload_n 1, 1) := by decide +kernel
theorem dX12_keysOfOutline_10 : decode cX12_keysOfOutline 10 = .ok (.invokestatic 39, 3) := by decide +kernel
theorem dX12_keysOfOutline_13 : decode cX12_keysOfOutline 13 = .ok (.iaload, 1) := by decide +kernel
theorem dX12_keysOfOutline_14 : decode cX12_keysOfOutline 14 = .ok (.if_icmp .ge 28, 3) := by decide +kernel
theorem dX12_keysOfOutline_17 : decode cX12_keysOfOutline 17 = .ok (.iload_n 2, 1) := by decide +kernel
theorem dX12_keysOfOutline_18 : decode cX12_keysOfOutline 18 = .ok (.aload_n 0, 1) := by decide +kernel
theorem dX12_keysOfOutline_19 : decode cX12_keysOfOutline 19 = .ok (.getfield 7, 3) := by decide +kernel
theorem dX12_keysOfOutline_22 : decode cX12_keysOfOutline 22 = .ok (.iload_n 1, 1) := by decide +kernel
theorem dX12_keysOfOutline_23 : decode cX12_keysOfOutline 23 = .ok (.invokestatic 39, 3) := by decide +kernel
theorem dX12_keysOfOutline_26 : decode cX12_keysOfOutline 26 = .ok (.iconst 1, 1) := by decide +kernel
theorem dX12_keysOfOutline_27 : decode cX12_keysOfOutline 27 = .ok (.iadd, 1) := by decide +kernel
theorem dX12_keysOfOutline_28 : decode cX12_keysOfOutline 28 = .ok (.iload_n 3, 1) := by decide +kernel
theorem dX12_keysOfOutline_29 : decode cX12_keysOfOutline 29 = .ok (.iadd, 1) := by decide +kernel
theorem dX12_keysOfOutline_30 : decode cX12_keysOfOutline 30 = .ok (.iaload, 1) := by decide +kernel
theorem dX12_keysOfOutline_31 : decode cX12_keysOfOutline 31 = .ok (.invokestatic 158, 3) := by decide +kernel
theorem dX12_keysOfOutline_34 : decode cX12_keysOfOutline 34 = .ok (.iadd, 1) := by decide +kernel
theorem dX12_keysOfOutline_35 : decode cX12_keysOfOutline 35 = .ok (.istore_n 2, 1) := by decide +kernel
theorem dX12_keysOfOutline_36 : decode cX12_keysOfOutline 36 = .ok (.iinc 3 1, 3) := by decide +kernel
theorem dX12_keysOfOutline_39 : decode cX12_keysOfOutline 39 = .ok (.goto (-35), 3) := by decide +kernel
theorem dX12_keysOfOutline_42 : decode cX12_keysOfOutline 42 = .ok (.iload_n 2, 1) := by decide +kernel
theorem dX12_keysOfOutline_43 : decode cX12_keysOfOutline 43 = .ok (.ireturn, 1) := by decide +kernel
set_option maxRecDepth 20000 in
theorem ggX12_shortestNow_X12_isSameWord : GoodIn wsX12_shortestNow wsX12_isSameWord := goodIn_r _ [6, 1, 7, 8, 5, 9, 17, 18, 19, 20, 21, 22, 23, 24, 25, 26, 27, 28, 29, 30] (by decide +kernel) (by decide +kernel)
set_option maxRecDepth 20000 in
theorem gX12_shortestNow_X12_isSameWord : GoodIn wsX12_shortestNow (wsV RX12 46 RX12 yX12_isSameWord wsX12_isSameWord) := goodIn_app (goodIn_of _ (by decide +kernel)) ggX12_shortestNow_X12_isSameWord
set_option maxRecDepth 20000 in
theorem ggX12_shortestNow_X12_entryAt : GoodIn wsX12_shortestNow wsX12_entryAt := goodIn_r _ [9] (by decide +kernel) (by decide +kernel)
set_option maxRecDepth 20000 in
theorem gX12_shortestNow_X12_entryAt : GoodIn wsX12_shortestNow (va_wsS RX12 39 yX12_entryAt wsX12_entryAt) := goodIn_app (goodIn_of _ (by decide +kernel)) ggX12_shortestNow_X12_entryAt
set_option maxRecDepth 20000 in
theorem ggX12_shortestNow_X12_keysOfOutline : GoodIn wsX12_shortestNow wsX12_keysOfOutline := goodIn_r _ [13, 1, 7, 8, 5, 9, 14, 15, 16, 17, 18, 19, 20, 21, 22, 23, 24, 25, 26, 27, 28, 29, 30] (by decide +kernel) (by decide +kernel)
set_option maxRecDepth 20000 in
theorem gX12_shortestNow_X12_keysOfOutline : GoodIn wsX12_shortestNow (wsV RX12 207 RX12 yX12_keysOfOutline wsX12_keysOfOutline) := goodIn_app (goodIn_of _ (by decide +kernel)) ggX12_shortestNow_X12_keysOfOutline
theorem dX12_shortestNow_0 : decode cX12_shortestNow 0 = .ok (.iconst (-1), 1) := by decide +kernel
theorem dX12_shortestNow_1 : decode cX12_shortestNow 1 = .ok (.istore_n 2, 1) := by decide +kernel
theorem dX12_shortestNow_2 : decode cX12_shortestNow 2 = .ok (.iconst 0, 1) := by decide +kernel
theorem dX12_shortestNow_3 : decode cX12_shortestNow 3 = .ok (.istore_n 3, 1) := by decide +kernel
theorem dX12_shortestNow_4 : decode cX12_shortestNow 4 = .ok (.iload_n 3, 1) := by decide +kernel
theorem dX12_shortestNow_5 : decode cX12_shortestNow 5 = .ok (.aload_n 0, 1) := by decide +kernel
theorem dX12_shortestNow_6 : decode cX12_shortestNow 6 = .ok (.getfield 7, 3) := by decide +kernel
theorem dX12_shortestNow_9 : decode cX12_shortestNow 9 = .ok (.iconst 0, 1) := by decide +kernel
theorem dX12_shortestNow_10 : decode cX12_shortestNow 10 = .ok (.iaload, 1) := by decide +kernel
theorem dX12_shortestNow_11 : decode cX12_shortestNow 11 = .ok (.if_icmp .ge 94, 3) := by decide +kernel
theorem dX12_shortestNow_14 : decode cX12_shortestNow 14 = .ok (.aload_n 0, 1) := by decide +kernel
theorem dX12_shortestNow_15 : decode cX12_shortestNow 15 = .ok (.iload_n 3, 1) := by decide +kernel
theorem dX12_shortestNow_16 : decode cX12_shortestNow 16 = .ok (.iload_n 1, 1) := by decide +kernel
theorem dX12_shortestNow_17 : decode cX12_shortestNow 17 = .ok (.invokevirtual 46, 3) := by decide +kernel
theorem dX12_shortestNow_20 : decode cX12_shortestNow 20 = .ok (.ifCond .eq 79, 3) := by decide +kernel
theorem dX12_shortestNow_23 : decode cX12_shortestNow 23 = .ok (.iload_n 2, 1) := by decide +kernel
theorem dX12_shortestNow_24 : decode cX12_shortestNow 24 = .ok (.iconst (-1), 1) := by decide +kernel
theorem dX12_shortestNow_25 : decode cX12_shortestNow 25 = .ok (.if_icmp .ne 7, 3) := by decide +kernel
theorem dX12_shortestNow_28 : decode cX12_shortestNow 28 = .ok (.iconst 0, 1) := by decide +kernel
theorem dX12_shortestNow_29 : decode cX12_shortestNow 29 = .ok (.goto 22, 3) := by decide +kernel
theorem dX12_shortestNow_32 : decode cX12_shortestNow 32 = .ok (.aload_n 0, 1) := by decide +kernel
theorem dX12_shortestNow_33 : decode cX12_shortestNow 33 = .ok (.getfield 7, 3) := by decide +kernel
theorem dX12_shortestNow_36 : decode cX12_shortestNow 36 = .ok (.iload_n 3, 1) := by decide +kernel
theorem dX12_shortestNow_37 : decode cX12_shortestNow 37 = .ok (.invokestatic 39, 3) := by decide +kernel
theorem dX12_shortestNow_40 : decode cX12_shortestNow 40 = .ok (.iaload, 1) := by decide +kernel
theorem dX12_shortestNow_41 : decode cX12_shortestNow 41 = .ok (.aload_n 0, 1) := by decide +kernel
theorem dX12_shortestNow_42 : decode cX12_shortestNow 42 = .ok (.getfield 7, 3) := by decide +kernel
theorem dX12_shortestNow_45 : decode cX12_shortestNow 45 = .ok (.iload_n 2, 1) := by decide +kernel
theorem dX12_shortestNow_46 : decode cX12_shortestNow 46 = .ok (.invokestatic 39, 3) := by decide +kernel
theorem dX12_shortestNow_49 : decode cX12_shortestNow 49 = .ok (.iaload, 1) := by decide +kernel
theorem dX12_shortestNow_50 : decode cX12_shortestNow 50 = .ok (.isub, 1) := by decide +kernel
theorem dX12_shortestNow_51 : decode cX12_shortestNow 51 = .ok (.istore 4, 2) := by decide +kernel
theorem dX12_shortestNow_53 : decode cX12_shortestNow 53 = .ok (.iload_n 2, 1) := by decide +kernel
theorem dX12_shortestNow_54 : decode cX12_shortestNow 54 = .ok (.iconst (-1), 1) := by decide +kernel
theorem dX12_shortestNow_55 : decode cX12_shortestNow 55 = .ok (.if_icmp .eq 26, 3) := by decide +kernel
theorem dX12_shortestNow_58 : decode cX12_shortestNow 58 = .ok (.iload 4, 2) := by decide +kernel
theorem dX12_shortestNow_60 : decode cX12_shortestNow 60 = .ok (.ifCond .lt 21, 3) := by decide +kernel
theorem dX12_shortestNow_63 : decode cX12_shortestNow 63 = .ok (.iload 4, 2) := by decide +kernel
theorem dX12_shortestNow_65 : decode cX12_shortestNow 65 = .ok (.ifCond .ne 20, 3) := by decide +kernel
theorem dX12_shortestNow_68 : decode cX12_shortestNow 68 = .ok (.aload_n 0, 1) := by decide +kernel
theorem dX12_shortestNow_69 : decode cX12_shortestNow 69 = .ok (.iload_n 3, 1) := by decide +kernel
theorem dX12_shortestNow_70 : decode cX12_shortestNow 70 = .ok (.invokevirtual 207, 3) := by decide +kernel
theorem dX12_shortestNow_73 : decode cX12_shortestNow 73 = .ok (.aload_n 0, 1) := by decide +kernel
theorem dX12_shortestNow_74 : decode cX12_shortestNow 74 = .ok (.iload_n 2, 1) := by decide +kernel
theorem dX12_shortestNow_75 : decode cX12_shortestNow 75 = .ok (.invokevirtual 207, 3) := by decide +kernel
theorem dX12_shortestNow_78 : decode cX12_shortestNow 78 = .ok (.if_icmp .ge 7, 3) := by decide +kernel
theorem dX12_shortestNow_81 : decode cX12_shortestNow 81 = .ok (.iconst 1, 1) := by decide +kernel
theorem dX12_shortestNow_82 : decode cX12_shortestNow 82 = .ok (.goto 4, 3) := by decide +kernel
theorem dX12_shortestNow_85 : decode cX12_shortestNow 85 = .ok (.iconst 0, 1) := by decide +kernel
theorem dX12_shortestNow_86 : decode cX12_shortestNow 86 = .ok (.istore 5, 2) := by decide +kernel
theorem dX12_shortestNow_88 : decode cX12_shortestNow 88 = .ok (.iload 5, 2) := by decide +kernel
theorem dX12_shortestNow_90 : decode cX12_shortestNow 90 = .ok (.ifCond .eq 7, 3) := by decide +kernel
theorem dX12_shortestNow_93 : decode cX12_shortestNow 93 = .ok (.iload_n 3, 1) := by decide +kernel
theorem dX12_shortestNow_94 : decode cX12_shortestNow 94 = .ok (.goto 4, 3) := by decide +kernel
theorem dX12_shortestNow_97 : decode cX12_shortestNow 97 = .ok (.iload_n 2, 1) := by decide +kernel
theorem dX12_shortestNow_98 : decode cX12_shortestNow 98 = .ok (.istore_n 2, 1) := by decide +kernel
theorem dX12_shortestNow_99 : decode cX12_shortestNow 99 = .ok (.iinc 3 1, 3) := by decide +kernel
theorem dX12_shortestNow_102 : decode cX12_shortestNow 102 = .ok (.goto (-98), 3) := by decide +kernel
theorem dX12_shortestNow_105 : decode cX12_shortestNow 105 = .ok (.iload_n 2, 1) := by decide +kernel
theorem dX12_shortestNow_106 : decode cX12_shortestNow 106 = .ok (.ireturn, 1) := by decide +kernel
set_option maxRecDepth 20000 in
theorem ggX12_shortest_X12_isEntry : GoodIn wsX12_shortest wsX12_isEntry := goodIn_r _ [6, 7, 8, 9, 5, 10, 29, 30, 31, 32, 33, 34, 35, 36, 37, 38, 39, 40, 41, 42] (by decide +kernel) (by decide +kernel)
set_option maxRecDepth 20000 in
theorem gX12_shortest_X12_isEntry : GoodIn wsX12_shortest (wsV RX12 96 RX12 yX12_isEntry wsX12_isEntry) := goodIn_app (goodIn_of _ (by decide +kernel)) ggX12_shortest_X12_isEntry
set_option maxRecDepth 20000 in
theorem ggX12_shortest_X12_shortestNow : GoodIn wsX12_shortest wsX12_shortestNow := goodIn_r _ [14, 7, 15, 16, 17, 5, 18, 19, 20, 21, 22, 23, 24, 25, 26, 27, 28, 29, 30, 31, 32, 33, 34, 35, 36, 37, 38, 39, 40, 41, 42] (by decide +kernel) (by decide +kernel)
set_option maxRecDepth 20000 in
theorem gX12_shortest_X12_shortestNow : GoodIn wsX12_shortest (wsV RX12 210 RX12 yX12_shortestNow wsX12_shortestNow) := goodIn_app (goodIn_of _ (by decide +kernel)) ggX12_shortest_X12_shortestNow
theorem dX12_shortest_0 : decode cX12_shortest 0 = .ok (.aload_n 0, 1) := by decide +kernel
theorem dX12_shortest_1 : decode cX12_shortest 1 = .ok (.aload_n 0, 1) := by decide +kernel
theorem dX12_shortest_2 : decode cX12_shortest 2 = .ok (.iload_n 1, 1) := by decide +kernel
theorem dX12_shortest_3 : decode cX12_shortest 3 = .ok (.invokevirtual 96, 3) := by decide +kernel
theorem dX12_shortest_6 : decode cX12_shortest 6 = .ok (.ifCond .eq 7, 3) := by decide +kernel
theorem dX12_shortest_9 : decode cX12_shortest 9 = .ok (.iconst 0, 1) := by decide +kernel
theorem dX12_shortest_10 : decode cX12_shortest 10 = .ok (.goto 4, 3) := by decide +kernel
theorem dX12_shortest_13 : decode cX12_shortest 13 = .ok (.iconst 1, 1) := by decide +kernel
theorem dX12_shortest_14 : decode cX12_shortest 14 = .ok (.putfield 31, 3) := by decide +kernel
theorem dX12_shortest_17 : decode cX12_shortest 17 = .ok (.aload_n 0, 1) := by decide +kernel
theorem dX12_shortest_18 : decode cX12_shortest 18 = .ok (.getfield 31, 3) := by decide +kernel
theorem dX12_shortest_21 : decode cX12_shortest 21 = .ok (.ifCond .le 7, 3) := by decide +kernel
theorem dX12_shortest_24 : decode cX12_shortest 24 = .ok (.iconst 0, 1) := by decide +kernel
theorem dX12_shortest_25 : decode cX12_shortest 25 = .ok (.goto 8, 3) := by decide +kernel
theorem dX12_shortest_28 : decode cX12_shortest 28 = .ok (.aload_n 0, 1) := by decide +kernel
theorem dX12_shortest_29 : decode cX12_shortest 29 = .ok (.iload_n 1, 1) := by decide +kernel
theorem dX12_shortest_30 : decode cX12_shortest 30 = .ok (.invokevirtual 210, 3) := by decide +kernel
theorem dX12_shortest_33 : decode cX12_shortest 33 = .ok (.ireturn, 1) := by decide +kernel
set_option maxRecDepth 20000 in
theorem ggX12_rateNow_X12_letters : GoodIn wsX12_rateNow wsX12_letters := goodIn_r _ [6, 1, 7, 8, 5, 9, 10, 11, 12, 13, 14, 15, 16, 17, 18, 19, 20, 21, 22, 23] (by decide +kernel) (by decide +kernel)
set_option maxRecDepth 20000 in
theorem gX12_rateNow_X12_letters : GoodIn wsX12_rateNow (wsV RX12 177 RX12 yX12_letters wsX12_letters) := goodIn_app (goodIn_of _ (by decide +kernel)) ggX12_rateNow_X12_letters
theorem dX12_rateNow_0 : decode cX12_rateNow 0 = .ok (.aload_n 0, 1) := by decide +kernel
theorem dX12_rateNow_1 : decode cX12_rateNow 1 = .ok (.getfield 7, 3) := by decide +kernel
theorem dX12_rateNow_4 : decode cX12_rateNow 4 = .ok (.sipush 337, 3) := by decide +kernel
theorem dX12_rateNow_7 : decode cX12_rateNow 7 = .ok (.iaload, 1) := by decide +kernel
theorem dX12_rateNow_8 : decode cX12_rateNow 8 = .ok (.ifCond .ne 7, 3) := by decide +kernel
theorem dX12_rateNow_11 : decode cX12_rateNow 11 = .ok (.dconst 0, 1) := by decide +kernel
theorem dX12_rateNow_12 : decode cX12_rateNow 12 = .ok (.goto 20, 3) := by decide +kernel
theorem dX12_rateNow_15 : decode cX12_rateNow 15 = .ok (.dconst 1, 1) := by decide +kernel
theorem dX12_rateNow_16 : decode cX12_rateNow 16 = .ok (.aload_n 0, 1) := by decide +kernel
theorem dX12_rateNow_17 : decode cX12_rateNow 17 = .ok (.invokevirtual 177, 3) := by decide +kernel
theorem dX12_rateNow_20 : decode cX12_rateNow 20 = .ok (.i2d, 1) := by decide +kernel
theorem dX12_rateNow_21 : decode cX12_rateNow 21 = .ok (.dmul, 1) := by decide +kernel
theorem dX12_rateNow_22 : decode cX12_rateNow 22 = .ok (.aload_n 0, 1) := by decide +kernel
theorem dX12_rateNow_23 : decode cX12_rateNow 23 = .ok (.getfield 7, 3) := by decide +kernel
theorem dX12_rateNow_26 : decode cX12_rateNow 26 = .ok (.sipush 337, 3) := by decide +kernel
theorem dX12_rateNow_29 : decode cX12_rateNow 29 = .ok (.iaload, 1) := by decide +kernel
theorem dX12_rateNow_30 : decode cX12_rateNow 30 = .ok (.i2d, 1) := by decide +kernel
theorem dX12_rateNow_31 : decode cX12_rateNow 31 = .ok (.ddiv, 1) := by decide +kernel
theorem dX12_rateNow_32 : decode cX12_rateNow 32 = .ok (.dreturn, 1) := by decide +kernel
set_option maxRecDepth 20000 in
theorem ggX12_lettersPerStroke_X12_rateNow : GoodIn wsX12_lettersPerStroke wsX12_rateNow := goodIn_r _ [6, 7, 8, 9, 10, 5, 11, 12, 13, 14, 15, 16, 17, 18, 19, 20, 21, 22, 23, 24, 25, 26, 27, 28] (by decide +kernel) (by decide +kernel)
set_option maxRecDepth 20000 in
theorem gX12_lettersPerStroke_X12_rateNow : GoodIn wsX12_lettersPerStroke (wsV RX12 213 RX12 yX12_rateNow wsX12_rateNow) := goodIn_app (goodIn_of _ (by decide +kernel)) ggX12_lettersPerStroke_X12_rateNow
theorem dX12_lettersPerStroke_0 : decode cX12_lettersPerStroke 0 = .ok (.aload_n 0, 1) := by decide +kernel
theorem dX12_lettersPerStroke_1 : decode cX12_lettersPerStroke 1 = .ok (.iconst 0, 1) := by decide +kernel
theorem dX12_lettersPerStroke_2 : decode cX12_lettersPerStroke 2 = .ok (.putfield 31, 3) := by decide +kernel
theorem dX12_lettersPerStroke_5 : decode cX12_lettersPerStroke 5 = .ok (.aload_n 0, 1) := by decide +kernel
theorem dX12_lettersPerStroke_6 : decode cX12_lettersPerStroke 6 = .ok (.invokevirtual 213, 3) := by decide +kernel
theorem dX12_lettersPerStroke_9 : decode cX12_lettersPerStroke 9 = .ok (.dreturn, 1) := by decide +kernel
theorem dX12_mix_0 : decode cX12_mix 0 = .ok (.aload_n 0, 1) := by decide +kernel
theorem dX12_mix_1 : decode cX12_mix 1 = .ok (.ldc2_w 217, 3) := by decide +kernel
theorem dX12_mix_4 : decode cX12_mix 4 = .ok (.aload_n 0, 1) := by decide +kernel
theorem dX12_mix_5 : decode cX12_mix 5 = .ok (.getfield 219, 3) := by decide +kernel
theorem dX12_mix_8 : decode cX12_mix 8 = .ok (.lmul, 1) := by decide +kernel
theorem dX12_mix_9 : decode cX12_mix 9 = .ok (.lload_n 1, 1) := by decide +kernel
theorem dX12_mix_10 : decode cX12_mix 10 = .ok (.ladd, 1) := by decide +kernel
theorem dX12_mix_11 : decode cX12_mix 11 = .ok (.putfield 219, 3) := by decide +kernel
theorem dX12_mix_14 : decode cX12_mix 14 = .ok (.return_, 1) := by decide +kernel
set_option maxRecDepth 20000 in
theorem ggX12_mixItem_X12_itemAt : GoodIn wsX12_mixItem wsX12_itemAt := goodIn_r _ [5] (by decide +kernel) (by decide +kernel)
set_option maxRecDepth 20000 in
theorem gX12_mixItem_X12_itemAt : GoodIn wsX12_mixItem (va_wsS RX12 57 yX12_itemAt wsX12_itemAt) := goodIn_app (goodIn_of _ (by decide +kernel)) ggX12_mixItem_X12_itemAt
set_option maxRecDepth 20000 in
theorem ggX12_mixItem_X12_itemNow : GoodIn wsX12_mixItem wsX12_itemNow := goodIn_r _ [9, 1, 10, 11, 12, 4, 13, 2, 3, 5, 20, 21, 22, 23, 24, 25, 26, 27, 28, 29, 30, 31, 32, 33] (by decide +kernel) (by decide +kernel)
set_option maxRecDepth 20000 in
theorem gX12_mixItem_X12_itemNow : GoodIn wsX12_mixItem (wsV RX12 168 RX12 yX12_itemNow wsX12_itemNow) := goodIn_app (goodIn_of _ (by decide +kernel)) ggX12_mixItem_X12_itemNow
set_option maxRecDepth 20000 in
theorem ggX12_mixItem_X12_mix : GoodIn wsX12_mixItem wsX12_mix := goodIn_r _ [17, 18, 19, 20, 21, 22, 23, 24, 25, 26, 27, 28, 29, 30, 31, 32, 33] (by decide +kernel) (by decide +kernel)
set_option maxRecDepth 20000 in
theorem gX12_mixItem_X12_mix : GoodIn wsX12_mixItem (wsV RX12 223 RX12 yX12_mix wsX12_mix) := goodIn_app (goodIn_of _ (by decide +kernel)) ggX12_mixItem_X12_mix
theorem dX12_mixItem_0 : decode cX12_mixItem 0 = .ok (.iconst 0, 1) := by decide +kernel
theorem dX12_mixItem_1 : decode cX12_mixItem 1 = .ok (.istore_n 2, 1) := by decide +kernel
theorem dX12_mixItem_2 : decode cX12_mixItem 2 = .ok (.iload_n 2, 1) := by decide +kernel
theorem dX12_mixItem_3 : decode cX12_mixItem 3 = .ok (.iconst 5, 1) := by decide +kernel
theorem dX12_mixItem_4 : decode cX12_mixItem 4 = .ok (.aload_n 0, 1) := by decide +kernel
theorem dX12_mixItem_5 : decode cX12_mixItem 5 = .ok (.getfield 7, 3) := by decide +kernel
theorem dX12_mixItem_8 : decode cX12_mixItem 8 = .ok (.iload_n 1, 1) := by decide +kernel
theorem dX12_mixItem_9 : decode cX12_mixItem 9 = .ok (.invokestatic 57, 3) := by decide +kernel
theorem dX12_mixItem_12 : decode cX12_mixItem 12 = .ok (.iconst 2, 1) := by decide +kernel
theorem dX12_mixItem_13 : decode cX12_mixItem 13 = .ok (.iadd, 1) := by decide +kernel
theorem dX12_mixItem_14 : decode cX12_mixItem 14 = .ok (.iaload, 1) := by decide +kernel
theorem dX12_mixItem_15 : decode cX12_mixItem 15 = .ok (.iadd, 1) := by decide +kernel
theorem dX12_mixItem_16 : decode cX12_mixItem 16 = .ok (.if_icmp .ge 20, 3) := by decide +kernel
theorem dX12_mixItem_19 : decode cX12_mixItem 19 = .ok (.aload_n 0, 1) := by decide +kernel
theorem dX12_mixItem_20 : decode cX12_mixItem 20 = .ok (.aload_n 0, 1) := by decide +kernel
theorem dX12_mixItem_21 : decode cX12_mixItem 21 = .ok (.iload_n 1, 1) := by decide +kernel
theorem dX12_mixItem_22 : decode cX12_mixItem 22 = .ok (.iload_n 2, 1) := by decide +kernel
theorem dX12_mixItem_23 : decode cX12_mixItem 23 = .ok (.invokevirtual 168, 3) := by decide +kernel
theorem dX12_mixItem_26 : decode cX12_mixItem 26 = .ok (.i2l, 1) := by decide +kernel
theorem dX12_mixItem_27 : decode cX12_mixItem 27 = .ok (.invokevirtual 223, 3) := by decide +kernel
theorem dX12_mixItem_30 : decode cX12_mixItem 30 = .ok (.iinc 2 1, 3) := by decide +kernel
theorem dX12_mixItem_33 : decode cX12_mixItem 33 = .ok (.goto (-31), 3) := by decide +kernel
theorem dX12_mixItem_36 : decode cX12_mixItem 36 = .ok (.return_, 1) := by decide +kernel
set_option maxRecDepth 20000 in
theorem ggX12_mixEntry_X12_entryNow : GoodIn wsX12_mixEntry wsX12_entryNow := goodIn_r _ [5, 6, 7, 8, 4, 9, 10, 11, 12, 13, 14, 15, 16, 17, 18, 19, 20, 21, 22, 23, 24, 25, 26, 27, 28, 29, 30, 31, 32, 50, 51, 52, 53, 54, 55, 56, 57, 58, 59, 60, 61, 62, 63] (by decide +kernel) (by decide +kernel)
set_option maxRecDepth 20000 in
theorem gX12_mixEntry_X12_entryNow : GoodIn wsX12_mixEntry (wsV RX12 174 RX12 yX12_entryNow wsX12_entryNow) := goodIn_app (goodIn_of _ (by decide +kernel)) ggX12_mixEntry_X12_entryNow
set_option maxRecDepth 20000 in
theorem ggX12_mixEntry_X12_mix : GoodIn wsX12_mixEntry wsX12_mix := goodIn_r _ [36, 37, 38, 50, 51, 52, 53, 54, 55, 56, 57, 58, 59, 60, 61, 62, 63] (by decide +kernel) (by decide +kernel)
set_option maxRecDepth 20000 in
theorem gX12_mixEntry_X12_mix : GoodIn wsX12_mixEntry (wsV RX12 223 RX12 yX12_mix wsX12_mix) := goodIn_app (goodIn_of _ (by decide +kernel)) ggX12_mixEntry_X12_mix
set_option maxRecDepth 20000 in
theorem ggX12_mixEntry_X12_shortestNow : GoodIn wsX12_mixEntry wsX12_shortestNow := goodIn_r _ [42, 6, 18, 19, 20, 4, 21, 7, 8, 9, 43, 44, 45, 46, 47, 48, 49, 50, 51, 52, 53, 54, 55, 56, 57, 58, 59, 60, 61, 62, 63] (by decide +kernel) (by decide +kernel)
set_option maxRecDepth 20000 in
theorem gX12_mixEntry_X12_shortestNow : GoodIn wsX12_mixEntry (wsV RX12 210 RX12 yX12_shortestNow wsX12_shortestNow) := goodIn_app (goodIn_of _ (by decide +kernel)) ggX12_mixEntry_X12_shortestNow
theorem dX12_mixEntry_0 : decode cX12_mixEntry 0 = .ok (.iconst 0, 1) := by decide +kernel
theorem dX12_mixEntry_1 : decode cX12_mixEntry 1 = .ok (.istore_n 2, 1) := by decide +kernel
theorem dX12_mixEntry_2 : decode cX12_mixEntry 2 = .ok (.iload_n 2, 1) := by decide +kernel
theorem dX12_mixEntry_3 : decode cX12_mixEntry 3 = .ok (.bipush 16, 2) := by decide +kernel
theorem dX12_mixEntry_5 : decode cX12_mixEntry 5 = .ok (.if_icmp .ge 20, 3) := by decide +kernel
theorem dX12_mixEntry_8 : decode cX12_mixEntry 8 = .ok (.aload_n 0, 1) := by decide +kernel
theorem dX12_mixEntry_9 : decode cX12_mixEntry 9 = .ok (.aload_n 0, 1) := by decide +kernel
theorem dX12_mixEntry_10 : decode cX12_mixEntry 10 = .ok (.iload_n 1, 1) := by decide +kernel
theorem dX12_mixEntry_11 : decode cX12_mixEntry 11 = .ok (.iload_n 2, 1) := by decide +kernel
theorem dX12_mixEntry_12 : decode cX12_mixEntry 12 = .ok (.invokevirtual 174, 3) := by decide +kernel
theorem dX12_mixEntry_15 : decode cX12_mixEntry 15 = .ok (.i2l, 1) := by decide +kernel
theorem dX12_mixEntry_16 : decode cX12_mixEntry 16 = .ok (.invokevirtual 223, 3) := by decide +kernel
theorem dX12_mixEntry_19 : decode cX12_mixEntry 19 = .ok (.iinc 2 1, 3) := by decide +kernel
theorem dX12_mixEntry_22 : decode cX12_mixEntry 22 = .ok (.goto (-20), 3) := by decide +kernel
theorem dX12_mixEntry_25 : decode cX12_mixEntry 25 = .ok (.aload_n 0, 1) := by decide +kernel
theorem dX12_mixEntry_26 : decode cX12_mixEntry 26 = .ok (.aload_n 0, 1) := by decide +kernel
theorem dX12_mixEntry_27 : decode cX12_mixEntry 27 = .ok (.iload_n 1, 1) := by decide +kernel
theorem dX12_mixEntry_28 : decode cX12_mixEntry 28 = .ok (.invokevirtual 210, 3) := by decide +kernel
theorem dX12_mixEntry_31 : decode cX12_mixEntry 31 = .ok (.i2l, 1) := by decide +kernel
theorem dX12_mixEntry_32 : decode cX12_mixEntry 32 = .ok (.invokevirtual 223, 3) := by decide +kernel
theorem dX12_mixEntry_35 : decode cX12_mixEntry 35 = .ok (.return_, 1) := by decide +kernel
set_option maxRecDepth 20000 in
theorem ggX12_digest_X12_counted : GoodIn wsX12_digest wsX12_counted := goodIn_r _ [11, 4, 12, 13, 14, 15, 10, 16, 17, 18, 19, 20, 21, 22, 23, 24, 25, 26, 27, 28, 29, 30, 31, 32, 33, 34, 35, 36, 37, 38, 39, 40, 41, 42, 43, 44, 45, 46, 47, 48, 49, 50, 51, 52, 53, 54, 149, 150, 151, 152, 153, 154, 155, 156, 157, 158, 159, 160, 161, 162] (by decide +kernel) (by decide +kernel)
set_option maxRecDepth 20000 in
theorem gX12_digest_X12_counted : GoodIn wsX12_digest (wsV RX12 183 RX12 yX12_counted wsX12_counted) := goodIn_app (goodIn_of _ (by decide +kernel)) ggX12_digest_X12_counted
set_option maxRecDepth 20000 in
theorem ggX12_digest_X12_mix : GoodIn wsX12_digest wsX12_mix := goodIn_r _ [58, 59, 3, 149, 150, 151, 152, 153, 154, 155, 156, 157, 158, 159, 160, 161, 162] (by decide +kernel) (by decide +kernel)
set_option maxRecDepth 20000 in
theorem gX12_digest_X12_mix : GoodIn wsX12_digest (wsV RX12 223 RX12 yX12_mix wsX12_mix) := goodIn_app (goodIn_of _ (by decide +kernel)) ggX12_digest_X12_mix
set_option maxRecDepth 20000 in
theorem ggX12_digest_X12_strokeNow : GoodIn wsX12_digest wsX12_strokeNow := goodIn_r _ [63, 4, 64, 65, 10, 66, 67, 68, 69, 70, 71, 72, 73, 74, 21, 22, 23, 149, 150, 151, 152, 153, 154, 155, 156, 157, 158, 159, 160, 161, 162] (by decide +kernel) (by decide +kernel)
set_option maxRecDepth 20000 in
theorem gX12_digest_X12_strokeNow : GoodIn wsX12_digest (wsV RX12 164 RX12 yX12_strokeNow wsX12_strokeNow) := goodIn_app (goodIn_of _ (by decide +kernel)) ggX12_digest_X12_strokeNow
set_option maxRecDepth 20000 in
theorem ggX12_digest_X12_mixItem : GoodIn wsX12_digest wsX12_mixItem := goodIn_r _ [78, 4, 21, 22, 10, 23, 79, 80, 81, 82, 71, 72, 73, 74, 55, 56, 57, 58, 59, 3, 149, 150, 151, 152, 153, 154, 155, 156, 157, 158, 159, 160, 161, 162] (by decide +kernel) (by decide +kernel)
set_option maxRecDepth 20000 in
theorem gX12_digest_X12_mixItem : GoodIn wsX12_digest (wsV RX12 229 RX12 yX12_mixItem wsX12_mixItem) := goodIn_app (goodIn_of _ (by decide +kernel)) ggX12_digest_X12_mixItem
set_option maxRecDepth 20000 in
theorem ggX12_digest_X12_mixEntry : GoodIn wsX12_digest wsX12_mixEntry := goodIn_r _ [86, 87, 88, 89, 10, 90, 4, 44, 45, 46, 36, 37, 38, 39, 40, 41, 42, 43, 47, 48, 49, 50, 51, 52, 53, 54, 28, 29, 30, 31, 21, 22, 23, 55, 56, 57, 58, 59, 3, 91, 92, 93, 94, 95, 96, 97, 98, 64, 65, 66, 149, 150, 151, 152, 153, 154, 155, 156, 157, 158, 159, 160, 161, 162] (by decide +kernel) (by decide +kernel)
set_option maxRecDepth 20000 in
theorem gX12_digest_X12_mixEntry : GoodIn wsX12_digest (wsV RX12 232 RX12 yX12_mixEntry wsX12_mixEntry) := goodIn_app (goodIn_of _ (by decide +kernel)) ggX12_digest_X12_mixEntry
set_option maxRecDepth 20000 in
theorem ggX12_digest_X12_fewestNow : GoodIn wsX12_digest wsX12_fewestNow := goodIn_r _ [102, 103, 5, 4, 104, 105, 106, 10, 107, 108, 109, 110, 111, 6, 44, 45, 46, 149, 150, 151, 152, 153, 154, 155, 156, 157, 158, 159, 160, 161, 162] (by decide +kernel) (by decide +kernel)
set_option maxRecDepth 20000 in
theorem gX12_digest_X12_fewestNow : GoodIn wsX12_digest (wsV RX12 195 RX12 yX12_fewestNow wsX12_fewestNow) := goodIn_app (goodIn_of _ (by decide +kernel)) ggX12_digest_X12_fewestNow
set_option maxRecDepth 20000 in
theorem ggX12_digest_X12_backNow : GoodIn wsX12_digest wsX12_backNow := goodIn_r _ [115, 116, 117, 4, 5, 99, 100, 101, 10, 102, 103, 104, 105, 106, 107, 108, 109, 110, 111, 6, 44, 45, 46, 118, 119, 120, 121, 122, 123, 124, 125, 126, 127, 128, 129, 130, 131, 132, 149, 150, 151, 152, 153, 154, 155, 156, 157, 158, 159, 160, 161, 162] (by decide +kernel) (by decide +kernel)
set_option maxRecDepth 20000 in
theorem gX12_digest_X12_backNow : GoodIn wsX12_digest (wsV RX12 204 RX12 yX12_backNow wsX12_backNow) := goodIn_app (goodIn_of _ (by decide +kernel)) ggX12_digest_X12_backNow
set_option maxRecDepth 20000 in
theorem ggX12_digest_X12_rateNow : GoodIn wsX12_digest wsX12_rateNow := goodIn_r _ [136, 4, 24, 25, 26, 10, 27, 21, 22, 23, 149, 150, 151, 152, 153, 154, 155, 156, 157, 158, 159, 160, 161, 162] (by decide +kernel) (by decide +kernel)
set_option maxRecDepth 20000 in
theorem gX12_digest_X12_rateNow : GoodIn wsX12_digest (wsV RX12 213 RX12 yX12_rateNow wsX12_rateNow) := goodIn_app (goodIn_of _ (by decide +kernel)) ggX12_digest_X12_rateNow
set_option maxRecDepth 20000 in
theorem ggX12_digest_Jxe99ae_doubleToLongBits_ccdee : GoodIn wsX12_digest wsJxe99ae_doubleToLongBits_ccdee := goodIn_r _ [140, 141, 142, 143, 144, 145, 146, 147, 139, 148] (by decide +kernel) (by decide +kernel)
set_option maxRecDepth 20000 in
theorem gX12_digest_Jxe99ae_doubleToLongBits_ccdee : GoodIn wsX12_digest (va_wsS RX12 235 yJxe99ae_doubleToLongBits_ccdee wsJxe99ae_doubleToLongBits_ccdee) := goodIn_app (goodIn_of _ (by decide +kernel)) ggX12_digest_Jxe99ae_doubleToLongBits_ccdee
theorem dX12_digest_0 : decode cX12_digest 0 = .ok (.aload_n 0, 1) := by decide +kernel
theorem dX12_digest_1 : decode cX12_digest 1 = .ok (.iconst 0, 1) := by decide +kernel
theorem dX12_digest_2 : decode cX12_digest 2 = .ok (.putfield 31, 3) := by decide +kernel
theorem dX12_digest_5 : decode cX12_digest 5 = .ok (.aload_n 0, 1) := by decide +kernel
theorem dX12_digest_6 : decode cX12_digest 6 = .ok (.ldc2_w 227, 3) := by decide +kernel
theorem dX12_digest_9 : decode cX12_digest 9 = .ok (.putfield 219, 3) := by decide +kernel
theorem dX12_digest_12 : decode cX12_digest 12 = .ok (.iconst 0, 1) := by decide +kernel
theorem dX12_digest_13 : decode cX12_digest 13 = .ok (.istore_n 1, 1) := by decide +kernel
theorem dX12_digest_14 : decode cX12_digest 14 = .ok (.iload_n 1, 1) := by decide +kernel
theorem dX12_digest_15 : decode cX12_digest 15 = .ok (.bipush 10, 2) := by decide +kernel
theorem dX12_digest_17 : decode cX12_digest 17 = .ok (.if_icmp .ge 19, 3) := by decide +kernel
theorem dX12_digest_20 : decode cX12_digest 20 = .ok (.aload_n 0, 1) := by decide +kernel
theorem dX12_digest_21 : decode cX12_digest 21 = .ok (.aload_n 0, 1) := by decide +kernel
theorem dX12_digest_22 : decode cX12_digest 22 = .ok (.iload_n 1, 1) := by decide +kernel
theorem dX12_digest_23 : decode cX12_digest 23 = .ok (.invokevirtual 183, 3) := by decide +kernel
theorem dX12_digest_26 : decode cX12_digest 26 = .ok (.i2l, 1) := by decide +kernel
theorem dX12_digest_27 : decode cX12_digest 27 = .ok (.invokevirtual 223, 3) := by decide +kernel
theorem dX12_digest_30 : decode cX12_digest 30 = .ok (.iinc 1 1, 3) := by decide +kernel
theorem dX12_digest_33 : decode cX12_digest 33 = .ok (.goto (-19), 3) := by decide +kernel
theorem dX12_digest_36 : decode cX12_digest 36 = .ok (.iconst 0, 1) := by decide +kernel
theorem dX12_digest_37 : decode cX12_digest 37 = .ok (.istore_n 1, 1) := by decide +kernel
theorem dX12_digest_38 : decode cX12_digest 38 = .ok (.iload_n 1, 1) := by decide +kernel
theorem dX12_digest_39 : decode cX12_digest 39 = .ok (.iconst 3, 1) := by decide +kernel
theorem dX12_digest_40 : decode cX12_digest 40 = .ok (.aload_n 0, 1) := by decide +kernel
theorem dX12_digest_41 : decode cX12_digest 41 = .ok (.getfield 7, 3) := by decide +kernel
theorem dX12_digest_44 : decode cX12_digest 44 = .ok (.sipush 337, 3) := by decide +kernel
theorem dX12_digest_47 : decode cX12_digest 47 = .ok (.iaload, 1) := by decide +kernel
theorem dX12_digest_48 : decode cX12_digest 48 = .ok (.imul, 1) := by decide +kernel
theorem dX12_digest_49 : decode cX12_digest 49 = .ok (.if_icmp .ge 24, 3) := by decide +kernel
theorem dX12_digest_52 : decode cX12_digest 52 = .ok (.aload_n 0, 1) := by decide +kernel
theorem dX12_digest_53 : decode cX12_digest 53 = .ok (.aload_n 0, 1) := by decide +kernel
theorem dX12_digest_54 : decode cX12_digest 54 = .ok (.iload_n 1, 1) := by decide +kernel
theorem dX12_digest_55 : decode cX12_digest 55 = .ok (.iconst 3, 1) := by decide +kernel
theorem dX12_digest_56 : decode cX12_digest 56 = .ok (.idiv, 1) := by decide +kernel
theorem dX12_digest_57 : decode cX12_digest 57 = .ok (.iload_n 1, 1) := by decide +kernel
theorem dX12_digest_58 : decode cX12_digest 58 = .ok (.iconst 3, 1) := by decide +kernel
theorem dX12_digest_59 : decode cX12_digest 59 = .ok (.irem, 1) := by decide +kernel
theorem dX12_digest_60 : decode cX12_digest 60 = .ok (.invokevirtual 164, 3) := by decide +kernel
theorem dX12_digest_63 : decode cX12_digest 63 = .ok (.i2l, 1) := by decide +kernel
theorem dX12_digest_64 : decode cX12_digest 64 = .ok (.invokevirtual 223, 3) := by decide +kernel
theorem dX12_digest_67 : decode cX12_digest 67 = .ok (.iinc 1 1, 3) := by decide +kernel
theorem dX12_digest_70 : decode cX12_digest 70 = .ok (.goto (-32), 3) := by decide +kernel
theorem dX12_digest_73 : decode cX12_digest 73 = .ok (.iconst 0, 1) := by decide +kernel
theorem dX12_digest_74 : decode cX12_digest 74 = .ok (.istore_n 1, 1) := by decide +kernel
theorem dX12_digest_75 : decode cX12_digest 75 = .ok (.iload_n 1, 1) := by decide +kernel
theorem dX12_digest_76 : decode cX12_digest 76 = .ok (.aload_n 0, 1) := by decide +kernel
theorem dX12_digest_77 : decode cX12_digest 77 = .ok (.getfield 7, 3) := by decide +kernel
theorem dX12_digest_80 : decode cX12_digest 80 = .ok (.sipush 399, 3) := by decide +kernel
theorem dX12_digest_83 : decode cX12_digest 83 = .ok (.iaload, 1) := by decide +kernel
theorem dX12_digest_84 : decode cX12_digest 84 = .ok (.if_icmp .ge 14, 3) := by decide +kernel
theorem dX12_digest_87 : decode cX12_digest 87 = .ok (.aload_n 0, 1) := by decide +kernel
theorem dX12_digest_88 : decode cX12_digest 88 = .ok (.iload_n 1, 1) := by decide +kernel
theorem dX12_digest_89 : decode cX12_digest 89 = .ok (.invokevirtual 229, 3) := by decide +kernel
theorem dX12_digest_92 : decode cX12_digest 92 = .ok (.iinc 1 1, 3) := by decide +kernel
theorem dX12_digest_95 : decode cX12_digest 95 = .ok (.goto (-20), 3) := by decide +kernel
theorem dX12_digest_98 : decode cX12_digest 98 = .ok (.iconst 0, 1) := by decide +kernel
theorem dX12_digest_99 : decode cX12_digest 99 = .ok (.istore_n 1, 1) := by decide +kernel
theorem dX12_digest_100 : decode cX12_digest 100 = .ok (.iload_n 1, 1) := by decide +kernel
theorem dX12_digest_101 : decode cX12_digest 101 = .ok (.aload_n 0, 1) := by decide +kernel
theorem dX12_digest_102 : decode cX12_digest 102 = .ok (.getfield 7, 3) := by decide +kernel
theorem dX12_digest_105 : decode cX12_digest 105 = .ok (.iconst 0, 1) := by decide +kernel
theorem dX12_digest_106 : decode cX12_digest 106 = .ok (.iaload, 1) := by decide +kernel
theorem dX12_digest_107 : decode cX12_digest 107 = .ok (.if_icmp .ge 14, 3) := by decide +kernel
theorem dX12_digest_110 : decode cX12_digest 110 = .ok (.aload_n 0, 1) := by decide +kernel
theorem dX12_digest_111 : decode cX12_digest 111 = .ok (.iload_n 1, 1) := by decide +kernel
theorem dX12_digest_112 : decode cX12_digest 112 = .ok (.invokevirtual 232, 3) := by decide +kernel
theorem dX12_digest_115 : decode cX12_digest 115 = .ok (.iinc 1 1, 3) := by decide +kernel
theorem dX12_digest_118 : decode cX12_digest 118 = .ok (.goto (-18), 3) := by decide +kernel
theorem dX12_digest_121 : decode cX12_digest 121 = .ok (.aload_n 0, 1) := by decide +kernel
theorem dX12_digest_122 : decode cX12_digest 122 = .ok (.aload_n 0, 1) := by decide +kernel
theorem dX12_digest_123 : decode cX12_digest 123 = .ok (.invokevirtual 195, 3) := by decide +kernel
theorem dX12_digest_126 : decode cX12_digest 126 = .ok (.i2l, 1) := by decide +kernel
theorem dX12_digest_127 : decode cX12_digest 127 = .ok (.invokevirtual 223, 3) := by decide +kernel
theorem dX12_digest_130 : decode cX12_digest 130 = .ok (.aload_n 0, 1) := by decide +kernel
theorem dX12_digest_131 : decode cX12_digest 131 = .ok (.aload_n 0, 1) := by decide +kernel
theorem dX12_digest_132 : decode cX12_digest 132 = .ok (.invokevirtual 204, 3) := by decide +kernel
theorem dX12_digest_135 : decode cX12_digest 135 = .ok (.i2l, 1) := by decide +kernel
theorem dX12_digest_136 : decode cX12_digest 136 = .ok (.invokevirtual 223, 3) := by decide +kernel
theorem dX12_digest_139 : decode cX12_digest 139 = .ok (.aload_n 0, 1) := by decide +kernel
theorem dX12_digest_140 : decode cX12_digest 140 = .ok (.aload_n 0, 1) := by decide +kernel
theorem dX12_digest_141 : decode cX12_digest 141 = .ok (.invokevirtual 213, 3) := by decide +kernel
theorem dX12_digest_144 : decode cX12_digest 144 = .ok (.invokestatic 235, 3) := by decide +kernel
theorem dX12_digest_147 : decode cX12_digest 147 = .ok (.invokevirtual 223, 3) := by decide +kernel
theorem dX12_digest_150 : decode cX12_digest 150 = .ok (.aload_n 0, 1) := by decide +kernel
theorem dX12_digest_151 : decode cX12_digest 151 = .ok (.aload_n 0, 1) := by decide +kernel
theorem dX12_digest_152 : decode cX12_digest 152 = .ok (.getfield 121, 3) := by decide +kernel
theorem dX12_digest_155 : decode cX12_digest 155 = .ok (.i2l, 1) := by decide +kernel
theorem dX12_digest_156 : decode cX12_digest 156 = .ok (.invokevirtual 223, 3) := by decide +kernel
theorem dX12_digest_159 : decode cX12_digest 159 = .ok (.iconst 0, 1) := by decide +kernel
theorem dX12_digest_160 : decode cX12_digest 160 = .ok (.istore_n 1, 1) := by decide +kernel
theorem dX12_digest_161 : decode cX12_digest 161 = .ok (.iload_n 1, 1) := by decide +kernel
theorem dX12_digest_162 : decode cX12_digest 162 = .ok (.aload_n 0, 1) := by decide +kernel
theorem dX12_digest_163 : decode cX12_digest 163 = .ok (.getfield 121, 3) := by decide +kernel
theorem dX12_digest_166 : decode cX12_digest 166 = .ok (.if_icmp .ge 20, 3) := by decide +kernel
theorem dX12_digest_169 : decode cX12_digest 169 = .ok (.aload_n 0, 1) := by decide +kernel
theorem dX12_digest_170 : decode cX12_digest 170 = .ok (.aload_n 0, 1) := by decide +kernel
theorem dX12_digest_171 : decode cX12_digest 171 = .ok (.getfield 16, 3) := by decide +kernel
theorem dX12_digest_174 : decode cX12_digest 174 = .ok (.iload_n 1, 1) := by decide +kernel
theorem dX12_digest_175 : decode cX12_digest 175 = .ok (.iaload, 1) := by decide +kernel
theorem dX12_digest_176 : decode cX12_digest 176 = .ok (.i2l, 1) := by decide +kernel
theorem dX12_digest_177 : decode cX12_digest 177 = .ok (.invokevirtual 223, 3) := by decide +kernel
theorem dX12_digest_180 : decode cX12_digest 180 = .ok (.iinc 1 1, 3) := by decide +kernel
theorem dX12_digest_183 : decode cX12_digest 183 = .ok (.goto (-22), 3) := by decide +kernel
theorem dX12_digest_186 : decode cX12_digest 186 = .ok (.aload_n 0, 1) := by decide +kernel
theorem dX12_digest_187 : decode cX12_digest 187 = .ok (.getfield 219, 3) := by decide +kernel
theorem dX12_digest_190 : decode cX12_digest 190 = .ok (.lreturn, 1) := by decide +kernel
theorem dJxe99ae_isNaN_b9ae7_0 : decode cJxe99ae_isNaN_b9ae7 0 = .ok (.dload_n 0, 1) := by decide +kernel
theorem dJxe99ae_isNaN_b9ae7_1 : decode cJxe99ae_isNaN_b9ae7 1 = .ok (.dload_n 0, 1) := by decide +kernel
theorem dJxe99ae_isNaN_b9ae7_2 : decode cJxe99ae_isNaN_b9ae7 2 = .ok (.dcmp .l, 1) := by decide +kernel
theorem dJxe99ae_isNaN_b9ae7_3 : decode cJxe99ae_isNaN_b9ae7 3 = .ok (.ifCond .eq 7, 3) := by decide +kernel
theorem dJxe99ae_isNaN_b9ae7_6 : decode cJxe99ae_isNaN_b9ae7 6 = .ok (.iconst 1, 1) := by decide +kernel
theorem dJxe99ae_isNaN_b9ae7_7 : decode cJxe99ae_isNaN_b9ae7 7 = .ok (.goto 4, 3) := by decide +kernel
theorem dJxe99ae_isNaN_b9ae7_10 : decode cJxe99ae_isNaN_b9ae7 10 = .ok (.iconst 0, 1) := by decide +kernel
theorem dJxe99ae_isNaN_b9ae7_11 : decode cJxe99ae_isNaN_b9ae7 11 = .ok (.ireturn, 1) := by decide +kernel
set_option maxRecDepth 20000 in
theorem ggJxe99ae_doubleToLongBits_ccdee_Jxe99ae_isNaN_b9ae7 : GoodIn wsJxe99ae_doubleToLongBits_ccdee wsJxe99ae_isNaN_b9ae7 := goodIn_r _ [9] (by decide +kernel) (by decide +kernel)
set_option maxRecDepth 20000 in
theorem gJxe99ae_doubleToLongBits_ccdee_Jxe99ae_isNaN_b9ae7 : GoodIn wsJxe99ae_doubleToLongBits_ccdee (va_wsS RJxe99ae 122 yJxe99ae_isNaN_b9ae7 wsJxe99ae_isNaN_b9ae7) := goodIn_app (goodIn_of _ (by decide +kernel)) ggJxe99ae_doubleToLongBits_ccdee_Jxe99ae_isNaN_b9ae7
theorem dJxe99ae_doubleToLongBits_ccdee_0 : decode cJxe99ae_doubleToLongBits_ccdee 0 = .ok (.dload_n 0, 1) := by decide +kernel
theorem dJxe99ae_doubleToLongBits_ccdee_1 : decode cJxe99ae_doubleToLongBits_ccdee 1 = .ok (.invokestatic 122, 3) := by decide +kernel
theorem dJxe99ae_doubleToLongBits_ccdee_4 : decode cJxe99ae_doubleToLongBits_ccdee 4 = .ok (.ifCond .ne 8, 3) := by decide +kernel
theorem dJxe99ae_doubleToLongBits_ccdee_7 : decode cJxe99ae_doubleToLongBits_ccdee 7 = .ok (.dload_n 0, 1) := by decide +kernel
theorem dJxe99ae_doubleToLongBits_ccdee_8 : decode cJxe99ae_doubleToLongBits_ccdee 8 = .ok (.invokestatic 134, 3) := by decide +kernel
theorem dJxe99ae_doubleToLongBits_ccdee_11 : decode cJxe99ae_doubleToLongBits_ccdee 11 = .ok (.lreturn, 1) := by decide +kernel
theorem dJxe99ae_doubleToLongBits_ccdee_12 : decode cJxe99ae_doubleToLongBits_ccdee 12 = .ok (.ldc2_w 137, 3) := by decide +kernel
theorem dJxe99ae_doubleToLongBits_ccdee_15 : decode cJxe99ae_doubleToLongBits_ccdee 15 = .ok (.lreturn, 1) := by decide +kernel
theorem dJ6_bitCount_0f7a4_0 : decode cJ6_bitCount_0f7a4 0 = .ok (.iload_n 0, 1) := by decide +kernel
theorem dJ6_bitCount_0f7a4_1 : decode cJ6_bitCount_0f7a4 1 = .ok (.iload_n 0, 1) := by decide +kernel
theorem dJ6_bitCount_0f7a4_2 : decode cJ6_bitCount_0f7a4 2 = .ok (.iconst 1, 1) := by decide +kernel
theorem dJ6_bitCount_0f7a4_3 : decode cJ6_bitCount_0f7a4 3 = .ok (.iushr, 1) := by decide +kernel
theorem dJ6_bitCount_0f7a4_4 : decode cJ6_bitCount_0f7a4 4 = .ok (.ldc_w 265, 3) := by decide +kernel
theorem dJ6_bitCount_0f7a4_7 : decode cJ6_bitCount_0f7a4 7 = .ok (.iand, 1) := by decide +kernel
theorem dJ6_bitCount_0f7a4_8 : decode cJ6_bitCount_0f7a4 8 = .ok (.isub, 1) := by decide +kernel
theorem dJ6_bitCount_0f7a4_9 : decode cJ6_bitCount_0f7a4 9 = .ok (.istore_n 0, 1) := by decide +kernel
theorem dJ6_bitCount_0f7a4_10 : decode cJ6_bitCount_0f7a4 10 = .ok (.iload_n 0, 1) := by decide +kernel
theorem dJ6_bitCount_0f7a4_11 : decode cJ6_bitCount_0f7a4 11 = .ok (.ldc_w 266, 3) := by decide +kernel
theorem dJ6_bitCount_0f7a4_14 : decode cJ6_bitCount_0f7a4 14 = .ok (.iand, 1) := by decide +kernel
theorem dJ6_bitCount_0f7a4_15 : decode cJ6_bitCount_0f7a4 15 = .ok (.iload_n 0, 1) := by decide +kernel
theorem dJ6_bitCount_0f7a4_16 : decode cJ6_bitCount_0f7a4 16 = .ok (.iconst 2, 1) := by decide +kernel
theorem dJ6_bitCount_0f7a4_17 : decode cJ6_bitCount_0f7a4 17 = .ok (.iushr, 1) := by decide +kernel
theorem dJ6_bitCount_0f7a4_18 : decode cJ6_bitCount_0f7a4 18 = .ok (.ldc_w 266, 3) := by decide +kernel
theorem dJ6_bitCount_0f7a4_21 : decode cJ6_bitCount_0f7a4 21 = .ok (.iand, 1) := by decide +kernel
theorem dJ6_bitCount_0f7a4_22 : decode cJ6_bitCount_0f7a4 22 = .ok (.iadd, 1) := by decide +kernel
theorem dJ6_bitCount_0f7a4_23 : decode cJ6_bitCount_0f7a4 23 = .ok (.istore_n 0, 1) := by decide +kernel
theorem dJ6_bitCount_0f7a4_24 : decode cJ6_bitCount_0f7a4 24 = .ok (.iload_n 0, 1) := by decide +kernel
theorem dJ6_bitCount_0f7a4_25 : decode cJ6_bitCount_0f7a4 25 = .ok (.iload_n 0, 1) := by decide +kernel
theorem dJ6_bitCount_0f7a4_26 : decode cJ6_bitCount_0f7a4 26 = .ok (.iconst 4, 1) := by decide +kernel
theorem dJ6_bitCount_0f7a4_27 : decode cJ6_bitCount_0f7a4 27 = .ok (.iushr, 1) := by decide +kernel
theorem dJ6_bitCount_0f7a4_28 : decode cJ6_bitCount_0f7a4 28 = .ok (.iadd, 1) := by decide +kernel
theorem dJ6_bitCount_0f7a4_29 : decode cJ6_bitCount_0f7a4 29 = .ok (.ldc_w 267, 3) := by decide +kernel
theorem dJ6_bitCount_0f7a4_32 : decode cJ6_bitCount_0f7a4 32 = .ok (.iand, 1) := by decide +kernel
theorem dJ6_bitCount_0f7a4_33 : decode cJ6_bitCount_0f7a4 33 = .ok (.istore_n 0, 1) := by decide +kernel
theorem dJ6_bitCount_0f7a4_34 : decode cJ6_bitCount_0f7a4 34 = .ok (.iload_n 0, 1) := by decide +kernel
theorem dJ6_bitCount_0f7a4_35 : decode cJ6_bitCount_0f7a4 35 = .ok (.iload_n 0, 1) := by decide +kernel
theorem dJ6_bitCount_0f7a4_36 : decode cJ6_bitCount_0f7a4 36 = .ok (.bipush 8, 2) := by decide +kernel
theorem dJ6_bitCount_0f7a4_38 : decode cJ6_bitCount_0f7a4 38 = .ok (.iushr, 1) := by decide +kernel
theorem dJ6_bitCount_0f7a4_39 : decode cJ6_bitCount_0f7a4 39 = .ok (.iadd, 1) := by decide +kernel
theorem dJ6_bitCount_0f7a4_40 : decode cJ6_bitCount_0f7a4 40 = .ok (.istore_n 0, 1) := by decide +kernel
theorem dJ6_bitCount_0f7a4_41 : decode cJ6_bitCount_0f7a4 41 = .ok (.iload_n 0, 1) := by decide +kernel
theorem dJ6_bitCount_0f7a4_42 : decode cJ6_bitCount_0f7a4 42 = .ok (.iload_n 0, 1) := by decide +kernel
theorem dJ6_bitCount_0f7a4_43 : decode cJ6_bitCount_0f7a4 43 = .ok (.bipush 16, 2) := by decide +kernel
theorem dJ6_bitCount_0f7a4_45 : decode cJ6_bitCount_0f7a4 45 = .ok (.iushr, 1) := by decide +kernel
theorem dJ6_bitCount_0f7a4_46 : decode cJ6_bitCount_0f7a4 46 = .ok (.iadd, 1) := by decide +kernel
theorem dJ6_bitCount_0f7a4_47 : decode cJ6_bitCount_0f7a4 47 = .ok (.istore_n 0, 1) := by decide +kernel
theorem dJ6_bitCount_0f7a4_48 : decode cJ6_bitCount_0f7a4 48 = .ok (.iload_n 0, 1) := by decide +kernel
theorem dJ6_bitCount_0f7a4_49 : decode cJ6_bitCount_0f7a4 49 = .ok (.bipush 63, 2) := by decide +kernel
theorem dJ6_bitCount_0f7a4_51 : decode cJ6_bitCount_0f7a4 51 = .ok (.iand, 1) := by decide +kernel
theorem dJ6_bitCount_0f7a4_52 : decode cJ6_bitCount_0f7a4 52 = .ok (.ireturn, 1) := by decide +kernel
theorem dJ13_bitCount_95d88_0 : decode cJ13_bitCount_95d88 0 = .ok (.lload_n 0, 1) := by decide +kernel
theorem dJ13_bitCount_95d88_1 : decode cJ13_bitCount_95d88 1 = .ok (.lload_n 0, 1) := by decide +kernel
theorem dJ13_bitCount_95d88_2 : decode cJ13_bitCount_95d88 2 = .ok (.iconst 1, 1) := by decide +kernel
theorem dJ13_bitCount_95d88_3 : decode cJ13_bitCount_95d88 3 = .ok (.lushr, 1) := by decide +kernel
theorem dJ13_bitCount_95d88_4 : decode cJ13_bitCount_95d88 4 = .ok (.ldc2_w 314, 3) := by decide +kernel
theorem dJ13_bitCount_95d88_7 : decode cJ13_bitCount_95d88 7 = .ok (.land, 1) := by decide +kernel
theorem dJ13_bitCount_95d88_8 : decode cJ13_bitCount_95d88 8 = .ok (.lsub, 1) := by decide +kernel
theorem dJ13_bitCount_95d88_9 : decode cJ13_bitCount_95d88 9 = .ok (.lstore_n 0, 1) := by decide +kernel
theorem dJ13_bitCount_95d88_10 : decode cJ13_bitCount_95d88 10 = .ok (.lload_n 0, 1) := by decide +kernel
theorem dJ13_bitCount_95d88_11 : decode cJ13_bitCount_95d88 11 = .ok (.ldc2_w 316, 3) := by decide +kernel
theorem dJ13_bitCount_95d88_14 : decode cJ13_bitCount_95d88 14 = .ok (.land, 1) := by decide +kernel
theorem dJ13_bitCount_95d88_15 : decode cJ13_bitCount_95d88 15 = .ok (.lload_n 0, 1) := by decide +kernel
theorem dJ13_bitCount_95d88_16 : decode cJ13_bitCount_95d88 16 = .ok (.iconst 2, 1) := by decide +kernel
theorem dJ13_bitCount_95d88_17 : decode cJ13_bitCount_95d88 17 = .ok (.lushr, 1) := by decide +kernel
theorem dJ13_bitCount_95d88_18 : decode cJ13_bitCount_95d88 18 = .ok (.ldc2_w 316, 3) := by decide +kernel
theorem dJ13_bitCount_95d88_21 : decode cJ13_bitCount_95d88 21 = .ok (.land, 1) := by decide +kernel
theorem dJ13_bitCount_95d88_22 : decode cJ13_bitCount_95d88 22 = .ok (.ladd, 1) := by decide +kernel
theorem dJ13_bitCount_95d88_23 : decode cJ13_bitCount_95d88 23 = .ok (.lstore_n 0, 1) := by decide +kernel
theorem dJ13_bitCount_95d88_24 : decode cJ13_bitCount_95d88 24 = .ok (.lload_n 0, 1) := by decide +kernel
theorem dJ13_bitCount_95d88_25 : decode cJ13_bitCount_95d88 25 = .ok (.lload_n 0, 1) := by decide +kernel
theorem dJ13_bitCount_95d88_26 : decode cJ13_bitCount_95d88 26 = .ok (.iconst 4, 1) := by decide +kernel
theorem dJ13_bitCount_95d88_27 : decode cJ13_bitCount_95d88 27 = .ok (.lushr, 1) := by decide +kernel
theorem dJ13_bitCount_95d88_28 : decode cJ13_bitCount_95d88 28 = .ok (.ladd, 1) := by decide +kernel
theorem dJ13_bitCount_95d88_29 : decode cJ13_bitCount_95d88 29 = .ok (.ldc2_w 318, 3) := by decide +kernel
theorem dJ13_bitCount_95d88_32 : decode cJ13_bitCount_95d88 32 = .ok (.land, 1) := by decide +kernel
theorem dJ13_bitCount_95d88_33 : decode cJ13_bitCount_95d88 33 = .ok (.lstore_n 0, 1) := by decide +kernel
theorem dJ13_bitCount_95d88_34 : decode cJ13_bitCount_95d88 34 = .ok (.lload_n 0, 1) := by decide +kernel
theorem dJ13_bitCount_95d88_35 : decode cJ13_bitCount_95d88 35 = .ok (.lload_n 0, 1) := by decide +kernel
theorem dJ13_bitCount_95d88_36 : decode cJ13_bitCount_95d88 36 = .ok (.bipush 8, 2) := by decide +kernel
theorem dJ13_bitCount_95d88_38 : decode cJ13_bitCount_95d88 38 = .ok (.lushr, 1) := by decide +kernel
theorem dJ13_bitCount_95d88_39 : decode cJ13_bitCount_95d88 39 = .ok (.ladd, 1) := by decide +kernel
theorem dJ13_bitCount_95d88_40 : decode cJ13_bitCount_95d88 40 = .ok (.lstore_n 0, 1) := by decide +kernel
theorem dJ13_bitCount_95d88_41 : decode cJ13_bitCount_95d88 41 = .ok (.lload_n 0, 1) := by decide +kernel
theorem dJ13_bitCount_95d88_42 : decode cJ13_bitCount_95d88 42 = .ok (.lload_n 0, 1) := by decide +kernel
theorem dJ13_bitCount_95d88_43 : decode cJ13_bitCount_95d88 43 = .ok (.bipush 16, 2) := by decide +kernel
theorem dJ13_bitCount_95d88_45 : decode cJ13_bitCount_95d88 45 = .ok (.lushr, 1) := by decide +kernel
theorem dJ13_bitCount_95d88_46 : decode cJ13_bitCount_95d88 46 = .ok (.ladd, 1) := by decide +kernel
theorem dJ13_bitCount_95d88_47 : decode cJ13_bitCount_95d88 47 = .ok (.lstore_n 0, 1) := by decide +kernel
theorem dJ13_bitCount_95d88_48 : decode cJ13_bitCount_95d88 48 = .ok (.lload_n 0, 1) := by decide +kernel
theorem dJ13_bitCount_95d88_49 : decode cJ13_bitCount_95d88 49 = .ok (.lload_n 0, 1) := by decide +kernel
theorem dJ13_bitCount_95d88_50 : decode cJ13_bitCount_95d88 50 = .ok (.bipush 32, 2) := by decide +kernel
theorem dJ13_bitCount_95d88_52 : decode cJ13_bitCount_95d88 52 = .ok (.lushr, 1) := by decide +kernel
theorem dJ13_bitCount_95d88_53 : decode cJ13_bitCount_95d88 53 = .ok (.ladd, 1) := by decide +kernel
theorem dJ13_bitCount_95d88_54 : decode cJ13_bitCount_95d88 54 = .ok (.lstore_n 0, 1) := by decide +kernel
theorem dJ13_bitCount_95d88_55 : decode cJ13_bitCount_95d88 55 = .ok (.lload_n 0, 1) := by decide +kernel
theorem dJ13_bitCount_95d88_56 : decode cJ13_bitCount_95d88 56 = .ok (.l2i, 1) := by decide +kernel
theorem dJ13_bitCount_95d88_57 : decode cJ13_bitCount_95d88 57 = .ok (.bipush 127, 2) := by decide +kernel
theorem dJ13_bitCount_95d88_59 : decode cJ13_bitCount_95d88 59 = .ok (.iand, 1) := by decide +kernel
theorem dJ13_bitCount_95d88_60 : decode cJ13_bitCount_95d88 60 = .ok (.ireturn, 1) := by decide +kernel
theorem dJ9_min_7cf53_0 : decode cJ9_min_7cf53 0 = .ok (.iload_n 0, 1) := by decide +kernel
theorem dJ9_min_7cf53_1 : decode cJ9_min_7cf53 1 = .ok (.iload_n 1, 1) := by decide +kernel
theorem dJ9_min_7cf53_2 : decode cJ9_min_7cf53 2 = .ok (.if_icmp .gt 7, 3) := by decide +kernel
theorem dJ9_min_7cf53_5 : decode cJ9_min_7cf53 5 = .ok (.iload_n 0, 1) := by decide +kernel
theorem dJ9_min_7cf53_6 : decode cJ9_min_7cf53 6 = .ok (.goto 4, 3) := by decide +kernel
theorem dJ9_min_7cf53_9 : decode cJ9_min_7cf53 9 = .ok (.iload_n 1, 1) := by decide +kernel
theorem dJ9_min_7cf53_10 : decode cJ9_min_7cf53 10 = .ok (.ireturn, 1) := by decide +kernel
set_option maxRecDepth 20000 in
theorem ggL_stroke_X11_stroke : GoodIn wsL_stroke wsX11_stroke := goodIn_ca (goodIn_ca (goodIn_r _ [7, 8, 9, 10, 11, 12, 13, 14, 15, 16, 17, 18, 6, 19, 20, 21, 22, 23, 24, 25, 26, 27, 28, 29, 30, 31, 32, 33, 34, 35, 36, 37, 38, 39, 40, 41, 42, 43, 44, 45, 46, 47, 48, 49, 50, 51, 52, 53, 54, 55, 56, 57, 58, 59, 60, 61, 62, 63, 64, 65, 66, 67, 68, 69, 70, 71, 72, 73, 74, 75, 76, 77, 78, 79, 80, 81, 82, 83, 84, 85, 86, 87, 88, 89, 90, 91, 92, 93, 94, 95, 96, 97, 98, 99, 100, 101, 102, 103, 104, 105, 106, 107, 108, 109, 110, 111, 112, 113, 114, 115, 116, 117, 118, 119, 120, 121, 122, 123, 124, 125, 126, 127, 128, 129, 130, 131, 132, 133, 134, 135, 136, 137, 138, 139, 140, 141, 142, 143, 144, 145, 146, 147, 148, 149, 150, 151, 152, 153, 154, 155, 156, 157, 158, 159, 160, 161, 162, 163, 164, 165, 166, 167, 168, 169, 170, 171, 172, 173, 174, 175] (by decide +kernel) (by decide +kernel)) (goodIn_sub (fun _ h => List.mem_cons_of_mem _ (List.mem_append_left _ (List.mem_append_right _ h))) (by decide +kernel))) (goodIn_sub (fun _ h => List.mem_cons_of_mem _ (List.mem_append_right _ h)) (by decide +kernel))
set_option maxRecDepth 20000 in
theorem gL_stroke_X11_stroke : GoodIn wsL_stroke (wsV RL 7 RX11 yX11_stroke wsX11_stroke) := goodIn_app (goodIn_of _ (by decide +kernel)) ggL_stroke_X11_stroke
theorem dL_stroke_0 : decode cL_stroke 0 = .ok (.aload_n 2, 1) := by decide +kernel
theorem dL_stroke_1 : decode cL_stroke 1 = .ok (.iconst 0, 1) := by decide +kernel
theorem dL_stroke_2 : decode cL_stroke 2 = .ok (.aload_n 0, 1) := by decide +kernel
theorem dL_stroke_3 : decode cL_stroke 3 = .ok (.iload_n 1, 1) := by decide +kernel
theorem dL_stroke_4 : decode cL_stroke 4 = .ok (.invokevirtual 7, 3) := by decide +kernel
theorem dL_stroke_7 : decode cL_stroke 7 = .ok (.i2l, 1) := by decide +kernel
theorem dL_stroke_8 : decode cL_stroke 8 = .ok (.lastore, 1) := by decide +kernel
theorem dL_stroke_9 : decode cL_stroke 9 = .ok (.goto 9, 3) := by decide +kernel
theorem dL_stroke_12 : decode cL_stroke 12 = .ok (.astore_n 3, 1) := by decide +kernel
theorem dL_stroke_13 : decode cL_stroke 13 = .ok (.iconst 1, 1) := by decide +kernel
theorem dL_stroke_14 : decode cL_stroke 14 = .ok (.ireturn, 1) := by decide +kernel
theorem dL_stroke_15 : decode cL_stroke 15 = .ok (.astore_n 3, 1) := by decide +kernel
theorem dL_stroke_16 : decode cL_stroke 16 = .ok (.iconst 2, 1) := by decide +kernel
theorem dL_stroke_17 : decode cL_stroke 17 = .ok (.ireturn, 1) := by decide +kernel
theorem dL_stroke_18 : decode cL_stroke 18 = .ok (.iconst 0, 1) := by decide +kernel
theorem dL_stroke_19 : decode cL_stroke 19 = .ok (.ireturn, 1) := by decide +kernel
set_option maxRecDepth 20000 in
theorem ggL_takeBack_X11_takeBack : GoodIn wsL_takeBack wsX11_takeBack := goodIn_ca (goodIn_r _ [6, 7, 8, 9, 10, 11, 12, 13, 14, 15, 16, 17, 18, 19, 20, 21, 22, 23, 24, 25, 26, 27, 28, 29, 30, 31, 32, 33, 34, 35, 36, 37, 38, 39, 40, 41, 42, 43, 44, 45, 46, 47, 48, 49, 50, 51, 52, 53, 54, 55, 56, 57, 58, 59, 60, 61, 62, 63, 64, 65, 66, 67, 68, 69, 70, 71, 72, 73, 74, 75, 76, 77, 78, 79, 80, 81, 82, 83, 84, 85, 86, 87, 88, 89, 90, 91, 92, 93, 94, 95, 96, 97, 98, 99, 100, 101, 102, 103, 104, 105, 106, 107, 108, 109, 110, 111, 112, 113, 114, 115, 116, 117, 118, 119, 120, 121, 122, 123, 124, 125, 126, 127, 128, 129, 130, 131, 132, 133, 134, 135, 136, 137, 138, 139, 140, 141, 142, 143, 144, 145, 146, 147, 148, 149, 150, 151, 152, 153, 154, 155, 156, 157, 158, 159, 160, 161, 162, 163, 164, 165, 166] (by decide +kernel) (by decide +kernel)) (goodIn_sub (fun _ h => List.mem_cons_of_mem _ (List.mem_append_right _ h)) (by decide +kernel))
set_option maxRecDepth 20000 in
theorem gL_takeBack_X11_takeBack : GoodIn wsL_takeBack (wsV RL 17 RX11 yX11_takeBack wsX11_takeBack) := goodIn_app (goodIn_of _ (by decide +kernel)) ggL_takeBack_X11_takeBack
theorem dL_takeBack_0 : decode cL_takeBack 0 = .ok (.aload_n 1, 1) := by decide +kernel
theorem dL_takeBack_1 : decode cL_takeBack 1 = .ok (.iconst 0, 1) := by decide +kernel
theorem dL_takeBack_2 : decode cL_takeBack 2 = .ok (.aload_n 0, 1) := by decide +kernel
theorem dL_takeBack_3 : decode cL_takeBack 3 = .ok (.invokevirtual 17, 3) := by decide +kernel
theorem dL_takeBack_6 : decode cL_takeBack 6 = .ok (.i2l, 1) := by decide +kernel
theorem dL_takeBack_7 : decode cL_takeBack 7 = .ok (.lastore, 1) := by decide +kernel
theorem dL_takeBack_8 : decode cL_takeBack 8 = .ok (.goto 6, 3) := by decide +kernel
theorem dL_takeBack_11 : decode cL_takeBack 11 = .ok (.astore_n 2, 1) := by decide +kernel
theorem dL_takeBack_12 : decode cL_takeBack 12 = .ok (.iconst 1, 1) := by decide +kernel
theorem dL_takeBack_13 : decode cL_takeBack 13 = .ok (.ireturn, 1) := by decide +kernel
theorem dL_takeBack_14 : decode cL_takeBack 14 = .ok (.iconst 0, 1) := by decide +kernel
theorem dL_takeBack_15 : decode cL_takeBack 15 = .ok (.ireturn, 1) := by decide +kernel
set_option maxRecDepth 20000 in
theorem ggL_setWindow_X11_setWindow : GoodIn wsL_setWindow wsX11_setWindow := goodIn_ca (goodIn_r _ [6, 7, 8, 9, 10, 11, 12, 13, 14, 15, 16, 17, 18, 19, 20, 21, 22, 23, 24, 25, 26, 27, 28, 29, 30, 31, 32, 33, 34, 35, 36, 37, 38, 39, 40, 41, 42, 43, 44, 45, 46, 47, 48, 49, 50, 51, 52, 53, 54, 55, 56, 57, 58, 59, 60, 61, 62, 63, 64, 65, 66, 67, 68, 69, 70, 71, 72, 73, 74, 75, 76, 77, 78, 79, 80, 81, 82, 83, 84, 85, 86, 87, 88, 89, 90, 91, 92, 93, 94, 95, 96, 97, 98, 99, 100, 101, 102, 103, 104, 105, 106, 107, 108, 109, 110, 111, 112] (by decide +kernel) (by decide +kernel)) (goodIn_sub (fun _ h => List.mem_cons_of_mem _ (List.mem_append_right _ h)) (by decide +kernel))
set_option maxRecDepth 20000 in
theorem gL_setWindow_X11_setWindow : GoodIn wsL_setWindow (wsV RL 21 RX11 yX11_setWindow wsX11_setWindow) := goodIn_app (goodIn_of _ (by decide +kernel)) ggL_setWindow_X11_setWindow
theorem dL_setWindow_0 : decode cL_setWindow 0 = .ok (.aload_n 2, 1) := by decide +kernel
theorem dL_setWindow_1 : decode cL_setWindow 1 = .ok (.iconst 0, 1) := by decide +kernel
theorem dL_setWindow_2 : decode cL_setWindow 2 = .ok (.aload_n 0, 1) := by decide +kernel
theorem dL_setWindow_3 : decode cL_setWindow 3 = .ok (.iload_n 1, 1) := by decide +kernel
theorem dL_setWindow_4 : decode cL_setWindow 4 = .ok (.invokevirtual 21, 3) := by decide +kernel
theorem dL_setWindow_7 : decode cL_setWindow 7 = .ok (.i2l, 1) := by decide +kernel
theorem dL_setWindow_8 : decode cL_setWindow 8 = .ok (.lastore, 1) := by decide +kernel
theorem dL_setWindow_9 : decode cL_setWindow 9 = .ok (.goto 6, 3) := by decide +kernel
theorem dL_setWindow_12 : decode cL_setWindow 12 = .ok (.astore_n 3, 1) := by decide +kernel
theorem dL_setWindow_13 : decode cL_setWindow 13 = .ok (.iconst 1, 1) := by decide +kernel
theorem dL_setWindow_14 : decode cL_setWindow 14 = .ok (.ireturn, 1) := by decide +kernel
theorem dL_setWindow_15 : decode cL_setWindow 15 = .ok (.iconst 0, 1) := by decide +kernel
theorem dL_setWindow_16 : decode cL_setWindow 16 = .ok (.ireturn, 1) := by decide +kernel
set_option maxRecDepth 20000 in
theorem ggL_removeEntry_X11_removeEntry : GoodIn wsL_removeEntry wsX11_removeEntry := goodIn_ca (goodIn_r _ [6, 7, 8, 9, 10, 11, 12, 13, 14, 15, 16, 5, 17, 18, 19, 20, 21, 22, 23, 24, 25, 26, 27, 28, 29, 30, 31, 32, 33, 34, 35, 36, 37, 38, 39, 40, 41, 42, 43, 44, 45, 46, 47, 48, 49, 50, 51, 52, 53, 54, 55, 56, 57, 58, 59, 60, 61, 62, 63, 64, 65, 66, 67, 68, 69, 70, 71, 72, 73, 74, 75, 76, 77, 78, 79, 80, 81, 82, 83, 84, 85, 86, 87, 88, 89, 90, 91, 92, 93, 94, 95, 96, 97, 98, 99, 100, 101, 102, 103, 104, 105, 106, 107, 108, 109, 110, 111, 112, 113, 114, 115, 116, 117, 118, 119, 120, 121, 122, 123, 124, 125, 126, 127, 128, 129, 130, 131, 132, 133, 134, 135, 136, 137, 138, 139, 140, 141, 142, 143, 144, 145, 146, 147, 148, 149, 150, 151, 152, 153, 154, 155, 156, 157, 158, 159, 160, 161, 162, 163, 164, 165, 166, 167, 168, 169, 170, 171, 172, 173] (by decide +kernel) (by decide +kernel)) (goodIn_sub (fun _ h => List.mem_cons_of_mem _ (List.mem_append_right _ h)) (by decide +kernel))
set_option maxRecDepth 20000 in
theorem gL_removeEntry_X11_removeEntry : GoodIn wsL_removeEntry (wsV RL 24 RX11 yX11_removeEntry wsX11_removeEntry) := goodIn_app (goodIn_of _ (by decide +kernel)) ggL_removeEntry_X11_removeEntry
theorem dL_removeEntry_0 : decode cL_removeEntry 0 = .ok (.aload_n 2, 1) := by decide +kernel
theorem dL_removeEntry_1 : decode cL_removeEntry 1 = .ok (.iconst 0, 1) := by decide +kernel
theorem dL_removeEntry_2 : decode cL_removeEntry 2 = .ok (.aload_n 0, 1) := by decide +kernel
theorem dL_removeEntry_3 : decode cL_removeEntry 3 = .ok (.iload_n 1, 1) := by decide +kernel
theorem dL_removeEntry_4 : decode cL_removeEntry 4 = .ok (.invokevirtual 24, 3) := by decide +kernel
theorem dL_removeEntry_7 : decode cL_removeEntry 7 = .ok (.i2l, 1) := by decide +kernel
theorem dL_removeEntry_8 : decode cL_removeEntry 8 = .ok (.lastore, 1) := by decide +kernel
theorem dL_removeEntry_9 : decode cL_removeEntry 9 = .ok (.goto 6, 3) := by decide +kernel
theorem dL_removeEntry_12 : decode cL_removeEntry 12 = .ok (.astore_n 3, 1) := by decide +kernel
theorem dL_removeEntry_13 : decode cL_removeEntry 13 = .ok (.iconst 1, 1) := by decide +kernel
theorem dL_removeEntry_14 : decode cL_removeEntry 14 = .ok (.ireturn, 1) := by decide +kernel
theorem dL_removeEntry_15 : decode cL_removeEntry 15 = .ok (.iconst 0, 1) := by decide +kernel
theorem dL_removeEntry_16 : decode cL_removeEntry 16 = .ok (.ireturn, 1) := by decide +kernel
set_option maxRecDepth 20000 in
theorem ggL_renameEntry_X11_renameEntry : GoodIn wsL_renameEntry wsX11_renameEntry := goodIn_ca (goodIn_r _ [6, 7, 8, 9, 10, 11, 12, 13, 14, 15, 16, 5, 17, 18, 19, 20, 21, 22, 23, 24, 25, 26, 27, 28, 29, 30, 31, 32, 33, 34, 35, 36, 37, 38, 39, 40, 41, 42, 43, 44, 45, 46, 47, 48, 49, 50, 51, 52, 53, 54, 55, 56, 57, 58, 59, 60, 61, 62, 63, 64, 65, 66, 67, 68, 69, 70, 71, 72, 73, 74, 75, 76, 77, 78, 79, 80, 81, 82, 83, 84, 85, 86, 87, 88, 89, 90, 91, 92, 93, 94, 95, 96, 97, 98, 99, 100, 101, 102, 103, 104, 105, 106, 107, 108, 109, 110, 111, 112, 113, 114, 115, 116, 117, 118, 119, 120, 121, 122, 123, 124, 125, 126, 127, 128, 129, 130, 131, 132, 133, 134, 135, 136, 137, 138, 139, 140, 141, 142, 143, 144, 145, 146, 147, 148, 149, 150, 151, 152, 153, 154, 155, 156, 157, 158, 159, 160, 161, 162, 163, 164, 165, 166, 167, 168, 169, 170, 171, 172] (by decide +kernel) (by decide +kernel)) (goodIn_sub (fun _ h => List.mem_cons_of_mem _ (List.mem_append_right _ h)) (by decide +kernel))
set_option maxRecDepth 20000 in
theorem gL_renameEntry_X11_renameEntry : GoodIn wsL_renameEntry (wsV RL 29 RX11 yX11_renameEntry wsX11_renameEntry) := goodIn_app (goodIn_of _ (by decide +kernel)) ggL_renameEntry_X11_renameEntry
theorem dL_renameEntry_0 : decode cL_renameEntry 0 = .ok (.aload_n 3, 1) := by decide +kernel
theorem dL_renameEntry_1 : decode cL_renameEntry 1 = .ok (.iconst 0, 1) := by decide +kernel
theorem dL_renameEntry_2 : decode cL_renameEntry 2 = .ok (.aload_n 0, 1) := by decide +kernel
theorem dL_renameEntry_3 : decode cL_renameEntry 3 = .ok (.iload_n 1, 1) := by decide +kernel
theorem dL_renameEntry_4 : decode cL_renameEntry 4 = .ok (.iload_n 2, 1) := by decide +kernel
theorem dL_renameEntry_5 : decode cL_renameEntry 5 = .ok (.invokevirtual 29, 3) := by decide +kernel
theorem dL_renameEntry_8 : decode cL_renameEntry 8 = .ok (.i2l, 1) := by decide +kernel
theorem dL_renameEntry_9 : decode cL_renameEntry 9 = .ok (.lastore, 1) := by decide +kernel
theorem dL_renameEntry_10 : decode cL_renameEntry 10 = .ok (.goto 7, 3) := by decide +kernel
theorem dL_renameEntry_13 : decode cL_renameEntry 13 = .ok (.astore 4, 2) := by decide +kernel
theorem dL_renameEntry_15 : decode cL_renameEntry 15 = .ok (.iconst 1, 1) := by decide +kernel
theorem dL_renameEntry_16 : decode cL_renameEntry 16 = .ok (.ireturn, 1) := by decide +kernel
theorem dL_renameEntry_17 : decode cL_renameEntry 17 = .ok (.iconst 0, 1) := by decide +kernel
theorem dL_renameEntry_18 : decode cL_renameEntry 18 = .ok (.ireturn, 1) := by decide +kernel
set_option maxRecDepth 20000 in
theorem ggL_learn_X11_learn : GoodIn wsL_learn wsX11_learn := goodIn_ca (goodIn_ca (goodIn_ca (goodIn_r _ [8, 9, 10, 11, 12, 13, 14, 15, 16, 17, 18, 19, 20, 21, 22, 23, 7, 24, 25, 26, 27, 28, 29, 30, 31, 32, 33, 34, 35, 36, 37, 38, 39, 40, 41, 42, 43, 44, 45, 46, 47, 48, 49, 50, 51, 52, 53, 54, 55, 56, 57, 58, 59, 60, 61, 62, 63, 64, 65, 66, 67, 68, 69, 70, 71, 72, 73, 74, 75, 76, 77, 78, 79, 80, 81, 82, 83, 84, 85, 86, 87, 88, 89, 90, 91, 92, 93, 94, 95, 96, 97, 98, 99, 100, 101, 102, 103, 104, 105, 106, 107, 108, 109, 110, 111, 112, 113, 114, 115, 116, 117, 118, 119, 120, 121, 122, 123, 124, 125, 126, 127, 128, 129, 130, 131, 132, 133, 134, 135, 136, 137, 138, 139, 140, 141, 142, 143, 144, 145, 146, 147, 148, 149, 150, 151, 152, 153, 154, 155, 156, 157, 158, 159, 160, 161, 162, 163, 164, 165, 166, 167, 168, 169, 170, 171, 172, 173, 174, 175, 176, 177, 178, 179, 180, 181, 182, 183, 184, 185, 186, 187, 188, 189, 190, 191, 192, 193, 194, 195, 196, 197, 198, 199, 200, 201, 202, 203, 204, 205, 206, 207, 208, 209, 210, 211, 212, 213, 214, 215, 216, 217, 218, 219, 220, 221, 222, 223, 224, 225] (by decide +kernel) (by decide +kernel)) (goodIn_sub (fun _ h => List.mem_cons_of_mem _ (List.mem_append_left _ (List.mem_append_left _ (List.mem_append_right _ h)))) (by decide +kernel))) (goodIn_sub (fun _ h => List.mem_cons_of_mem _ (List.mem_append_left _ (List.mem_append_right _ h))) (by decide +kernel))) (goodIn_sub (fun _ h => List.mem_cons_of_mem _ (List.mem_append_right _ h)) (by decide +kernel))
set_option maxRecDepth 20000 in
theorem gL_learn_X11_learn : GoodIn wsL_learn (wsV RL 33 RX11 yX11_learn wsX11_learn) := goodIn_app (goodIn_of _ (by decide +kernel)) ggL_learn_X11_learn
theorem dL_learn_0 : decode cL_learn 0 = .ok (.aload_n 3, 1) := by decide +kernel
theorem dL_learn_1 : decode cL_learn 1 = .ok (.iconst 0, 1) := by decide +kernel
theorem dL_learn_2 : decode cL_learn 2 = .ok (.aload_n 0, 1) := by decide +kernel
theorem dL_learn_3 : decode cL_learn 3 = .ok (.iload_n 1, 1) := by decide +kernel
theorem dL_learn_4 : decode cL_learn 4 = .ok (.iload_n 2, 1) := by decide +kernel
theorem dL_learn_5 : decode cL_learn 5 = .ok (.invokevirtual 33, 3) := by decide +kernel
theorem dL_learn_8 : decode cL_learn 8 = .ok (.i2l, 1) := by decide +kernel
theorem dL_learn_9 : decode cL_learn 9 = .ok (.lastore, 1) := by decide +kernel
theorem dL_learn_10 : decode cL_learn 10 = .ok (.goto 15, 3) := by decide +kernel
theorem dL_learn_13 : decode cL_learn 13 = .ok (.astore 4, 2) := by decide +kernel
theorem dL_learn_15 : decode cL_learn 15 = .ok (.iconst 1, 1) := by decide +kernel
theorem dL_learn_16 : decode cL_learn 16 = .ok (.ireturn, 1) := by decide +kernel
theorem dL_learn_17 : decode cL_learn 17 = .ok (.astore 4, 2) := by decide +kernel
theorem dL_learn_19 : decode cL_learn 19 = .ok (.iconst 2, 1) := by decide +kernel
theorem dL_learn_20 : decode cL_learn 20 = .ok (.ireturn, 1) := by decide +kernel
theorem dL_learn_21 : decode cL_learn 21 = .ok (.astore 4, 2) := by decide +kernel
theorem dL_learn_23 : decode cL_learn 23 = .ok (.iconst 3, 1) := by decide +kernel
theorem dL_learn_24 : decode cL_learn 24 = .ok (.ireturn, 1) := by decide +kernel
theorem dL_learn_25 : decode cL_learn 25 = .ok (.iconst 0, 1) := by decide +kernel
theorem dL_learn_26 : decode cL_learn 26 = .ok (.ireturn, 1) := by decide +kernel
set_option maxRecDepth 20000 in
theorem ggL_append_X11_append : GoodIn wsL_append wsX11_append := goodIn_ca (goodIn_ca (goodIn_r _ [7, 8, 9, 10, 11, 12, 13, 14, 15, 16, 17, 18, 19, 20, 21, 22, 23, 24, 25, 26, 27, 28, 29, 30, 31, 32] (by decide +kernel) (by decide +kernel)) (goodIn_sub (fun _ h => List.mem_cons_of_mem _ (List.mem_append_left _ (List.mem_append_right _ h))) (by decide +kernel))) (goodIn_sub (fun _ h => List.mem_cons_of_mem _ (List.mem_append_right _ h)) (by decide +kernel))
set_option maxRecDepth 20000 in
theorem gL_append_X11_append : GoodIn wsL_append (wsV RL 36 RX11 yX11_append wsX11_append) := goodIn_app (goodIn_of _ (by decide +kernel)) ggL_append_X11_append
theorem dL_append_0 : decode cL_append 0 = .ok (.aload_n 2, 1) := by decide +kernel
theorem dL_append_1 : decode cL_append 1 = .ok (.iconst 0, 1) := by decide +kernel
theorem dL_append_2 : decode cL_append 2 = .ok (.aload_n 0, 1) := by decide +kernel
theorem dL_append_3 : decode cL_append 3 = .ok (.iload_n 1, 1) := by decide +kernel
theorem dL_append_4 : decode cL_append 4 = .ok (.invokevirtual 36, 3) := by decide +kernel
theorem dL_append_7 : decode cL_append 7 = .ok (.i2l, 1) := by decide +kernel
theorem dL_append_8 : decode cL_append 8 = .ok (.lastore, 1) := by decide +kernel
theorem dL_append_9 : decode cL_append 9 = .ok (.goto 9, 3) := by decide +kernel
theorem dL_append_12 : decode cL_append 12 = .ok (.astore_n 3, 1) := by decide +kernel
theorem dL_append_13 : decode cL_append 13 = .ok (.iconst 1, 1) := by decide +kernel
theorem dL_append_14 : decode cL_append 14 = .ok (.ireturn, 1) := by decide +kernel
theorem dL_append_15 : decode cL_append 15 = .ok (.astore_n 3, 1) := by decide +kernel
theorem dL_append_16 : decode cL_append 16 = .ok (.iconst 2, 1) := by decide +kernel
theorem dL_append_17 : decode cL_append 17 = .ok (.ireturn, 1) := by decide +kernel
theorem dL_append_18 : decode cL_append 18 = .ok (.iconst 0, 1) := by decide +kernel
theorem dL_append_19 : decode cL_append 19 = .ok (.ireturn, 1) := by decide +kernel
set_option maxRecDepth 20000 in
theorem ggL_load_X11_load : GoodIn wsL_load wsX11_load := goodIn_ca (goodIn_ca (goodIn_r _ [7, 8, 9, 10, 11, 12, 13, 14, 15, 16, 17, 18, 19, 20, 21, 22, 23, 24, 25, 26, 27, 28, 29, 30, 31, 32, 33, 34, 35, 36, 37, 38, 39, 40, 41, 42, 43, 44, 45, 46, 47, 48, 49, 50, 51, 52, 53, 54, 55, 56, 57, 58, 59, 60, 61, 62, 63, 64, 65, 66, 67, 68, 69, 70, 71, 72, 73, 74, 75, 76, 77, 78, 79, 80, 81, 82, 83, 84, 85, 86, 87, 88, 89, 90, 91, 92, 93, 94, 95, 96, 97, 98, 99, 100, 101, 102, 103, 104, 105, 106, 107, 108, 109, 110, 111, 112, 113, 114, 115, 116, 117, 118, 119, 120, 121, 122, 123, 124, 125, 126, 127, 128, 129, 130, 131, 132, 133, 134, 135, 136, 137, 138, 139, 140, 141, 142, 143, 144, 145, 146, 147, 148, 149, 150, 151, 152, 153, 154, 155, 156, 157, 158, 159, 160, 161, 162, 163, 164, 165, 166, 167, 168, 169, 170, 171, 172, 173, 174, 175, 176, 177, 178, 179, 180, 181, 182, 183, 184, 185, 186, 187, 188, 189, 190, 191, 192, 193, 194, 195, 196, 197, 198, 199, 200, 201, 202, 203, 204, 205, 206, 207, 208, 209, 210, 211, 212, 213, 214, 215, 216, 217, 218, 219, 220, 221, 222, 223, 224, 225, 226, 227, 228, 229, 230, 231, 232, 233, 234, 235, 236, 237, 238, 239, 240, 241, 242, 243, 244] (by decide +kernel) (by decide +kernel)) (goodIn_sub (fun _ h => List.mem_cons_of_mem _ (List.mem_append_left _ (List.mem_append_right _ h))) (by decide +kernel))) (goodIn_sub (fun _ h => List.mem_cons_of_mem _ (List.mem_append_right _ h)) (by decide +kernel))
set_option maxRecDepth 20000 in
theorem gL_load_X11_load : GoodIn wsL_load (wsV RL 39 RX11 yX11_load wsX11_load) := goodIn_app (goodIn_of _ (by decide +kernel)) ggL_load_X11_load
theorem dL_load_0 : decode cL_load 0 = .ok (.aload_n 1, 1) := by decide +kernel
theorem dL_load_1 : decode cL_load 1 = .ok (.iconst 0, 1) := by decide +kernel
theorem dL_load_2 : decode cL_load 2 = .ok (.aload_n 0, 1) := by decide +kernel
theorem dL_load_3 : decode cL_load 3 = .ok (.invokevirtual 39, 3) := by decide +kernel
theorem dL_load_6 : decode cL_load 6 = .ok (.i2l, 1) := by decide +kernel
theorem dL_load_7 : decode cL_load 7 = .ok (.lastore, 1) := by decide +kernel
theorem dL_load_8 : decode cL_load 8 = .ok (.goto 9, 3) := by decide +kernel
theorem dL_load_11 : decode cL_load 11 = .ok (.astore_n 2, 1) := by decide +kernel
theorem dL_load_12 : decode cL_load 12 = .ok (.iconst 1, 1) := by decide +kernel
theorem dL_load_13 : decode cL_load 13 = .ok (.ireturn, 1) := by decide +kernel
theorem dL_load_14 : decode cL_load 14 = .ok (.astore_n 2, 1) := by decide +kernel
theorem dL_load_15 : decode cL_load 15 = .ok (.iconst 2, 1) := by decide +kernel
theorem dL_load_16 : decode cL_load 16 = .ok (.ireturn, 1) := by decide +kernel
theorem dL_load_17 : decode cL_load 17 = .ok (.iconst 0, 1) := by decide +kernel
theorem dL_load_18 : decode cL_load 18 = .ok (.ireturn, 1) := by decide +kernel
set_option maxRecDepth 20000 in
theorem ggL_undo_X11_undo : GoodIn wsL_undo wsX11_undo := goodIn_ca (goodIn_r _ [6, 7, 8, 9, 10, 11, 12, 13, 14, 15, 16, 17, 18, 19, 20, 21, 22, 23, 24, 25, 26, 27, 28, 29, 30, 31, 32, 33, 34, 35, 36, 37, 38, 39, 40, 41, 42, 43, 44, 45, 46, 47, 48, 49, 50, 51, 52, 53, 54, 55, 56, 57, 58, 59, 60, 61, 62, 63, 64, 65, 66, 67, 68, 69, 70, 71, 72, 73, 74, 75, 76, 77, 78, 79, 80, 81, 82, 83, 84, 85, 86, 87, 88, 89] (by decide +kernel) (by decide +kernel)) (goodIn_sub (fun _ h => List.mem_cons_of_mem _ (List.mem_append_right _ h)) (by decide +kernel))
set_option maxRecDepth 20000 in
theorem gL_undo_X11_undo : GoodIn wsL_undo (wsV RL 42 RX11 yX11_undo wsX11_undo) := goodIn_app (goodIn_of _ (by decide +kernel)) ggL_undo_X11_undo
theorem dL_undo_0 : decode cL_undo 0 = .ok (.aload_n 1, 1) := by decide +kernel
theorem dL_undo_1 : decode cL_undo 1 = .ok (.iconst 0, 1) := by decide +kernel
theorem dL_undo_2 : decode cL_undo 2 = .ok (.aload_n 0, 1) := by decide +kernel
theorem dL_undo_3 : decode cL_undo 3 = .ok (.invokevirtual 42, 3) := by decide +kernel
theorem dL_undo_6 : decode cL_undo 6 = .ok (.i2l, 1) := by decide +kernel
theorem dL_undo_7 : decode cL_undo 7 = .ok (.lastore, 1) := by decide +kernel
theorem dL_undo_8 : decode cL_undo 8 = .ok (.goto 6, 3) := by decide +kernel
theorem dL_undo_11 : decode cL_undo 11 = .ok (.astore_n 2, 1) := by decide +kernel
theorem dL_undo_12 : decode cL_undo 12 = .ok (.iconst 1, 1) := by decide +kernel
theorem dL_undo_13 : decode cL_undo 13 = .ok (.ireturn, 1) := by decide +kernel
theorem dL_undo_14 : decode cL_undo 14 = .ok (.iconst 0, 1) := by decide +kernel
theorem dL_undo_15 : decode cL_undo 15 = .ok (.ireturn, 1) := by decide +kernel
set_option maxRecDepth 20000 in
theorem ggL_strokeAt_X11_strokeAt : GoodIn wsL_strokeAt wsX11_strokeAt := goodIn_ca (goodIn_ca (goodIn_r _ [7, 8, 9, 10, 11, 12, 13, 14, 15, 16, 17, 18, 19, 20, 21, 22, 23, 24, 25, 26, 27, 28, 29, 30, 31, 32, 33, 34, 35, 36, 37, 38, 39, 40, 41, 42, 43, 44, 45, 46, 47, 48, 49, 50, 51, 52, 53, 54, 55, 56] (by decide +kernel) (by decide +kernel)) (goodIn_sub (fun _ h => List.mem_cons_of_mem _ (List.mem_append_left _ (List.mem_append_right _ h))) (by decide +kernel))) (goodIn_sub (fun _ h => List.mem_cons_of_mem _ (List.mem_append_right _ h)) (by decide +kernel))
set_option maxRecDepth 20000 in
theorem gL_strokeAt_X11_strokeAt : GoodIn wsL_strokeAt (wsV RL 45 RX11 yX11_strokeAt wsX11_strokeAt) := goodIn_app (goodIn_of _ (by decide +kernel)) ggL_strokeAt_X11_strokeAt
theorem dL_strokeAt_0 : decode cL_strokeAt 0 = .ok (.aload_n 3, 1) := by decide +kernel
theorem dL_strokeAt_1 : decode cL_strokeAt 1 = .ok (.iconst 0, 1) := by decide +kernel
theorem dL_strokeAt_2 : decode cL_strokeAt 2 = .ok (.aload_n 0, 1) := by decide +kernel
theorem dL_strokeAt_3 : decode cL_strokeAt 3 = .ok (.iload_n 1, 1) := by decide +kernel
theorem dL_strokeAt_4 : decode cL_strokeAt 4 = .ok (.iload_n 2, 1) := by decide +kernel
theorem dL_strokeAt_5 : decode cL_strokeAt 5 = .ok (.invokevirtual 45, 3) := by decide +kernel
theorem dL_strokeAt_8 : decode cL_strokeAt 8 = .ok (.i2l, 1) := by decide +kernel
theorem dL_strokeAt_9 : decode cL_strokeAt 9 = .ok (.lastore, 1) := by decide +kernel
theorem dL_strokeAt_10 : decode cL_strokeAt 10 = .ok (.goto 11, 3) := by decide +kernel
theorem dL_strokeAt_13 : decode cL_strokeAt 13 = .ok (.astore 4, 2) := by decide +kernel
theorem dL_strokeAt_15 : decode cL_strokeAt 15 = .ok (.iconst 1, 1) := by decide +kernel
theorem dL_strokeAt_16 : decode cL_strokeAt 16 = .ok (.ireturn, 1) := by decide +kernel
theorem dL_strokeAt_17 : decode cL_strokeAt 17 = .ok (.astore 4, 2) := by decide +kernel
theorem dL_strokeAt_19 : decode cL_strokeAt 19 = .ok (.iconst 2, 1) := by decide +kernel
theorem dL_strokeAt_20 : decode cL_strokeAt 20 = .ok (.ireturn, 1) := by decide +kernel
theorem dL_strokeAt_21 : decode cL_strokeAt 21 = .ok (.iconst 0, 1) := by decide +kernel
theorem dL_strokeAt_22 : decode cL_strokeAt 22 = .ok (.ireturn, 1) := by decide +kernel
set_option maxRecDepth 20000 in
theorem ggL_item_X11_item : GoodIn wsL_item wsX11_item := goodIn_ca (goodIn_ca (goodIn_r _ [7, 8, 9, 10, 11, 12, 13, 14, 15, 16, 17, 18, 6, 19, 20, 21, 22, 23, 24, 25, 26, 27, 28, 29, 30, 31, 32, 33, 34, 35, 36, 37, 38, 39, 40, 41, 42, 43, 44, 45, 46, 47, 48, 49, 50, 51, 52, 53, 54, 55, 56, 57, 58, 59, 60, 61, 62, 63, 64, 65, 66, 67, 68, 69, 70, 71, 72, 73, 74, 75, 76, 77, 78, 79, 80, 81, 82, 83, 84, 85, 86, 87, 88, 89, 90] (by decide +kernel) (by decide +kernel)) (goodIn_sub (fun _ h => List.mem_cons_of_mem _ (List.mem_append_left _ (List.mem_append_right _ h))) (by decide +kernel))) (goodIn_sub (fun _ h => List.mem_cons_of_mem _ (List.mem_append_right _ h)) (by decide +kernel))
set_option maxRecDepth 20000 in
theorem gL_item_X11_item : GoodIn wsL_item (wsV RL 48 RX11 yX11_item wsX11_item) := goodIn_app (goodIn_of _ (by decide +kernel)) ggL_item_X11_item
theorem dL_item_0 : decode cL_item 0 = .ok (.aload_n 3, 1) := by decide +kernel
theorem dL_item_1 : decode cL_item 1 = .ok (.iconst 0, 1) := by decide +kernel
theorem dL_item_2 : decode cL_item 2 = .ok (.aload_n 0, 1) := by decide +kernel
theorem dL_item_3 : decode cL_item 3 = .ok (.iload_n 1, 1) := by decide +kernel
theorem dL_item_4 : decode cL_item 4 = .ok (.iload_n 2, 1) := by decide +kernel
theorem dL_item_5 : decode cL_item 5 = .ok (.invokevirtual 48, 3) := by decide +kernel
theorem dL_item_8 : decode cL_item 8 = .ok (.i2l, 1) := by decide +kernel
theorem dL_item_9 : decode cL_item 9 = .ok (.lastore, 1) := by decide +kernel
theorem dL_item_10 : decode cL_item 10 = .ok (.goto 11, 3) := by decide +kernel
theorem dL_item_13 : decode cL_item 13 = .ok (.astore 4, 2) := by decide +kernel
theorem dL_item_15 : decode cL_item 15 = .ok (.iconst 1, 1) := by decide +kernel
theorem dL_item_16 : decode cL_item 16 = .ok (.ireturn, 1) := by decide +kernel
theorem dL_item_17 : decode cL_item 17 = .ok (.astore 4, 2) := by decide +kernel
theorem dL_item_19 : decode cL_item 19 = .ok (.iconst 2, 1) := by decide +kernel
theorem dL_item_20 : decode cL_item 20 = .ok (.ireturn, 1) := by decide +kernel
theorem dL_item_21 : decode cL_item 21 = .ok (.iconst 0, 1) := by decide +kernel
theorem dL_item_22 : decode cL_item 22 = .ok (.ireturn, 1) := by decide +kernel
set_option maxRecDepth 20000 in
theorem ggL_entry_X11_entry : GoodIn wsL_entry wsX11_entry := goodIn_ca (goodIn_ca (goodIn_r _ [7, 8, 9, 10, 11, 12, 13, 14, 15, 16, 17, 6, 18, 19, 20, 21, 22, 23, 24, 25, 26, 27, 28, 29, 30, 31, 32, 33, 34, 35, 36, 37, 38, 39, 40, 41, 42, 43, 44, 45, 46, 47, 48, 49, 50, 51, 52, 53, 54, 55, 56, 57, 58, 59, 60, 61, 62, 63, 64, 65, 66, 67, 68, 69, 70, 71, 72, 73, 74, 75, 76, 77, 78, 79, 80, 81, 82, 83, 84, 85, 86, 87, 88, 89, 90, 91, 92, 93, 94, 95, 96, 97, 98, 99, 100, 101, 102, 103, 104, 105, 106, 107, 108, 109, 110, 111, 112, 113, 114, 115, 116, 117, 118] (by decide +kernel) (by decide +kernel)) (goodIn_sub (fun _ h => List.mem_cons_of_mem _ (List.mem_append_left _ (List.mem_append_right _ h))) (by decide +kernel))) (goodIn_sub (fun _ h => List.mem_cons_of_mem _ (List.mem_append_right _ h)) (by decide +kernel))
set_option maxRecDepth 20000 in
theorem gL_entry_X11_entry : GoodIn wsL_entry (wsV RL 51 RX11 yX11_entry wsX11_entry) := goodIn_app (goodIn_of _ (by decide +kernel)) ggL_entry_X11_entry
theorem dL_entry_0 : decode cL_entry 0 = .ok (.aload_n 3, 1) := by decide +kernel
theorem dL_entry_1 : decode cL_entry 1 = .ok (.iconst 0, 1) := by decide +kernel
theorem dL_entry_2 : decode cL_entry 2 = .ok (.aload_n 0, 1) := by decide +kernel
theorem dL_entry_3 : decode cL_entry 3 = .ok (.iload_n 1, 1) := by decide +kernel
theorem dL_entry_4 : decode cL_entry 4 = .ok (.iload_n 2, 1) := by decide +kernel
theorem dL_entry_5 : decode cL_entry 5 = .ok (.invokevirtual 51, 3) := by decide +kernel
theorem dL_entry_8 : decode cL_entry 8 = .ok (.i2l, 1) := by decide +kernel
theorem dL_entry_9 : decode cL_entry 9 = .ok (.lastore, 1) := by decide +kernel
theorem dL_entry_10 : decode cL_entry 10 = .ok (.goto 11, 3) := by decide +kernel
theorem dL_entry_13 : decode cL_entry 13 = .ok (.astore 4, 2) := by decide +kernel
theorem dL_entry_15 : decode cL_entry 15 = .ok (.iconst 1, 1) := by decide +kernel
theorem dL_entry_16 : decode cL_entry 16 = .ok (.ireturn, 1) := by decide +kernel
theorem dL_entry_17 : decode cL_entry 17 = .ok (.astore 4, 2) := by decide +kernel
theorem dL_entry_19 : decode cL_entry 19 = .ok (.iconst 2, 1) := by decide +kernel
theorem dL_entry_20 : decode cL_entry 20 = .ok (.ireturn, 1) := by decide +kernel
theorem dL_entry_21 : decode cL_entry 21 = .ok (.iconst 0, 1) := by decide +kernel
theorem dL_entry_22 : decode cL_entry 22 = .ok (.ireturn, 1) := by decide +kernel
set_option maxRecDepth 20000 in
theorem ggL_count_X11_count : GoodIn wsL_count wsX11_count := goodIn_ca (goodIn_r _ [6, 7, 8, 9, 10, 11, 12, 13, 14, 15, 16, 17, 18, 19, 20, 21, 22, 23, 24, 25, 26, 27, 28, 29, 30, 31, 32, 33, 34, 35, 36, 37, 38, 39, 40, 41, 42, 43, 44, 45, 46, 47, 48, 49, 50, 51, 52, 53, 54, 55, 56, 57, 58, 59, 60, 61, 62, 63, 64, 65, 66, 67, 68, 69, 70, 71, 72, 73, 74, 75, 76, 77, 78, 79, 80, 81, 82, 83, 84, 85, 86, 87, 88, 89, 90, 91, 92, 93, 94, 95, 96, 97, 98, 99, 100, 101, 102, 103, 104, 105, 106, 107, 108, 109, 110, 111, 112, 113, 114, 115, 116, 117, 118, 119, 120, 121, 122, 123, 124, 125, 126, 127, 128, 129, 130, 131, 132, 133, 134, 135, 136, 137, 138, 139, 140, 141, 142, 143, 144] (by decide +kernel) (by decide +kernel)) (goodIn_sub (fun _ h => List.mem_cons_of_mem _ (List.mem_append_right _ h)) (by decide +kernel))
set_option maxRecDepth 20000 in
theorem gL_count_X11_count : GoodIn wsL_count (wsV RL 54 RX11 yX11_count wsX11_count) := goodIn_app (goodIn_of _ (by decide +kernel)) ggL_count_X11_count
theorem dL_count_0 : decode cL_count 0 = .ok (.aload_n 2, 1) := by decide +kernel
theorem dL_count_1 : decode cL_count 1 = .ok (.iconst 0, 1) := by decide +kernel
theorem dL_count_2 : decode cL_count 2 = .ok (.aload_n 0, 1) := by decide +kernel
theorem dL_count_3 : decode cL_count 3 = .ok (.iload_n 1, 1) := by decide +kernel
theorem dL_count_4 : decode cL_count 4 = .ok (.invokevirtual 54, 3) := by decide +kernel
theorem dL_count_7 : decode cL_count 7 = .ok (.i2l, 1) := by decide +kernel
theorem dL_count_8 : decode cL_count 8 = .ok (.lastore, 1) := by decide +kernel
theorem dL_count_9 : decode cL_count 9 = .ok (.goto 6, 3) := by decide +kernel
theorem dL_count_12 : decode cL_count 12 = .ok (.astore_n 3, 1) := by decide +kernel
theorem dL_count_13 : decode cL_count 13 = .ok (.iconst 1, 1) := by decide +kernel
theorem dL_count_14 : decode cL_count 14 = .ok (.ireturn, 1) := by decide +kernel
theorem dL_count_15 : decode cL_count 15 = .ok (.iconst 0, 1) := by decide +kernel
theorem dL_count_16 : decode cL_count 16 = .ok (.ireturn, 1) := by decide +kernel
set_option maxRecDepth 20000 in
theorem ggL_ifStroke_X11_ifStroke : GoodIn wsL_ifStroke wsX11_ifStroke := goodIn_ca (goodIn_r _ [6, 7, 8, 9, 10, 11, 12, 13, 14, 15, 5, 16, 17, 18, 19, 20, 21, 22, 23, 24, 25, 26, 27, 28, 29, 30, 31, 32, 33, 34, 35, 36, 37, 38, 39, 40, 41, 42, 43, 44, 45, 46, 47, 48, 49, 50, 51, 52, 53, 54, 55, 56, 57, 58, 59, 60, 61, 62, 63, 64, 65, 66, 67, 68, 69, 70, 71, 72, 73, 74, 75, 76, 77, 78, 79, 80, 81, 82, 83, 84, 85, 86, 87, 88, 89, 90, 91, 92, 93, 94, 95, 96, 97, 98, 99, 100, 101, 102, 103, 104, 105, 106, 107, 108, 109, 110, 111, 112, 113, 114, 115, 116, 117, 118, 119, 120, 121, 122, 123, 124, 125, 126, 127, 128, 129, 130, 131, 132, 133, 134, 135, 136, 137, 138, 139, 140, 141, 142, 143, 144, 145, 146, 147, 148, 149, 150, 151, 152, 153, 154, 155, 156, 157, 158, 159, 160, 161, 162, 163, 164, 165, 166, 167, 168, 169, 170, 171, 172, 173, 174, 175, 176, 177, 178, 179, 180, 181, 182] (by decide +kernel) (by decide +kernel)) (goodIn_sub (fun _ h => List.mem_cons_of_mem _ (List.mem_append_right _ h)) (by decide +kernel))
set_option maxRecDepth 20000 in
theorem gL_ifStroke_X11_ifStroke : GoodIn wsL_ifStroke (wsV RL 57 RX11 yX11_ifStroke wsX11_ifStroke) := goodIn_app (goodIn_of _ (by decide +kernel)) ggL_ifStroke_X11_ifStroke
theorem dL_ifStroke_0 : decode cL_ifStroke 0 = .ok (.aload_n 3, 1) := by decide +kernel
theorem dL_ifStroke_1 : decode cL_ifStroke 1 = .ok (.iconst 0, 1) := by decide +kernel
theorem dL_ifStroke_2 : decode cL_ifStroke 2 = .ok (.aload_n 0, 1) := by decide +kernel
theorem dL_ifStroke_3 : decode cL_ifStroke 3 = .ok (.iload_n 1, 1) := by decide +kernel
theorem dL_ifStroke_4 : decode cL_ifStroke 4 = .ok (.iload_n 2, 1) := by decide +kernel
theorem dL_ifStroke_5 : decode cL_ifStroke 5 = .ok (.invokevirtual 57, 3) := by decide +kernel
theorem dL_ifStroke_8 : decode cL_ifStroke 8 = .ok (.i2l, 1) := by decide +kernel
theorem dL_ifStroke_9 : decode cL_ifStroke 9 = .ok (.lastore, 1) := by decide +kernel
theorem dL_ifStroke_10 : decode cL_ifStroke 10 = .ok (.goto 7, 3) := by decide +kernel
theorem dL_ifStroke_13 : decode cL_ifStroke 13 = .ok (.astore 4, 2) := by decide +kernel
theorem dL_ifStroke_15 : decode cL_ifStroke 15 = .ok (.iconst 1, 1) := by decide +kernel
theorem dL_ifStroke_16 : decode cL_ifStroke 16 = .ok (.ireturn, 1) := by decide +kernel
theorem dL_ifStroke_17 : decode cL_ifStroke 17 = .ok (.iconst 0, 1) := by decide +kernel
theorem dL_ifStroke_18 : decode cL_ifStroke 18 = .ok (.ireturn, 1) := by decide +kernel
set_option maxRecDepth 20000 in
theorem ggL_ifRemoved_X11_ifRemoved : GoodIn wsL_ifRemoved wsX11_ifRemoved := goodIn_ca (goodIn_r _ [6, 7, 8, 9, 10, 11, 12, 13, 14, 15, 5, 16, 17, 18, 19, 20, 21, 22, 23, 24, 25, 26, 27, 28, 29, 30, 31, 32, 33, 34, 35, 36, 37, 38, 39, 40, 41, 42, 43, 44, 45, 46, 47, 48, 49, 50, 51, 52, 53, 54, 55, 56, 57, 58, 59, 60, 61, 62, 63, 64, 65, 66, 67, 68, 69, 70, 71, 72, 73, 74, 75, 76, 77, 78, 79, 80, 81, 82, 83, 84, 85, 86, 87, 88, 89, 90, 91, 92, 93, 94, 95, 96, 97, 98, 99, 100, 101, 102, 103, 104, 105, 106, 107, 108, 109, 110, 111, 112, 113, 114, 115, 116, 117, 118, 119, 120, 121, 122, 123, 124, 125, 126, 127, 128, 129, 130, 131, 132, 133, 134, 135, 136, 137, 138, 139, 140, 141, 142, 143, 144, 145, 146, 147, 148, 149, 150, 151, 152, 153, 154, 155, 156, 157, 158, 159] (by decide +kernel) (by decide +kernel)) (goodIn_sub (fun _ h => List.mem_cons_of_mem _ (List.mem_append_right _ h)) (by decide +kernel))
set_option maxRecDepth 20000 in
theorem gL_ifRemoved_X11_ifRemoved : GoodIn wsL_ifRemoved (wsV RL 60 RX11 yX11_ifRemoved wsX11_ifRemoved) := goodIn_app (goodIn_of _ (by decide +kernel)) ggL_ifRemoved_X11_ifRemoved
theorem dL_ifRemoved_0 : decode cL_ifRemoved 0 = .ok (.aload_n 2, 1) := by decide +kernel
theorem dL_ifRemoved_1 : decode cL_ifRemoved 1 = .ok (.iconst 0, 1) := by decide +kernel
theorem dL_ifRemoved_2 : decode cL_ifRemoved 2 = .ok (.aload_n 0, 1) := by decide +kernel
theorem dL_ifRemoved_3 : decode cL_ifRemoved 3 = .ok (.iload_n 1, 1) := by decide +kernel
theorem dL_ifRemoved_4 : decode cL_ifRemoved 4 = .ok (.invokevirtual 60, 3) := by decide +kernel
theorem dL_ifRemoved_7 : decode cL_ifRemoved 7 = .ok (.i2l, 1) := by decide +kernel
theorem dL_ifRemoved_8 : decode cL_ifRemoved 8 = .ok (.lastore, 1) := by decide +kernel
theorem dL_ifRemoved_9 : decode cL_ifRemoved 9 = .ok (.goto 6, 3) := by decide +kernel
theorem dL_ifRemoved_12 : decode cL_ifRemoved 12 = .ok (.astore_n 3, 1) := by decide +kernel
theorem dL_ifRemoved_13 : decode cL_ifRemoved 13 = .ok (.iconst 1, 1) := by decide +kernel
theorem dL_ifRemoved_14 : decode cL_ifRemoved 14 = .ok (.ireturn, 1) := by decide +kernel
theorem dL_ifRemoved_15 : decode cL_ifRemoved 15 = .ok (.iconst 0, 1) := by decide +kernel
theorem dL_ifRemoved_16 : decode cL_ifRemoved 16 = .ok (.ireturn, 1) := by decide +kernel
set_option maxRecDepth 20000 in
theorem ggL_shortest_X11_shortest : GoodIn wsL_shortest wsX11_shortest := goodIn_ca (goodIn_r _ [6, 7, 8, 9, 10, 11, 12, 13, 5, 14, 15, 16, 17, 18, 19, 20, 21, 22, 23, 24, 25, 26, 27, 28, 29, 30, 31, 32, 33, 34, 35, 36, 37, 38, 39, 40, 41, 42, 43, 44, 45, 46, 47, 48, 49, 50, 51, 52, 53, 54, 55, 56, 57, 58, 59, 60, 61, 62, 63, 64] (by decide +kernel) (by decide +kernel)) (goodIn_sub (fun _ h => List.mem_cons_of_mem _ (List.mem_append_right _ h)) (by decide +kernel))
set_option maxRecDepth 20000 in
theorem gL_shortest_X11_shortest : GoodIn wsL_shortest (wsV RL 63 RX11 yX11_shortest wsX11_shortest) := goodIn_app (goodIn_of _ (by decide +kernel)) ggL_shortest_X11_shortest
theorem dL_shortest_0 : decode cL_shortest 0 = .ok (.aload_n 2, 1) := by decide +kernel
theorem dL_shortest_1 : decode cL_shortest 1 = .ok (.iconst 0, 1) := by decide +kernel
theorem dL_shortest_2 : decode cL_shortest 2 = .ok (.aload_n 0, 1) := by decide +kernel
theorem dL_shortest_3 : decode cL_shortest 3 = .ok (.iload_n 1, 1) := by decide +kernel
theorem dL_shortest_4 : decode cL_shortest 4 = .ok (.invokevirtual 63, 3) := by decide +kernel
theorem dL_shortest_7 : decode cL_shortest 7 = .ok (.i2l, 1) := by decide +kernel
theorem dL_shortest_8 : decode cL_shortest 8 = .ok (.lastore, 1) := by decide +kernel
theorem dL_shortest_9 : decode cL_shortest 9 = .ok (.goto 6, 3) := by decide +kernel
theorem dL_shortest_12 : decode cL_shortest 12 = .ok (.astore_n 3, 1) := by decide +kernel
theorem dL_shortest_13 : decode cL_shortest 13 = .ok (.iconst 1, 1) := by decide +kernel
theorem dL_shortest_14 : decode cL_shortest 14 = .ok (.ireturn, 1) := by decide +kernel
theorem dL_shortest_15 : decode cL_shortest 15 = .ok (.iconst 0, 1) := by decide +kernel
theorem dL_shortest_16 : decode cL_shortest 16 = .ok (.ireturn, 1) := by decide +kernel
theorem dL_law_0 : decode cL_law 0 = .ok (.new 8, 3) := by decide +kernel
theorem dL_law_3 : decode cL_law 3 = .ok (.dup, 1) := by decide +kernel
theorem dL_law_4 : decode cL_law 4 = .ok (.invokespecial 66, 3) := by decide +kernel
theorem dL_law_7 : decode cL_law 7 = .ok (.astore_n 1, 1) := by decide +kernel
theorem dL_law_8 : decode cL_law 8 = .ok (.new 67, 3) := by decide +kernel
theorem dL_law_11 : decode cL_law 11 = .ok (.dup, 1) := by decide +kernel
theorem dL_law_12 : decode cL_law 12 = .ok (.invokespecial 69, 3) := by decide +kernel
theorem dL_law_15 : decode cL_law 15 = .ok (.astore_n 2, 1) := by decide +kernel
theorem dL_law_16 : decode cL_law 16 = .ok (.iconst 1, 1) := by decide +kernel
theorem dL_law_17 : decode cL_law 17 = .ok (.newarray .long, 2) := by decide +kernel
theorem dL_law_19 : decode cL_law 19 = .ok (.astore_n 3, 1) := by decide +kernel
theorem dL_law_20 : decode cL_law 20 = .ok (.iconst 0, 1) := by decide +kernel
theorem dL_law_21 : decode cL_law 21 = .ok (.istore 4, 2) := by decide +kernel
theorem dL_law_23 : decode cL_law 23 = .ok (.iload 4, 2) := by decide +kernel
theorem dL_law_25 : decode cL_law 25 = .ok (.aload_n 0, 1) := by decide +kernel
theorem dL_law_26 : decode cL_law 26 = .ok (.arraylength, 1) := by decide +kernel
theorem dL_law_27 : decode cL_law 27 = .ok (.iconst 3, 1) := by decide +kernel
theorem dL_law_28 : decode cL_law 28 = .ok (.isub, 1) := by decide +kernel
theorem dL_law_29 : decode cL_law 29 = .ok (.if_icmp .gt 1173, 3) := by decide +kernel
theorem dL_law_32 : decode cL_law 32 = .ok (.aload_n 0, 1) := by decide +kernel
theorem dL_law_33 : decode cL_law 33 = .ok (.iload 4, 2) := by decide +kernel
theorem dL_law_35 : decode cL_law 35 = .ok (.iaload, 1) := by decide +kernel
theorem dL_law_36 : decode cL_law 36 = .ok (.bipush 31, 2) := by decide +kernel
theorem dL_law_38 : decode cL_law 38 = .ok (.iand, 1) := by decide +kernel
theorem dL_law_39 : decode cL_law 39 = .ok (.tableswitch 1157 0 22 #[105, 161, 205, 218, 274, 330, 398, 466, 522, 535, 548, 592, 636, 704, 772, 840, 896, 964, 1020, 1033, 1046, 1102, 1143], 105) := by decide +kernel
theorem dL_law_144 : decode cL_law 144 = .ok (.aload_n 1, 1) := by decide +kernel
theorem dL_law_145 : decode cL_law 145 = .ok (.aload_n 0, 1) := by decide +kernel
theorem dL_law_146 : decode cL_law 146 = .ok (.iload 4, 2) := by decide +kernel
theorem dL_law_148 : decode cL_law 148 = .ok (.iconst 1, 1) := by decide +kernel
theorem dL_law_149 : decode cL_law 149 = .ok (.iadd, 1) := by decide +kernel
theorem dL_law_150 : decode cL_law 150 = .ok (.iaload, 1) := by decide +kernel
theorem dL_law_151 : decode cL_law 151 = .ok (.aload_n 3, 1) := by decide +kernel
theorem dL_law_152 : decode cL_law 152 = .ok (.invokestatic 70, 3) := by decide +kernel
theorem dL_law_155 : decode cL_law 155 = .ok (.istore 5, 2) := by decide +kernel
theorem dL_law_157 : decode cL_law 157 = .ok (.aload_n 2, 1) := by decide +kernel
theorem dL_law_158 : decode cL_law 158 = .ok (.aload_n 0, 1) := by decide +kernel
theorem dL_law_159 : decode cL_law 159 = .ok (.iload 4, 2) := by decide +kernel
theorem dL_law_161 : decode cL_law 161 = .ok (.iconst 1, 1) := by decide +kernel
theorem dL_law_162 : decode cL_law 162 = .ok (.iadd, 1) := by decide +kernel
theorem dL_law_163 : decode cL_law 163 = .ok (.iaload, 1) := by decide +kernel
theorem dL_law_164 : decode cL_law 164 = .ok (.invokevirtual 75, 3) := by decide +kernel
theorem dL_law_167 : decode cL_law 167 = .ok (.istore 6, 2) := by decide +kernel
theorem dL_law_169 : decode cL_law 169 = .ok (.aload_n 2, 1) := by decide +kernel
theorem dL_law_170 : decode cL_law 170 = .ok (.invokevirtual 76, 3) := by decide +kernel
theorem dL_law_173 : decode cL_law 173 = .ok (.iload 5, 2) := by decide +kernel
theorem dL_law_175 : decode cL_law 175 = .ok (.if_icmp .eq 5, 3) := by decide +kernel
theorem dL_law_178 : decode cL_law 178 = .ok (.iconst 0, 1) := by decide +kernel
theorem dL_law_179 : decode cL_law 179 = .ok (.ireturn, 1) := by decide +kernel
theorem dL_law_180 : decode cL_law 180 = .ok (.iload 5, 2) := by decide +kernel
theorem dL_law_182 : decode cL_law 182 = .ok (.ifCond .ne 15, 3) := by decide +kernel
theorem dL_law_185 : decode cL_law 185 = .ok (.aload_n 3, 1) := by decide +kernel
theorem dL_law_186 : decode cL_law 186 = .ok (.iconst 0, 1) := by decide +kernel
theorem dL_law_187 : decode cL_law 187 = .ok (.laload, 1) := by decide +kernel
theorem dL_law_188 : decode cL_law 188 = .ok (.iload 6, 2) := by decide +kernel
theorem dL_law_190 : decode cL_law 190 = .ok (.i2l, 1) := by decide +kernel
theorem dL_law_191 : decode cL_law 191 = .ok (.lcmp, 1) := by decide +kernel
theorem dL_law_192 : decode cL_law 192 = .ok (.ifCond .eq 5, 3) := by decide +kernel
theorem dL_law_195 : decode cL_law 195 = .ok (.iconst 0, 1) := by decide +kernel
theorem dL_law_196 : decode cL_law 196 = .ok (.ireturn, 1) := by decide +kernel
theorem dL_law_197 : decode cL_law 197 = .ok (.goto 999, 3) := by decide +kernel
theorem dL_law_200 : decode cL_law 200 = .ok (.aload_n 1, 1) := by decide +kernel
theorem dL_law_201 : decode cL_law 201 = .ok (.aload_n 3, 1) := by decide +kernel
theorem dL_law_202 : decode cL_law 202 = .ok (.invokestatic 79, 3) := by decide +kernel
theorem dL_law_205 : decode cL_law 205 = .ok (.istore 5, 2) := by decide +kernel
theorem dL_law_207 : decode cL_law 207 = .ok (.aload_n 2, 1) := by decide +kernel
theorem dL_law_208 : decode cL_law 208 = .ok (.invokevirtual 82, 3) := by decide +kernel
theorem dL_law_211 : decode cL_law 211 = .ok (.istore 6, 2) := by decide +kernel
theorem dL_law_213 : decode cL_law 213 = .ok (.aload_n 2, 1) := by decide +kernel
theorem dL_law_214 : decode cL_law 214 = .ok (.invokevirtual 76, 3) := by decide +kernel
theorem dL_law_217 : decode cL_law 217 = .ok (.iload 5, 2) := by decide +kernel
theorem dL_law_219 : decode cL_law 219 = .ok (.if_icmp .eq 5, 3) := by decide +kernel
theorem dL_law_222 : decode cL_law 222 = .ok (.iconst 0, 1) := by decide +kernel
theorem dL_law_223 : decode cL_law 223 = .ok (.ireturn, 1) := by decide +kernel
theorem dL_law_224 : decode cL_law 224 = .ok (.iload 5, 2) := by decide +kernel
theorem dL_law_226 : decode cL_law 226 = .ok (.ifCond .ne 15, 3) := by decide +kernel
theorem dL_law_229 : decode cL_law 229 = .ok (.aload_n 3, 1) := by decide +kernel
theorem dL_law_230 : decode cL_law 230 = .ok (.iconst 0, 1) := by decide +kernel
theorem dL_law_231 : decode cL_law 231 = .ok (.laload, 1) := by decide +kernel
theorem dL_law_232 : decode cL_law 232 = .ok (.iload 6, 2) := by decide +kernel
theorem dL_law_234 : decode cL_law 234 = .ok (.i2l, 1) := by decide +kernel
theorem dL_law_235 : decode cL_law 235 = .ok (.lcmp, 1) := by decide +kernel
theorem dL_law_236 : decode cL_law 236 = .ok (.ifCond .eq 5, 3) := by decide +kernel
theorem dL_law_239 : decode cL_law 239 = .ok (.iconst 0, 1) := by decide +kernel
theorem dL_law_240 : decode cL_law 240 = .ok (.ireturn, 1) := by decide +kernel
theorem dL_law_241 : decode cL_law 241 = .ok (.goto 955, 3) := by decide +kernel
theorem dL_law_244 : decode cL_law 244 = .ok (.aload_n 1, 1) := by decide +kernel
theorem dL_law_245 : decode cL_law 245 = .ok (.invokevirtual 83, 3) := by decide +kernel
theorem dL_law_248 : decode cL_law 248 = .ok (.aload_n 2, 1) := by decide +kernel
theorem dL_law_249 : decode cL_law 249 = .ok (.invokevirtual 86, 3) := by decide +kernel
theorem dL_law_252 : decode cL_law 252 = .ok (.if_icmp .eq 944, 3) := by decide +kernel
theorem dL_law_255 : decode cL_law 255 = .ok (.iconst 0, 1) := by decide +kernel
theorem dL_law_256 : decode cL_law 256 = .ok (.ireturn, 1) := by decide +kernel
theorem dL_law_257 : decode cL_law 257 = .ok (.aload_n 1, 1) := by decide +kernel
theorem dL_law_258 : decode cL_law 258 = .ok (.aload_n 0, 1) := by decide +kernel
theorem dL_law_259 : decode cL_law 259 = .ok (.iload 4, 2) := by decide +kernel
theorem dL_law_261 : decode cL_law 261 = .ok (.iconst 1, 1) := by decide +kernel
theorem dL_law_262 : decode cL_law 262 = .ok (.iadd, 1) := by decide +kernel
theorem dL_law_263 : decode cL_law 263 = .ok (.iaload, 1) := by decide +kernel
theorem dL_law_264 : decode cL_law 264 = .ok (.aload_n 3, 1) := by decide +kernel
theorem dL_law_265 : decode cL_law 265 = .ok (.invokestatic 87, 3) := by decide +kernel
theorem dL_law_268 : decode cL_law 268 = .ok (.istore 5, 2) := by decide +kernel
theorem dL_law_270 : decode cL_law 270 = .ok (.aload_n 2, 1) := by decide +kernel
theorem dL_law_271 : decode cL_law 271 = .ok (.aload_n 0, 1) := by decide +kernel
theorem dL_law_272 : decode cL_law 272 = .ok (.iload 4, 2) := by decide +kernel
theorem dL_law_274 : decode cL_law 274 = .ok (.iconst 1, 1) := by decide +kernel
theorem dL_law_275 : decode cL_law 275 = .ok (.iadd, 1) := by decide +kernel
theorem dL_law_276 : decode cL_law 276 = .ok (.iaload, 1) := by decide +kernel
theorem dL_law_277 : decode cL_law 277 = .ok (.invokevirtual 89, 3) := by decide +kernel
theorem dL_law_280 : decode cL_law 280 = .ok (.istore 6, 2) := by decide +kernel
theorem dL_law_282 : decode cL_law 282 = .ok (.aload_n 2, 1) := by decide +kernel
theorem dL_law_283 : decode cL_law 283 = .ok (.invokevirtual 76, 3) := by decide +kernel
theorem dL_law_286 : decode cL_law 286 = .ok (.iload 5, 2) := by decide +kernel
theorem dL_law_288 : decode cL_law 288 = .ok (.if_icmp .eq 5, 3) := by decide +kernel
theorem dL_law_291 : decode cL_law 291 = .ok (.iconst 0, 1) := by decide +kernel
theorem dL_law_292 : decode cL_law 292 = .ok (.ireturn, 1) := by decide +kernel
theorem dL_law_293 : decode cL_law 293 = .ok (.iload 5, 2) := by decide +kernel
theorem dL_law_295 : decode cL_law 295 = .ok (.ifCond .ne 15, 3) := by decide +kernel
theorem dL_law_298 : decode cL_law 298 = .ok (.aload_n 3, 1) := by decide +kernel
theorem dL_law_299 : decode cL_law 299 = .ok (.iconst 0, 1) := by decide +kernel
theorem dL_law_300 : decode cL_law 300 = .ok (.laload, 1) := by decide +kernel
theorem dL_law_301 : decode cL_law 301 = .ok (.iload 6, 2) := by decide +kernel
theorem dL_law_303 : decode cL_law 303 = .ok (.i2l, 1) := by decide +kernel
theorem dL_law_304 : decode cL_law 304 = .ok (.lcmp, 1) := by decide +kernel
theorem dL_law_305 : decode cL_law 305 = .ok (.ifCond .eq 5, 3) := by decide +kernel
theorem dL_law_308 : decode cL_law 308 = .ok (.iconst 0, 1) := by decide +kernel
theorem dL_law_309 : decode cL_law 309 = .ok (.ireturn, 1) := by decide +kernel
theorem dL_law_310 : decode cL_law 310 = .ok (.goto 886, 3) := by decide +kernel
theorem dL_law_313 : decode cL_law 313 = .ok (.aload_n 1, 1) := by decide +kernel
theorem dL_law_314 : decode cL_law 314 = .ok (.aload_n 0, 1) := by decide +kernel
theorem dL_law_315 : decode cL_law 315 = .ok (.iload 4, 2) := by decide +kernel
theorem dL_law_317 : decode cL_law 317 = .ok (.iconst 1, 1) := by decide +kernel
theorem dL_law_318 : decode cL_law 318 = .ok (.iadd, 1) := by decide +kernel
theorem dL_law_319 : decode cL_law 319 = .ok (.iaload, 1) := by decide +kernel
theorem dL_law_320 : decode cL_law 320 = .ok (.aload_n 3, 1) := by decide +kernel
theorem dL_law_321 : decode cL_law 321 = .ok (.invokestatic 90, 3) := by decide +kernel
theorem dL_law_324 : decode cL_law 324 = .ok (.istore 5, 2) := by decide +kernel
theorem dL_law_326 : decode cL_law 326 = .ok (.aload_n 2, 1) := by decide +kernel
theorem dL_law_327 : decode cL_law 327 = .ok (.aload_n 0, 1) := by decide +kernel
theorem dL_law_328 : decode cL_law 328 = .ok (.iload 4, 2) := by decide +kernel
theorem dL_law_330 : decode cL_law 330 = .ok (.iconst 1, 1) := by decide +kernel
theorem dL_law_331 : decode cL_law 331 = .ok (.iadd, 1) := by decide +kernel
theorem dL_law_332 : decode cL_law 332 = .ok (.iaload, 1) := by decide +kernel
theorem dL_law_333 : decode cL_law 333 = .ok (.invokevirtual 92, 3) := by decide +kernel
theorem dL_law_336 : decode cL_law 336 = .ok (.istore 6, 2) := by decide +kernel
theorem dL_law_338 : decode cL_law 338 = .ok (.aload_n 2, 1) := by decide +kernel
theorem dL_law_339 : decode cL_law 339 = .ok (.invokevirtual 76, 3) := by decide +kernel
theorem dL_law_342 : decode cL_law 342 = .ok (.iload 5, 2) := by decide +kernel
theorem dL_law_344 : decode cL_law 344 = .ok (.if_icmp .eq 5, 3) := by decide +kernel
theorem dL_law_347 : decode cL_law 347 = .ok (.iconst 0, 1) := by decide +kernel
theorem dL_law_348 : decode cL_law 348 = .ok (.ireturn, 1) := by decide +kernel
theorem dL_law_349 : decode cL_law 349 = .ok (.iload 5, 2) := by decide +kernel
theorem dL_law_351 : decode cL_law 351 = .ok (.ifCond .ne 15, 3) := by decide +kernel
theorem dL_law_354 : decode cL_law 354 = .ok (.aload_n 3, 1) := by decide +kernel
theorem dL_law_355 : decode cL_law 355 = .ok (.iconst 0, 1) := by decide +kernel
theorem dL_law_356 : decode cL_law 356 = .ok (.laload, 1) := by decide +kernel
theorem dL_law_357 : decode cL_law 357 = .ok (.iload 6, 2) := by decide +kernel
theorem dL_law_359 : decode cL_law 359 = .ok (.i2l, 1) := by decide +kernel
theorem dL_law_360 : decode cL_law 360 = .ok (.lcmp, 1) := by decide +kernel
theorem dL_law_361 : decode cL_law 361 = .ok (.ifCond .eq 5, 3) := by decide +kernel
theorem dL_law_364 : decode cL_law 364 = .ok (.iconst 0, 1) := by decide +kernel
theorem dL_law_365 : decode cL_law 365 = .ok (.ireturn, 1) := by decide +kernel
theorem dL_law_366 : decode cL_law 366 = .ok (.goto 830, 3) := by decide +kernel
theorem dL_law_369 : decode cL_law 369 = .ok (.aload_n 1, 1) := by decide +kernel
theorem dL_law_370 : decode cL_law 370 = .ok (.aload_n 0, 1) := by decide +kernel
theorem dL_law_371 : decode cL_law 371 = .ok (.iload 4, 2) := by decide +kernel
theorem dL_law_373 : decode cL_law 373 = .ok (.iconst 1, 1) := by decide +kernel
theorem dL_law_374 : decode cL_law 374 = .ok (.iadd, 1) := by decide +kernel
theorem dL_law_375 : decode cL_law 375 = .ok (.iaload, 1) := by decide +kernel
theorem dL_law_376 : decode cL_law 376 = .ok (.aload_n 0, 1) := by decide +kernel
theorem dL_law_377 : decode cL_law 377 = .ok (.iload 4, 2) := by decide +kernel
theorem dL_law_379 : decode cL_law 379 = .ok (.iconst 2, 1) := by decide +kernel
theorem dL_law_380 : decode cL_law 380 = .ok (.iadd, 1) := by decide +kernel
theorem dL_law_381 : decode cL_law 381 = .ok (.iaload, 1) := by decide +kernel
theorem dL_law_382 : decode cL_law 382 = .ok (.aload_n 3, 1) := by decide +kernel
theorem dL_law_383 : decode cL_law 383 = .ok (.invokestatic 93, 3) := by decide +kernel
theorem dL_law_386 : decode cL_law 386 = .ok (.istore 5, 2) := by decide +kernel
theorem dL_law_388 : decode cL_law 388 = .ok (.aload_n 2, 1) := by decide +kernel
theorem dL_law_389 : decode cL_law 389 = .ok (.aload_n 0, 1) := by decide +kernel
theorem dL_law_390 : decode cL_law 390 = .ok (.iload 4, 2) := by decide +kernel
theorem dL_law_392 : decode cL_law 392 = .ok (.iconst 1, 1) := by decide +kernel
theorem dL_law_393 : decode cL_law 393 = .ok (.iadd, 1) := by decide +kernel
theorem dL_law_394 : decode cL_law 394 = .ok (.iaload, 1) := by decide +kernel
theorem dL_law_395 : decode cL_law 395 = .ok (.aload_n 0, 1) := by decide +kernel
theorem dL_law_396 : decode cL_law 396 = .ok (.iload 4, 2) := by decide +kernel
theorem dL_law_398 : decode cL_law 398 = .ok (.iconst 2, 1) := by decide +kernel
theorem dL_law_399 : decode cL_law 399 = .ok (.iadd, 1) := by decide +kernel
theorem dL_law_400 : decode cL_law 400 = .ok (.iaload, 1) := by decide +kernel
theorem dL_law_401 : decode cL_law 401 = .ok (.invokevirtual 96, 3) := by decide +kernel
theorem dL_law_404 : decode cL_law 404 = .ok (.istore 6, 2) := by decide +kernel
theorem dL_law_406 : decode cL_law 406 = .ok (.aload_n 2, 1) := by decide +kernel
theorem dL_law_407 : decode cL_law 407 = .ok (.invokevirtual 76, 3) := by decide +kernel
theorem dL_law_410 : decode cL_law 410 = .ok (.iload 5, 2) := by decide +kernel
theorem dL_law_412 : decode cL_law 412 = .ok (.if_icmp .eq 5, 3) := by decide +kernel
theorem dL_law_415 : decode cL_law 415 = .ok (.iconst 0, 1) := by decide +kernel
theorem dL_law_416 : decode cL_law 416 = .ok (.ireturn, 1) := by decide +kernel
theorem dL_law_417 : decode cL_law 417 = .ok (.iload 5, 2) := by decide +kernel
theorem dL_law_419 : decode cL_law 419 = .ok (.ifCond .ne 15, 3) := by decide +kernel
theorem dL_law_422 : decode cL_law 422 = .ok (.aload_n 3, 1) := by decide +kernel
theorem dL_law_423 : decode cL_law 423 = .ok (.iconst 0, 1) := by decide +kernel
theorem dL_law_424 : decode cL_law 424 = .ok (.laload, 1) := by decide +kernel
theorem dL_law_425 : decode cL_law 425 = .ok (.iload 6, 2) := by decide +kernel
theorem dL_law_427 : decode cL_law 427 = .ok (.i2l, 1) := by decide +kernel
theorem dL_law_428 : decode cL_law 428 = .ok (.lcmp, 1) := by decide +kernel
theorem dL_law_429 : decode cL_law 429 = .ok (.ifCond .eq 5, 3) := by decide +kernel
theorem dL_law_432 : decode cL_law 432 = .ok (.iconst 0, 1) := by decide +kernel
theorem dL_law_433 : decode cL_law 433 = .ok (.ireturn, 1) := by decide +kernel
theorem dL_law_434 : decode cL_law 434 = .ok (.goto 762, 3) := by decide +kernel
theorem dL_law_437 : decode cL_law 437 = .ok (.aload_n 1, 1) := by decide +kernel
theorem dL_law_438 : decode cL_law 438 = .ok (.aload_n 0, 1) := by decide +kernel
theorem dL_law_439 : decode cL_law 439 = .ok (.iload 4, 2) := by decide +kernel
theorem dL_law_441 : decode cL_law 441 = .ok (.iconst 1, 1) := by decide +kernel
theorem dL_law_442 : decode cL_law 442 = .ok (.iadd, 1) := by decide +kernel
theorem dL_law_443 : decode cL_law 443 = .ok (.iaload, 1) := by decide +kernel
theorem dL_law_444 : decode cL_law 444 = .ok (.aload_n 0, 1) := by decide +kernel
theorem dL_law_445 : decode cL_law 445 = .ok (.iload 4, 2) := by decide +kernel
theorem dL_law_447 : decode cL_law 447 = .ok (.iconst 2, 1) := by decide +kernel
theorem dL_law_448 : decode cL_law 448 = .ok (.iadd, 1) := by decide +kernel
theorem dL_law_449 : decode cL_law 449 = .ok (.iaload, 1) := by decide +kernel
theorem dL_law_450 : decode cL_law 450 = .ok (.aload_n 3, 1) := by decide +kernel
theorem dL_law_451 : decode cL_law 451 = .ok (.invokestatic 97, 3) := by decide +kernel
theorem dL_law_454 : decode cL_law 454 = .ok (.istore 5, 2) := by decide +kernel
theorem dL_law_456 : decode cL_law 456 = .ok (.aload_n 2, 1) := by decide +kernel
theorem dL_law_457 : decode cL_law 457 = .ok (.aload_n 0, 1) := by decide +kernel
theorem dL_law_458 : decode cL_law 458 = .ok (.iload 4, 2) := by decide +kernel
theorem dL_law_460 : decode cL_law 460 = .ok (.iconst 1, 1) := by decide +kernel
theorem dL_law_461 : decode cL_law 461 = .ok (.iadd, 1) := by decide +kernel
theorem dL_law_462 : decode cL_law 462 = .ok (.iaload, 1) := by decide +kernel
theorem dL_law_463 : decode cL_law 463 = .ok (.aload_n 0, 1) := by decide +kernel
theorem dL_law_464 : decode cL_law 464 = .ok (.iload 4, 2) := by decide +kernel
theorem dL_law_466 : decode cL_law 466 = .ok (.iconst 2, 1) := by decide +kernel
theorem dL_law_467 : decode cL_law 467 = .ok (.iadd, 1) := by decide +kernel
theorem dL_law_468 : decode cL_law 468 = .ok (.iaload, 1) := by decide +kernel
theorem dL_law_469 : decode cL_law 469 = .ok (.invokevirtual 99, 3) := by decide +kernel
theorem dL_law_472 : decode cL_law 472 = .ok (.istore 6, 2) := by decide +kernel
theorem dL_law_474 : decode cL_law 474 = .ok (.aload_n 2, 1) := by decide +kernel
theorem dL_law_475 : decode cL_law 475 = .ok (.invokevirtual 76, 3) := by decide +kernel
theorem dL_law_478 : decode cL_law 478 = .ok (.iload 5, 2) := by decide +kernel
theorem dL_law_480 : decode cL_law 480 = .ok (.if_icmp .eq 5, 3) := by decide +kernel
theorem dL_law_483 : decode cL_law 483 = .ok (.iconst 0, 1) := by decide +kernel
theorem dL_law_484 : decode cL_law 484 = .ok (.ireturn, 1) := by decide +kernel
theorem dL_law_485 : decode cL_law 485 = .ok (.iload 5, 2) := by decide +kernel
theorem dL_law_487 : decode cL_law 487 = .ok (.ifCond .ne 15, 3) := by decide +kernel
theorem dL_law_490 : decode cL_law 490 = .ok (.aload_n 3, 1) := by decide +kernel
theorem dL_law_491 : decode cL_law 491 = .ok (.iconst 0, 1) := by decide +kernel
theorem dL_law_492 : decode cL_law 492 = .ok (.laload, 1) := by decide +kernel
theorem dL_law_493 : decode cL_law 493 = .ok (.iload 6, 2) := by decide +kernel
theorem dL_law_495 : decode cL_law 495 = .ok (.i2l, 1) := by decide +kernel
theorem dL_law_496 : decode cL_law 496 = .ok (.lcmp, 1) := by decide +kernel
theorem dL_law_497 : decode cL_law 497 = .ok (.ifCond .eq 5, 3) := by decide +kernel
theorem dL_law_500 : decode cL_law 500 = .ok (.iconst 0, 1) := by decide +kernel
theorem dL_law_501 : decode cL_law 501 = .ok (.ireturn, 1) := by decide +kernel
theorem dL_law_502 : decode cL_law 502 = .ok (.goto 694, 3) := by decide +kernel
theorem dL_law_505 : decode cL_law 505 = .ok (.aload_n 1, 1) := by decide +kernel
theorem dL_law_506 : decode cL_law 506 = .ok (.aload_n 0, 1) := by decide +kernel
theorem dL_law_507 : decode cL_law 507 = .ok (.iload 4, 2) := by decide +kernel
theorem dL_law_509 : decode cL_law 509 = .ok (.iconst 1, 1) := by decide +kernel
theorem dL_law_510 : decode cL_law 510 = .ok (.iadd, 1) := by decide +kernel
theorem dL_law_511 : decode cL_law 511 = .ok (.iaload, 1) := by decide +kernel
theorem dL_law_512 : decode cL_law 512 = .ok (.aload_n 3, 1) := by decide +kernel
theorem dL_law_513 : decode cL_law 513 = .ok (.invokestatic 100, 3) := by decide +kernel
theorem dL_law_516 : decode cL_law 516 = .ok (.istore 5, 2) := by decide +kernel
theorem dL_law_518 : decode cL_law 518 = .ok (.aload_n 2, 1) := by decide +kernel
theorem dL_law_519 : decode cL_law 519 = .ok (.aload_n 0, 1) := by decide +kernel
theorem dL_law_520 : decode cL_law 520 = .ok (.iload 4, 2) := by decide +kernel
theorem dL_law_522 : decode cL_law 522 = .ok (.iconst 1, 1) := by decide +kernel
theorem dL_law_523 : decode cL_law 523 = .ok (.iadd, 1) := by decide +kernel
theorem dL_law_524 : decode cL_law 524 = .ok (.iaload, 1) := by decide +kernel
theorem dL_law_525 : decode cL_law 525 = .ok (.invokevirtual 102, 3) := by decide +kernel
theorem dL_law_528 : decode cL_law 528 = .ok (.istore 6, 2) := by decide +kernel
theorem dL_law_530 : decode cL_law 530 = .ok (.aload_n 2, 1) := by decide +kernel
theorem dL_law_531 : decode cL_law 531 = .ok (.invokevirtual 76, 3) := by decide +kernel
theorem dL_law_534 : decode cL_law 534 = .ok (.iload 5, 2) := by decide +kernel
theorem dL_law_536 : decode cL_law 536 = .ok (.if_icmp .eq 5, 3) := by decide +kernel
theorem dL_law_539 : decode cL_law 539 = .ok (.iconst 0, 1) := by decide +kernel
theorem dL_law_540 : decode cL_law 540 = .ok (.ireturn, 1) := by decide +kernel
theorem dL_law_541 : decode cL_law 541 = .ok (.iload 5, 2) := by decide +kernel
theorem dL_law_543 : decode cL_law 543 = .ok (.ifCond .ne 15, 3) := by decide +kernel
theorem dL_law_546 : decode cL_law 546 = .ok (.aload_n 3, 1) := by decide +kernel
theorem dL_law_547 : decode cL_law 547 = .ok (.iconst 0, 1) := by decide +kernel
theorem dL_law_548 : decode cL_law 548 = .ok (.laload, 1) := by decide +kernel
theorem dL_law_549 : decode cL_law 549 = .ok (.iload 6, 2) := by decide +kernel
theorem dL_law_551 : decode cL_law 551 = .ok (.i2l, 1) := by decide +kernel
theorem dL_law_552 : decode cL_law 552 = .ok (.lcmp, 1) := by decide +kernel
theorem dL_law_553 : decode cL_law 553 = .ok (.ifCond .eq 5, 3) := by decide +kernel
theorem dL_law_556 : decode cL_law 556 = .ok (.iconst 0, 1) := by decide +kernel
theorem dL_law_557 : decode cL_law 557 = .ok (.ireturn, 1) := by decide +kernel
theorem dL_law_558 : decode cL_law 558 = .ok (.goto 638, 3) := by decide +kernel
theorem dL_law_561 : decode cL_law 561 = .ok (.aload_n 1, 1) := by decide +kernel
theorem dL_law_562 : decode cL_law 562 = .ok (.invokevirtual 103, 3) := by decide +kernel
theorem dL_law_565 : decode cL_law 565 = .ok (.aload_n 2, 1) := by decide +kernel
theorem dL_law_566 : decode cL_law 566 = .ok (.invokevirtual 106, 3) := by decide +kernel
theorem dL_law_569 : decode cL_law 569 = .ok (.if_icmp .eq 627, 3) := by decide +kernel
theorem dL_law_572 : decode cL_law 572 = .ok (.iconst 0, 1) := by decide +kernel
theorem dL_law_573 : decode cL_law 573 = .ok (.ireturn, 1) := by decide +kernel
theorem dL_law_574 : decode cL_law 574 = .ok (.aload_n 1, 1) := by decide +kernel
theorem dL_law_575 : decode cL_law 575 = .ok (.invokevirtual 107, 3) := by decide +kernel
theorem dL_law_578 : decode cL_law 578 = .ok (.aload_n 2, 1) := by decide +kernel
theorem dL_law_579 : decode cL_law 579 = .ok (.invokevirtual 110, 3) := by decide +kernel
theorem dL_law_582 : decode cL_law 582 = .ok (.if_icmp .eq 614, 3) := by decide +kernel
theorem dL_law_585 : decode cL_law 585 = .ok (.iconst 0, 1) := by decide +kernel
theorem dL_law_586 : decode cL_law 586 = .ok (.ireturn, 1) := by decide +kernel
theorem dL_law_587 : decode cL_law 587 = .ok (.aload_n 1, 1) := by decide +kernel
theorem dL_law_588 : decode cL_law 588 = .ok (.aload_n 3, 1) := by decide +kernel
theorem dL_law_589 : decode cL_law 589 = .ok (.invokestatic 111, 3) := by decide +kernel
theorem dL_law_592 : decode cL_law 592 = .ok (.istore 5, 2) := by decide +kernel
theorem dL_law_594 : decode cL_law 594 = .ok (.aload_n 2, 1) := by decide +kernel
theorem dL_law_595 : decode cL_law 595 = .ok (.invokevirtual 113, 3) := by decide +kernel
theorem dL_law_598 : decode cL_law 598 = .ok (.istore 6, 2) := by decide +kernel
theorem dL_law_600 : decode cL_law 600 = .ok (.aload_n 2, 1) := by decide +kernel
theorem dL_law_601 : decode cL_law 601 = .ok (.invokevirtual 76, 3) := by decide +kernel
theorem dL_law_604 : decode cL_law 604 = .ok (.iload 5, 2) := by decide +kernel
theorem dL_law_606 : decode cL_law 606 = .ok (.if_icmp .eq 5, 3) := by decide +kernel
theorem dL_law_609 : decode cL_law 609 = .ok (.iconst 0, 1) := by decide +kernel
theorem dL_law_610 : decode cL_law 610 = .ok (.ireturn, 1) := by decide +kernel
theorem dL_law_611 : decode cL_law 611 = .ok (.iload 5, 2) := by decide +kernel
theorem dL_law_613 : decode cL_law 613 = .ok (.ifCond .ne 15, 3) := by decide +kernel
theorem dL_law_616 : decode cL_law 616 = .ok (.aload_n 3, 1) := by decide +kernel
theorem dL_law_617 : decode cL_law 617 = .ok (.iconst 0, 1) := by decide +kernel
theorem dL_law_618 : decode cL_law 618 = .ok (.laload, 1) := by decide +kernel
theorem dL_law_619 : decode cL_law 619 = .ok (.iload 6, 2) := by decide +kernel
theorem dL_law_621 : decode cL_law 621 = .ok (.i2l, 1) := by decide +kernel
theorem dL_law_622 : decode cL_law 622 = .ok (.lcmp, 1) := by decide +kernel
theorem dL_law_623 : decode cL_law 623 = .ok (.ifCond .eq 5, 3) := by decide +kernel
theorem dL_law_626 : decode cL_law 626 = .ok (.iconst 0, 1) := by decide +kernel
theorem dL_law_627 : decode cL_law 627 = .ok (.ireturn, 1) := by decide +kernel
theorem dL_law_628 : decode cL_law 628 = .ok (.goto 568, 3) := by decide +kernel
theorem dL_law_631 : decode cL_law 631 = .ok (.aload_n 1, 1) := by decide +kernel
theorem dL_law_632 : decode cL_law 632 = .ok (.aload_n 3, 1) := by decide +kernel
theorem dL_law_633 : decode cL_law 633 = .ok (.invokestatic 114, 3) := by decide +kernel
theorem dL_law_636 : decode cL_law 636 = .ok (.istore 5, 2) := by decide +kernel
theorem dL_law_638 : decode cL_law 638 = .ok (.aload_n 2, 1) := by decide +kernel
theorem dL_law_639 : decode cL_law 639 = .ok (.invokevirtual 116, 3) := by decide +kernel
theorem dL_law_642 : decode cL_law 642 = .ok (.istore 6, 2) := by decide +kernel
theorem dL_law_644 : decode cL_law 644 = .ok (.aload_n 2, 1) := by decide +kernel
theorem dL_law_645 : decode cL_law 645 = .ok (.invokevirtual 76, 3) := by decide +kernel
theorem dL_law_648 : decode cL_law 648 = .ok (.iload 5, 2) := by decide +kernel
theorem dL_law_650 : decode cL_law 650 = .ok (.if_icmp .eq 5, 3) := by decide +kernel
theorem dL_law_653 : decode cL_law 653 = .ok (.iconst 0, 1) := by decide +kernel
theorem dL_law_654 : decode cL_law 654 = .ok (.ireturn, 1) := by decide +kernel
theorem dL_law_655 : decode cL_law 655 = .ok (.iload 5, 2) := by decide +kernel
theorem dL_law_657 : decode cL_law 657 = .ok (.ifCond .ne 15, 3) := by decide +kernel
theorem dL_law_660 : decode cL_law 660 = .ok (.aload_n 3, 1) := by decide +kernel
theorem dL_law_661 : decode cL_law 661 = .ok (.iconst 0, 1) := by decide +kernel
theorem dL_law_662 : decode cL_law 662 = .ok (.laload, 1) := by decide +kernel
theorem dL_law_663 : decode cL_law 663 = .ok (.iload 6, 2) := by decide +kernel
theorem dL_law_665 : decode cL_law 665 = .ok (.i2l, 1) := by decide +kernel
theorem dL_law_666 : decode cL_law 666 = .ok (.lcmp, 1) := by decide +kernel
theorem dL_law_667 : decode cL_law 667 = .ok (.ifCond .eq 5, 3) := by decide +kernel
theorem dL_law_670 : decode cL_law 670 = .ok (.iconst 0, 1) := by decide +kernel
theorem dL_law_671 : decode cL_law 671 = .ok (.ireturn, 1) := by decide +kernel
theorem dL_law_672 : decode cL_law 672 = .ok (.goto 524, 3) := by decide +kernel
theorem dL_law_675 : decode cL_law 675 = .ok (.aload_n 1, 1) := by decide +kernel
theorem dL_law_676 : decode cL_law 676 = .ok (.aload_n 0, 1) := by decide +kernel
theorem dL_law_677 : decode cL_law 677 = .ok (.iload 4, 2) := by decide +kernel
theorem dL_law_679 : decode cL_law 679 = .ok (.iconst 1, 1) := by decide +kernel
theorem dL_law_680 : decode cL_law 680 = .ok (.iadd, 1) := by decide +kernel
theorem dL_law_681 : decode cL_law 681 = .ok (.iaload, 1) := by decide +kernel
theorem dL_law_682 : decode cL_law 682 = .ok (.aload_n 0, 1) := by decide +kernel
theorem dL_law_683 : decode cL_law 683 = .ok (.iload 4, 2) := by decide +kernel
theorem dL_law_685 : decode cL_law 685 = .ok (.iconst 2, 1) := by decide +kernel
theorem dL_law_686 : decode cL_law 686 = .ok (.iadd, 1) := by decide +kernel
theorem dL_law_687 : decode cL_law 687 = .ok (.iaload, 1) := by decide +kernel
theorem dL_law_688 : decode cL_law 688 = .ok (.aload_n 3, 1) := by decide +kernel
theorem dL_law_689 : decode cL_law 689 = .ok (.invokestatic 117, 3) := by decide +kernel
theorem dL_law_692 : decode cL_law 692 = .ok (.istore 5, 2) := by decide +kernel
theorem dL_law_694 : decode cL_law 694 = .ok (.aload_n 2, 1) := by decide +kernel
theorem dL_law_695 : decode cL_law 695 = .ok (.aload_n 0, 1) := by decide +kernel
theorem dL_law_696 : decode cL_law 696 = .ok (.iload 4, 2) := by decide +kernel
theorem dL_law_698 : decode cL_law 698 = .ok (.iconst 1, 1) := by decide +kernel
theorem dL_law_699 : decode cL_law 699 = .ok (.iadd, 1) := by decide +kernel
theorem dL_law_700 : decode cL_law 700 = .ok (.iaload, 1) := by decide +kernel
theorem dL_law_701 : decode cL_law 701 = .ok (.aload_n 0, 1) := by decide +kernel
theorem dL_law_702 : decode cL_law 702 = .ok (.iload 4, 2) := by decide +kernel
theorem dL_law_704 : decode cL_law 704 = .ok (.iconst 2, 1) := by decide +kernel
theorem dL_law_705 : decode cL_law 705 = .ok (.iadd, 1) := by decide +kernel
theorem dL_law_706 : decode cL_law 706 = .ok (.iaload, 1) := by decide +kernel
theorem dL_law_707 : decode cL_law 707 = .ok (.invokevirtual 119, 3) := by decide +kernel
theorem dL_law_710 : decode cL_law 710 = .ok (.istore 6, 2) := by decide +kernel
theorem dL_law_712 : decode cL_law 712 = .ok (.aload_n 2, 1) := by decide +kernel
theorem dL_law_713 : decode cL_law 713 = .ok (.invokevirtual 76, 3) := by decide +kernel
theorem dL_law_716 : decode cL_law 716 = .ok (.iload 5, 2) := by decide +kernel
theorem dL_law_718 : decode cL_law 718 = .ok (.if_icmp .eq 5, 3) := by decide +kernel
theorem dL_law_721 : decode cL_law 721 = .ok (.iconst 0, 1) := by decide +kernel
theorem dL_law_722 : decode cL_law 722 = .ok (.ireturn, 1) := by decide +kernel
theorem dL_law_723 : decode cL_law 723 = .ok (.iload 5, 2) := by decide +kernel
theorem dL_law_725 : decode cL_law 725 = .ok (.ifCond .ne 15, 3) := by decide +kernel
theorem dL_law_728 : decode cL_law 728 = .ok (.aload_n 3, 1) := by decide +kernel
theorem dL_law_729 : decode cL_law 729 = .ok (.iconst 0, 1) := by decide +kernel
theorem dL_law_730 : decode cL_law 730 = .ok (.laload, 1) := by decide +kernel
theorem dL_law_731 : decode cL_law 731 = .ok (.iload 6, 2) := by decide +kernel
theorem dL_law_733 : decode cL_law 733 = .ok (.i2l, 1) := by decide +kernel
theorem dL_law_734 : decode cL_law 734 = .ok (.lcmp, 1) := by decide +kernel
theorem dL_law_735 : decode cL_law 735 = .ok (.ifCond .eq 5, 3) := by decide +kernel
theorem dL_law_738 : decode cL_law 738 = .ok (.iconst 0, 1) := by decide +kernel
theorem dL_law_739 : decode cL_law 739 = .ok (.ireturn, 1) := by decide +kernel
theorem dL_law_740 : decode cL_law 740 = .ok (.goto 456, 3) := by decide +kernel
theorem dL_law_743 : decode cL_law 743 = .ok (.aload_n 1, 1) := by decide +kernel
theorem dL_law_744 : decode cL_law 744 = .ok (.aload_n 0, 1) := by decide +kernel
theorem dL_law_745 : decode cL_law 745 = .ok (.iload 4, 2) := by decide +kernel
theorem dL_law_747 : decode cL_law 747 = .ok (.iconst 1, 1) := by decide +kernel
theorem dL_law_748 : decode cL_law 748 = .ok (.iadd, 1) := by decide +kernel
theorem dL_law_749 : decode cL_law 749 = .ok (.iaload, 1) := by decide +kernel
theorem dL_law_750 : decode cL_law 750 = .ok (.aload_n 0, 1) := by decide +kernel
theorem dL_law_751 : decode cL_law 751 = .ok (.iload 4, 2) := by decide +kernel
theorem dL_law_753 : decode cL_law 753 = .ok (.iconst 2, 1) := by decide +kernel
theorem dL_law_754 : decode cL_law 754 = .ok (.iadd, 1) := by decide +kernel
theorem dL_law_755 : decode cL_law 755 = .ok (.iaload, 1) := by decide +kernel
theorem dL_law_756 : decode cL_law 756 = .ok (.aload_n 3, 1) := by decide +kernel
theorem dL_law_757 : decode cL_law 757 = .ok (.invokestatic 120, 3) := by decide +kernel
theorem dL_law_760 : decode cL_law 760 = .ok (.istore 5, 2) := by decide +kernel
theorem dL_law_762 : decode cL_law 762 = .ok (.aload_n 2, 1) := by decide +kernel
theorem dL_law_763 : decode cL_law 763 = .ok (.aload_n 0, 1) := by decide +kernel
theorem dL_law_764 : decode cL_law 764 = .ok (.iload 4, 2) := by decide +kernel
theorem dL_law_766 : decode cL_law 766 = .ok (.iconst 1, 1) := by decide +kernel
theorem dL_law_767 : decode cL_law 767 = .ok (.iadd, 1) := by decide +kernel
theorem dL_law_768 : decode cL_law 768 = .ok (.iaload, 1) := by decide +kernel
theorem dL_law_769 : decode cL_law 769 = .ok (.aload_n 0, 1) := by decide +kernel
theorem dL_law_770 : decode cL_law 770 = .ok (.iload 4, 2) := by decide +kernel
theorem dL_law_772 : decode cL_law 772 = .ok (.iconst 2, 1) := by decide +kernel
theorem dL_law_773 : decode cL_law 773 = .ok (.iadd, 1) := by decide +kernel
theorem dL_law_774 : decode cL_law 774 = .ok (.iaload, 1) := by decide +kernel
theorem dL_law_775 : decode cL_law 775 = .ok (.invokevirtual 122, 3) := by decide +kernel
theorem dL_law_778 : decode cL_law 778 = .ok (.istore 6, 2) := by decide +kernel
theorem dL_law_780 : decode cL_law 780 = .ok (.aload_n 2, 1) := by decide +kernel
theorem dL_law_781 : decode cL_law 781 = .ok (.invokevirtual 76, 3) := by decide +kernel
theorem dL_law_784 : decode cL_law 784 = .ok (.iload 5, 2) := by decide +kernel
theorem dL_law_786 : decode cL_law 786 = .ok (.if_icmp .eq 5, 3) := by decide +kernel
theorem dL_law_789 : decode cL_law 789 = .ok (.iconst 0, 1) := by decide +kernel
theorem dL_law_790 : decode cL_law 790 = .ok (.ireturn, 1) := by decide +kernel
theorem dL_law_791 : decode cL_law 791 = .ok (.iload 5, 2) := by decide +kernel
theorem dL_law_793 : decode cL_law 793 = .ok (.ifCond .ne 15, 3) := by decide +kernel
theorem dL_law_796 : decode cL_law 796 = .ok (.aload_n 3, 1) := by decide +kernel
theorem dL_law_797 : decode cL_law 797 = .ok (.iconst 0, 1) := by decide +kernel
theorem dL_law_798 : decode cL_law 798 = .ok (.laload, 1) := by decide +kernel
theorem dL_law_799 : decode cL_law 799 = .ok (.iload 6, 2) := by decide +kernel
theorem dL_law_801 : decode cL_law 801 = .ok (.i2l, 1) := by decide +kernel
theorem dL_law_802 : decode cL_law 802 = .ok (.lcmp, 1) := by decide +kernel
theorem dL_law_803 : decode cL_law 803 = .ok (.ifCond .eq 5, 3) := by decide +kernel
theorem dL_law_806 : decode cL_law 806 = .ok (.iconst 0, 1) := by decide +kernel
theorem dL_law_807 : decode cL_law 807 = .ok (.ireturn, 1) := by decide +kernel
theorem dL_law_808 : decode cL_law 808 = .ok (.goto 388, 3) := by decide +kernel
theorem dL_law_811 : decode cL_law 811 = .ok (.aload_n 1, 1) := by decide +kernel
theorem dL_law_812 : decode cL_law 812 = .ok (.aload_n 0, 1) := by decide +kernel
theorem dL_law_813 : decode cL_law 813 = .ok (.iload 4, 2) := by decide +kernel
theorem dL_law_815 : decode cL_law 815 = .ok (.iconst 1, 1) := by decide +kernel
theorem dL_law_816 : decode cL_law 816 = .ok (.iadd, 1) := by decide +kernel
theorem dL_law_817 : decode cL_law 817 = .ok (.iaload, 1) := by decide +kernel
theorem dL_law_818 : decode cL_law 818 = .ok (.aload_n 0, 1) := by decide +kernel
theorem dL_law_819 : decode cL_law 819 = .ok (.iload 4, 2) := by decide +kernel
theorem dL_law_821 : decode cL_law 821 = .ok (.iconst 2, 1) := by decide +kernel
theorem dL_law_822 : decode cL_law 822 = .ok (.iadd, 1) := by decide +kernel
theorem dL_law_823 : decode cL_law 823 = .ok (.iaload, 1) := by decide +kernel
theorem dL_law_824 : decode cL_law 824 = .ok (.aload_n 3, 1) := by decide +kernel
theorem dL_law_825 : decode cL_law 825 = .ok (.invokestatic 123, 3) := by decide +kernel
theorem dL_law_828 : decode cL_law 828 = .ok (.istore 5, 2) := by decide +kernel
theorem dL_law_830 : decode cL_law 830 = .ok (.aload_n 2, 1) := by decide +kernel
theorem dL_law_831 : decode cL_law 831 = .ok (.aload_n 0, 1) := by decide +kernel
theorem dL_law_832 : decode cL_law 832 = .ok (.iload 4, 2) := by decide +kernel
theorem dL_law_834 : decode cL_law 834 = .ok (.iconst 1, 1) := by decide +kernel
theorem dL_law_835 : decode cL_law 835 = .ok (.iadd, 1) := by decide +kernel
theorem dL_law_836 : decode cL_law 836 = .ok (.iaload, 1) := by decide +kernel
theorem dL_law_837 : decode cL_law 837 = .ok (.aload_n 0, 1) := by decide +kernel
theorem dL_law_838 : decode cL_law 838 = .ok (.iload 4, 2) := by decide +kernel
theorem dL_law_840 : decode cL_law 840 = .ok (.iconst 2, 1) := by decide +kernel
theorem dL_law_841 : decode cL_law 841 = .ok (.iadd, 1) := by decide +kernel
theorem dL_law_842 : decode cL_law 842 = .ok (.iaload, 1) := by decide +kernel
theorem dL_law_843 : decode cL_law 843 = .ok (.invokevirtual 125, 3) := by decide +kernel
theorem dL_law_846 : decode cL_law 846 = .ok (.istore 6, 2) := by decide +kernel
theorem dL_law_848 : decode cL_law 848 = .ok (.aload_n 2, 1) := by decide +kernel
theorem dL_law_849 : decode cL_law 849 = .ok (.invokevirtual 76, 3) := by decide +kernel
theorem dL_law_852 : decode cL_law 852 = .ok (.iload 5, 2) := by decide +kernel
theorem dL_law_854 : decode cL_law 854 = .ok (.if_icmp .eq 5, 3) := by decide +kernel
theorem dL_law_857 : decode cL_law 857 = .ok (.iconst 0, 1) := by decide +kernel
theorem dL_law_858 : decode cL_law 858 = .ok (.ireturn, 1) := by decide +kernel
theorem dL_law_859 : decode cL_law 859 = .ok (.iload 5, 2) := by decide +kernel
theorem dL_law_861 : decode cL_law 861 = .ok (.ifCond .ne 15, 3) := by decide +kernel
theorem dL_law_864 : decode cL_law 864 = .ok (.aload_n 3, 1) := by decide +kernel
theorem dL_law_865 : decode cL_law 865 = .ok (.iconst 0, 1) := by decide +kernel
theorem dL_law_866 : decode cL_law 866 = .ok (.laload, 1) := by decide +kernel
theorem dL_law_867 : decode cL_law 867 = .ok (.iload 6, 2) := by decide +kernel
theorem dL_law_869 : decode cL_law 869 = .ok (.i2l, 1) := by decide +kernel
theorem dL_law_870 : decode cL_law 870 = .ok (.lcmp, 1) := by decide +kernel
theorem dL_law_871 : decode cL_law 871 = .ok (.ifCond .eq 5, 3) := by decide +kernel
theorem dL_law_874 : decode cL_law 874 = .ok (.iconst 0, 1) := by decide +kernel
theorem dL_law_875 : decode cL_law 875 = .ok (.ireturn, 1) := by decide +kernel
theorem dL_law_876 : decode cL_law 876 = .ok (.goto 320, 3) := by decide +kernel
theorem dL_law_879 : decode cL_law 879 = .ok (.aload_n 1, 1) := by decide +kernel
theorem dL_law_880 : decode cL_law 880 = .ok (.aload_n 0, 1) := by decide +kernel
theorem dL_law_881 : decode cL_law 881 = .ok (.iload 4, 2) := by decide +kernel
theorem dL_law_883 : decode cL_law 883 = .ok (.iconst 1, 1) := by decide +kernel
theorem dL_law_884 : decode cL_law 884 = .ok (.iadd, 1) := by decide +kernel
theorem dL_law_885 : decode cL_law 885 = .ok (.iaload, 1) := by decide +kernel
theorem dL_law_886 : decode cL_law 886 = .ok (.aload_n 3, 1) := by decide +kernel
theorem dL_law_887 : decode cL_law 887 = .ok (.invokestatic 126, 3) := by decide +kernel
theorem dL_law_890 : decode cL_law 890 = .ok (.istore 5, 2) := by decide +kernel
theorem dL_law_892 : decode cL_law 892 = .ok (.aload_n 2, 1) := by decide +kernel
theorem dL_law_893 : decode cL_law 893 = .ok (.aload_n 0, 1) := by decide +kernel
theorem dL_law_894 : decode cL_law 894 = .ok (.iload 4, 2) := by decide +kernel
theorem dL_law_896 : decode cL_law 896 = .ok (.iconst 1, 1) := by decide +kernel
theorem dL_law_897 : decode cL_law 897 = .ok (.iadd, 1) := by decide +kernel
theorem dL_law_898 : decode cL_law 898 = .ok (.iaload, 1) := by decide +kernel
theorem dL_law_899 : decode cL_law 899 = .ok (.invokevirtual 128, 3) := by decide +kernel
theorem dL_law_902 : decode cL_law 902 = .ok (.istore 6, 2) := by decide +kernel
theorem dL_law_904 : decode cL_law 904 = .ok (.aload_n 2, 1) := by decide +kernel
theorem dL_law_905 : decode cL_law 905 = .ok (.invokevirtual 76, 3) := by decide +kernel
theorem dL_law_908 : decode cL_law 908 = .ok (.iload 5, 2) := by decide +kernel
theorem dL_law_910 : decode cL_law 910 = .ok (.if_icmp .eq 5, 3) := by decide +kernel
theorem dL_law_913 : decode cL_law 913 = .ok (.iconst 0, 1) := by decide +kernel
theorem dL_law_914 : decode cL_law 914 = .ok (.ireturn, 1) := by decide +kernel
theorem dL_law_915 : decode cL_law 915 = .ok (.iload 5, 2) := by decide +kernel
theorem dL_law_917 : decode cL_law 917 = .ok (.ifCond .ne 15, 3) := by decide +kernel
theorem dL_law_920 : decode cL_law 920 = .ok (.aload_n 3, 1) := by decide +kernel
theorem dL_law_921 : decode cL_law 921 = .ok (.iconst 0, 1) := by decide +kernel
theorem dL_law_922 : decode cL_law 922 = .ok (.laload, 1) := by decide +kernel
theorem dL_law_923 : decode cL_law 923 = .ok (.iload 6, 2) := by decide +kernel
theorem dL_law_925 : decode cL_law 925 = .ok (.i2l, 1) := by decide +kernel
theorem dL_law_926 : decode cL_law 926 = .ok (.lcmp, 1) := by decide +kernel
theorem dL_law_927 : decode cL_law 927 = .ok (.ifCond .eq 5, 3) := by decide +kernel
theorem dL_law_930 : decode cL_law 930 = .ok (.iconst 0, 1) := by decide +kernel
theorem dL_law_931 : decode cL_law 931 = .ok (.ireturn, 1) := by decide +kernel
theorem dL_law_932 : decode cL_law 932 = .ok (.goto 264, 3) := by decide +kernel
theorem dL_law_935 : decode cL_law 935 = .ok (.aload_n 1, 1) := by decide +kernel
theorem dL_law_936 : decode cL_law 936 = .ok (.aload_n 0, 1) := by decide +kernel
theorem dL_law_937 : decode cL_law 937 = .ok (.iload 4, 2) := by decide +kernel
theorem dL_law_939 : decode cL_law 939 = .ok (.iconst 1, 1) := by decide +kernel
theorem dL_law_940 : decode cL_law 940 = .ok (.iadd, 1) := by decide +kernel
theorem dL_law_941 : decode cL_law 941 = .ok (.iaload, 1) := by decide +kernel
theorem dL_law_942 : decode cL_law 942 = .ok (.aload_n 0, 1) := by decide +kernel
theorem dL_law_943 : decode cL_law 943 = .ok (.iload 4, 2) := by decide +kernel
theorem dL_law_945 : decode cL_law 945 = .ok (.iconst 2, 1) := by decide +kernel
theorem dL_law_946 : decode cL_law 946 = .ok (.iadd, 1) := by decide +kernel
theorem dL_law_947 : decode cL_law 947 = .ok (.iaload, 1) := by decide +kernel
theorem dL_law_948 : decode cL_law 948 = .ok (.aload_n 3, 1) := by decide +kernel
theorem dL_law_949 : decode cL_law 949 = .ok (.invokestatic 129, 3) := by decide +kernel
theorem dL_law_952 : decode cL_law 952 = .ok (.istore 5, 2) := by decide +kernel
theorem dL_law_954 : decode cL_law 954 = .ok (.aload_n 2, 1) := by decide +kernel
theorem dL_law_955 : decode cL_law 955 = .ok (.aload_n 0, 1) := by decide +kernel
theorem dL_law_956 : decode cL_law 956 = .ok (.iload 4, 2) := by decide +kernel
theorem dL_law_958 : decode cL_law 958 = .ok (.iconst 1, 1) := by decide +kernel
theorem dL_law_959 : decode cL_law 959 = .ok (.iadd, 1) := by decide +kernel
theorem dL_law_960 : decode cL_law 960 = .ok (.iaload, 1) := by decide +kernel
theorem dL_law_961 : decode cL_law 961 = .ok (.aload_n 0, 1) := by decide +kernel
theorem dL_law_962 : decode cL_law 962 = .ok (.iload 4, 2) := by decide +kernel
theorem dL_law_964 : decode cL_law 964 = .ok (.iconst 2, 1) := by decide +kernel
theorem dL_law_965 : decode cL_law 965 = .ok (.iadd, 1) := by decide +kernel
theorem dL_law_966 : decode cL_law 966 = .ok (.iaload, 1) := by decide +kernel
theorem dL_law_967 : decode cL_law 967 = .ok (.invokevirtual 131, 3) := by decide +kernel
theorem dL_law_970 : decode cL_law 970 = .ok (.istore 6, 2) := by decide +kernel
theorem dL_law_972 : decode cL_law 972 = .ok (.aload_n 2, 1) := by decide +kernel
theorem dL_law_973 : decode cL_law 973 = .ok (.invokevirtual 76, 3) := by decide +kernel
theorem dL_law_976 : decode cL_law 976 = .ok (.iload 5, 2) := by decide +kernel
theorem dL_law_978 : decode cL_law 978 = .ok (.if_icmp .eq 5, 3) := by decide +kernel
theorem dL_law_981 : decode cL_law 981 = .ok (.iconst 0, 1) := by decide +kernel
theorem dL_law_982 : decode cL_law 982 = .ok (.ireturn, 1) := by decide +kernel
theorem dL_law_983 : decode cL_law 983 = .ok (.iload 5, 2) := by decide +kernel
theorem dL_law_985 : decode cL_law 985 = .ok (.ifCond .ne 15, 3) := by decide +kernel
theorem dL_law_988 : decode cL_law 988 = .ok (.aload_n 3, 1) := by decide +kernel
theorem dL_law_989 : decode cL_law 989 = .ok (.iconst 0, 1) := by decide +kernel
theorem dL_law_990 : decode cL_law 990 = .ok (.laload, 1) := by decide +kernel
theorem dL_law_991 : decode cL_law 991 = .ok (.iload 6, 2) := by decide +kernel
theorem dL_law_993 : decode cL_law 993 = .ok (.i2l, 1) := by decide +kernel
theorem dL_law_994 : decode cL_law 994 = .ok (.lcmp, 1) := by decide +kernel
theorem dL_law_995 : decode cL_law 995 = .ok (.ifCond .eq 5, 3) := by decide +kernel
theorem dL_law_998 : decode cL_law 998 = .ok (.iconst 0, 1) := by decide +kernel
theorem dL_law_999 : decode cL_law 999 = .ok (.ireturn, 1) := by decide +kernel
theorem dL_law_1000 : decode cL_law 1000 = .ok (.goto 196, 3) := by decide +kernel
theorem dL_law_1003 : decode cL_law 1003 = .ok (.aload_n 1, 1) := by decide +kernel
theorem dL_law_1004 : decode cL_law 1004 = .ok (.aload_n 0, 1) := by decide +kernel
theorem dL_law_1005 : decode cL_law 1005 = .ok (.iload 4, 2) := by decide +kernel
theorem dL_law_1007 : decode cL_law 1007 = .ok (.iconst 1, 1) := by decide +kernel
theorem dL_law_1008 : decode cL_law 1008 = .ok (.iadd, 1) := by decide +kernel
theorem dL_law_1009 : decode cL_law 1009 = .ok (.iaload, 1) := by decide +kernel
theorem dL_law_1010 : decode cL_law 1010 = .ok (.aload_n 3, 1) := by decide +kernel
theorem dL_law_1011 : decode cL_law 1011 = .ok (.invokestatic 132, 3) := by decide +kernel
theorem dL_law_1014 : decode cL_law 1014 = .ok (.istore 5, 2) := by decide +kernel
theorem dL_law_1016 : decode cL_law 1016 = .ok (.aload_n 2, 1) := by decide +kernel
theorem dL_law_1017 : decode cL_law 1017 = .ok (.aload_n 0, 1) := by decide +kernel
theorem dL_law_1018 : decode cL_law 1018 = .ok (.iload 4, 2) := by decide +kernel
theorem dL_law_1020 : decode cL_law 1020 = .ok (.iconst 1, 1) := by decide +kernel
theorem dL_law_1021 : decode cL_law 1021 = .ok (.iadd, 1) := by decide +kernel
theorem dL_law_1022 : decode cL_law 1022 = .ok (.iaload, 1) := by decide +kernel
theorem dL_law_1023 : decode cL_law 1023 = .ok (.invokevirtual 134, 3) := by decide +kernel
theorem dL_law_1026 : decode cL_law 1026 = .ok (.istore 6, 2) := by decide +kernel
theorem dL_law_1028 : decode cL_law 1028 = .ok (.aload_n 2, 1) := by decide +kernel
theorem dL_law_1029 : decode cL_law 1029 = .ok (.invokevirtual 76, 3) := by decide +kernel
theorem dL_law_1032 : decode cL_law 1032 = .ok (.iload 5, 2) := by decide +kernel
theorem dL_law_1034 : decode cL_law 1034 = .ok (.if_icmp .eq 5, 3) := by decide +kernel
theorem dL_law_1037 : decode cL_law 1037 = .ok (.iconst 0, 1) := by decide +kernel
theorem dL_law_1038 : decode cL_law 1038 = .ok (.ireturn, 1) := by decide +kernel
theorem dL_law_1039 : decode cL_law 1039 = .ok (.iload 5, 2) := by decide +kernel
theorem dL_law_1041 : decode cL_law 1041 = .ok (.ifCond .ne 15, 3) := by decide +kernel
theorem dL_law_1044 : decode cL_law 1044 = .ok (.aload_n 3, 1) := by decide +kernel
theorem dL_law_1045 : decode cL_law 1045 = .ok (.iconst 0, 1) := by decide +kernel
theorem dL_law_1046 : decode cL_law 1046 = .ok (.laload, 1) := by decide +kernel
theorem dL_law_1047 : decode cL_law 1047 = .ok (.iload 6, 2) := by decide +kernel
theorem dL_law_1049 : decode cL_law 1049 = .ok (.i2l, 1) := by decide +kernel
theorem dL_law_1050 : decode cL_law 1050 = .ok (.lcmp, 1) := by decide +kernel
theorem dL_law_1051 : decode cL_law 1051 = .ok (.ifCond .eq 5, 3) := by decide +kernel
theorem dL_law_1054 : decode cL_law 1054 = .ok (.iconst 0, 1) := by decide +kernel
theorem dL_law_1055 : decode cL_law 1055 = .ok (.ireturn, 1) := by decide +kernel
theorem dL_law_1056 : decode cL_law 1056 = .ok (.goto 140, 3) := by decide +kernel
theorem dL_law_1059 : decode cL_law 1059 = .ok (.aload_n 1, 1) := by decide +kernel
theorem dL_law_1060 : decode cL_law 1060 = .ok (.invokevirtual 135, 3) := by decide +kernel
theorem dL_law_1063 : decode cL_law 1063 = .ok (.aload_n 2, 1) := by decide +kernel
theorem dL_law_1064 : decode cL_law 1064 = .ok (.invokevirtual 138, 3) := by decide +kernel
theorem dL_law_1067 : decode cL_law 1067 = .ok (.if_icmp .eq 129, 3) := by decide +kernel
theorem dL_law_1070 : decode cL_law 1070 = .ok (.iconst 0, 1) := by decide +kernel
theorem dL_law_1071 : decode cL_law 1071 = .ok (.ireturn, 1) := by decide +kernel
theorem dL_law_1072 : decode cL_law 1072 = .ok (.aload_n 1, 1) := by decide +kernel
theorem dL_law_1073 : decode cL_law 1073 = .ok (.invokevirtual 139, 3) := by decide +kernel
theorem dL_law_1076 : decode cL_law 1076 = .ok (.aload_n 2, 1) := by decide +kernel
theorem dL_law_1077 : decode cL_law 1077 = .ok (.invokevirtual 142, 3) := by decide +kernel
theorem dL_law_1080 : decode cL_law 1080 = .ok (.if_icmp .eq 116, 3) := by decide +kernel
theorem dL_law_1083 : decode cL_law 1083 = .ok (.iconst 0, 1) := by decide +kernel
theorem dL_law_1084 : decode cL_law 1084 = .ok (.ireturn, 1) := by decide +kernel
theorem dL_law_1085 : decode cL_law 1085 = .ok (.aload_n 1, 1) := by decide +kernel
theorem dL_law_1086 : decode cL_law 1086 = .ok (.aload_n 0, 1) := by decide +kernel
theorem dL_law_1087 : decode cL_law 1087 = .ok (.iload 4, 2) := by decide +kernel
theorem dL_law_1089 : decode cL_law 1089 = .ok (.iconst 1, 1) := by decide +kernel
theorem dL_law_1090 : decode cL_law 1090 = .ok (.iadd, 1) := by decide +kernel
theorem dL_law_1091 : decode cL_law 1091 = .ok (.iaload, 1) := by decide +kernel
theorem dL_law_1092 : decode cL_law 1092 = .ok (.aload_n 3, 1) := by decide +kernel
theorem dL_law_1093 : decode cL_law 1093 = .ok (.invokestatic 143, 3) := by decide +kernel
theorem dL_law_1096 : decode cL_law 1096 = .ok (.istore 5, 2) := by decide +kernel
theorem dL_law_1098 : decode cL_law 1098 = .ok (.aload_n 2, 1) := by decide +kernel
theorem dL_law_1099 : decode cL_law 1099 = .ok (.aload_n 0, 1) := by decide +kernel
theorem dL_law_1100 : decode cL_law 1100 = .ok (.iload 4, 2) := by decide +kernel
theorem dL_law_1102 : decode cL_law 1102 = .ok (.iconst 1, 1) := by decide +kernel
theorem dL_law_1103 : decode cL_law 1103 = .ok (.iadd, 1) := by decide +kernel
theorem dL_law_1104 : decode cL_law 1104 = .ok (.iaload, 1) := by decide +kernel
theorem dL_law_1105 : decode cL_law 1105 = .ok (.invokevirtual 145, 3) := by decide +kernel
theorem dL_law_1108 : decode cL_law 1108 = .ok (.istore 6, 2) := by decide +kernel
theorem dL_law_1110 : decode cL_law 1110 = .ok (.aload_n 2, 1) := by decide +kernel
theorem dL_law_1111 : decode cL_law 1111 = .ok (.invokevirtual 76, 3) := by decide +kernel
theorem dL_law_1114 : decode cL_law 1114 = .ok (.iload 5, 2) := by decide +kernel
theorem dL_law_1116 : decode cL_law 1116 = .ok (.if_icmp .eq 5, 3) := by decide +kernel
theorem dL_law_1119 : decode cL_law 1119 = .ok (.iconst 0, 1) := by decide +kernel
theorem dL_law_1120 : decode cL_law 1120 = .ok (.ireturn, 1) := by decide +kernel
theorem dL_law_1121 : decode cL_law 1121 = .ok (.iload 5, 2) := by decide +kernel
theorem dL_law_1123 : decode cL_law 1123 = .ok (.ifCond .ne 15, 3) := by decide +kernel
theorem dL_law_1126 : decode cL_law 1126 = .ok (.aload_n 3, 1) := by decide +kernel
theorem dL_law_1127 : decode cL_law 1127 = .ok (.iconst 0, 1) := by decide +kernel
theorem dL_law_1128 : decode cL_law 1128 = .ok (.laload, 1) := by decide +kernel
theorem dL_law_1129 : decode cL_law 1129 = .ok (.iload 6, 2) := by decide +kernel
theorem dL_law_1131 : decode cL_law 1131 = .ok (.i2l, 1) := by decide +kernel
theorem dL_law_1132 : decode cL_law 1132 = .ok (.lcmp, 1) := by decide +kernel
theorem dL_law_1133 : decode cL_law 1133 = .ok (.ifCond .eq 5, 3) := by decide +kernel
theorem dL_law_1136 : decode cL_law 1136 = .ok (.iconst 0, 1) := by decide +kernel
theorem dL_law_1137 : decode cL_law 1137 = .ok (.ireturn, 1) := by decide +kernel
theorem dL_law_1138 : decode cL_law 1138 = .ok (.goto 58, 3) := by decide +kernel
theorem dL_law_1141 : decode cL_law 1141 = .ok (.aload_n 1, 1) := by decide +kernel
theorem dL_law_1142 : decode cL_law 1142 = .ok (.invokevirtual 146, 3) := by decide +kernel
theorem dL_law_1145 : decode cL_law 1145 = .ok (.dstore 5, 2) := by decide +kernel
theorem dL_law_1147 : decode cL_law 1147 = .ok (.aload_n 2, 1) := by decide +kernel
theorem dL_law_1148 : decode cL_law 1148 = .ok (.invokevirtual 150, 3) := by decide +kernel
theorem dL_law_1151 : decode cL_law 1151 = .ok (.dstore 7, 2) := by decide +kernel
theorem dL_law_1153 : decode cL_law 1153 = .ok (.dload 5, 2) := by decide +kernel
theorem dL_law_1155 : decode cL_law 1155 = .ok (.dload 7, 2) := by decide +kernel
theorem dL_law_1157 : decode cL_law 1157 = .ok (.dcmp .l, 1) := by decide +kernel
theorem dL_law_1158 : decode cL_law 1158 = .ok (.ifCond .eq 21, 3) := by decide +kernel
theorem dL_law_1161 : decode cL_law 1161 = .ok (.dload 5, 2) := by decide +kernel
theorem dL_law_1163 : decode cL_law 1163 = .ok (.dload 5, 2) := by decide +kernel
theorem dL_law_1165 : decode cL_law 1165 = .ok (.dcmp .l, 1) := by decide +kernel
theorem dL_law_1166 : decode cL_law 1166 = .ok (.ifCond .eq 11, 3) := by decide +kernel
theorem dL_law_1169 : decode cL_law 1169 = .ok (.dload 7, 2) := by decide +kernel
theorem dL_law_1171 : decode cL_law 1171 = .ok (.dload 7, 2) := by decide +kernel
theorem dL_law_1173 : decode cL_law 1173 = .ok (.dcmp .l, 1) := by decide +kernel
theorem dL_law_1174 : decode cL_law 1174 = .ok (.ifCond .ne 5, 3) := by decide +kernel
theorem dL_law_1177 : decode cL_law 1177 = .ok (.iconst 0, 1) := by decide +kernel
theorem dL_law_1178 : decode cL_law 1178 = .ok (.ireturn, 1) := by decide +kernel
theorem dL_law_1179 : decode cL_law 1179 = .ok (.goto 17, 3) := by decide +kernel
theorem dL_law_1182 : decode cL_law 1182 = .ok (.aload_n 1, 1) := by decide +kernel
theorem dL_law_1183 : decode cL_law 1183 = .ok (.invokevirtual 151, 3) := by decide +kernel
theorem dL_law_1186 : decode cL_law 1186 = .ok (.aload_n 2, 1) := by decide +kernel
theorem dL_law_1187 : decode cL_law 1187 = .ok (.invokevirtual 155, 3) := by decide +kernel
theorem dL_law_1190 : decode cL_law 1190 = .ok (.lcmp, 1) := by decide +kernel
theorem dL_law_1191 : decode cL_law 1191 = .ok (.ifCond .eq 5, 3) := by decide +kernel
theorem dL_law_1194 : decode cL_law 1194 = .ok (.iconst 0, 1) := by decide +kernel
theorem dL_law_1195 : decode cL_law 1195 = .ok (.ireturn, 1) := by decide +kernel
theorem dL_law_1196 : decode cL_law 1196 = .ok (.iinc 4 3, 3) := by decide +kernel
theorem dL_law_1199 : decode cL_law 1199 = .ok (.goto (-1176), 3) := by decide +kernel
theorem dL_law_1202 : decode cL_law 1202 = .ok (.iconst 1, 1) := by decide +kernel
theorem dL_law_1203 : decode cL_law 1203 = .ok (.ireturn, 1) := by decide +kernel
